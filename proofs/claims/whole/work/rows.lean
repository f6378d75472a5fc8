section
-- ===== PART A: goes FIRST, ahead of the names: the tables' words, and 'selects' of the private methods out of them =====
/-- a private method of a class that the tables say can be made, by its rows of tables_1 -/
def lw_okq (q : MethodName × Nat) : Prop := (q.1.cls ≠ "java/lang/invoke/MethodHandle" ∧ q.1.cls ≠ "java/lang/invoke/VarHandle") ∧ Cond.instantiable q.1.cls q.2 ∈ tables_1 ∧ Cond.privateMethod q.1 ∈ tables_1 ∧ Cond.instanceMethod q.1 ∈ tables_1
theorem lw_p0 : lw_okq (⟨"GroupDesk$Places", "putBack", "(I)V"⟩, 9) := ⟨⟨by decide +kernel, by decide +kernel⟩, List.mem_of_getElem? (i := 50) (by decide +kernel), List.mem_of_getElem? (i := 107) (by decide +kernel), List.mem_of_getElem? (i := 108) (by decide +kernel)⟩
theorem lw_p1 : lw_okq (⟨"GroupDesk$Places", "untell", "(II)V"⟩, 9) := ⟨⟨by decide +kernel, by decide +kernel⟩, List.mem_of_getElem? (i := 50) (by decide +kernel), List.mem_of_getElem? (i := 111) (by decide +kernel), List.mem_of_getElem? (i := 112) (by decide +kernel)⟩
theorem lw_p2 : lw_okq (⟨"GroupDesk$Rows", "isRow", "(I)Z"⟩, 8) := ⟨⟨by decide +kernel, by decide +kernel⟩, List.mem_of_getElem? (i := 18) (by decide +kernel), List.mem_of_getElem? (i := 119) (by decide +kernel), List.mem_of_getElem? (i := 120) (by decide +kernel)⟩
theorem lw_p3 : lw_okq (⟨"GroupDesk$Places", "tell", "(II)V"⟩, 9) := ⟨⟨by decide +kernel, by decide +kernel⟩, List.mem_of_getElem? (i := 50) (by decide +kernel), List.mem_of_getElem? (i := 137) (by decide +kernel), List.mem_of_getElem? (i := 138) (by decide +kernel)⟩
theorem lw_p4 : lw_okq (⟨"GroupDesk$Places", "forgetSaved", "(I)V"⟩, 9) := ⟨⟨by decide +kernel, by decide +kernel⟩, List.mem_of_getElem? (i := 50) (by decide +kernel), List.mem_of_getElem? (i := 145) (by decide +kernel), List.mem_of_getElem? (i := 146) (by decide +kernel)⟩
theorem lw_p5 : lw_okq (⟨"GroupDesk$Places", "moveSaved", "(II)V"⟩, 9) := ⟨⟨by decide +kernel, by decide +kernel⟩, List.mem_of_getElem? (i := 50) (by decide +kernel), List.mem_of_getElem? (i := 149) (by decide +kernel), List.mem_of_getElem? (i := 150) (by decide +kernel)⟩
theorem lw_p6 : lw_okq (⟨"GroupDesk$Places", "mustSave", "(I)Z"⟩, 9) := ⟨⟨by decide +kernel, by decide +kernel⟩, List.mem_of_getElem? (i := 50) (by decide +kernel), List.mem_of_getElem? (i := 153) (by decide +kernel), List.mem_of_getElem? (i := 154) (by decide +kernel)⟩
theorem lw_p7 : lw_okq (⟨"GroupDesk$Places", "save", "(I)V"⟩, 9) := ⟨⟨by decide +kernel, by decide +kernel⟩, List.mem_of_getElem? (i := 50) (by decide +kernel), List.mem_of_getElem? (i := 157) (by decide +kernel), List.mem_of_getElem? (i := 158) (by decide +kernel)⟩
theorem lw_p8 : lw_okq (⟨"java/lang/Throwable", "fillInStackTrace", "(I)Ljava/lang/Throwable;"⟩, 6) := ⟨⟨by decide +kernel, by decide +kernel⟩, List.mem_of_getElem? (i := 263) (by decide +kernel), List.mem_of_getElem? (i := 261) (by decide +kernel), List.mem_of_getElem? (i := 262) (by decide +kernel)⟩
theorem lw_p9 : lw_okq (⟨"GroupDesk", "rowOf", "(I)I"⟩, 2) := ⟨⟨by decide +kernel, by decide +kernel⟩, List.mem_of_getElem? (i := 10) (by decide +kernel), List.mem_of_getElem? (i := 316) (by decide +kernel), List.mem_of_getElem? (i := 317) (by decide +kernel)⟩
theorem lw_p10 : lw_okq (⟨"GroupDeskModel", "drop", "(II)V"⟩, 11) := ⟨⟨by decide +kernel, by decide +kernel⟩, List.mem_of_getElem? (i := 331) (by decide +kernel), List.mem_of_getElem? (i := 383) (by decide +kernel), List.mem_of_getElem? (i := 384) (by decide +kernel)⟩
theorem lw_p11 : lw_okq (⟨"GroupDeskModel", "assign", "(IIIZ)V"⟩, 11) := ⟨⟨by decide +kernel, by decide +kernel⟩, List.mem_of_getElem? (i := 331) (by decide +kernel), List.mem_of_getElem? (i := 394) (by decide +kernel), List.mem_of_getElem? (i := 395) (by decide +kernel)⟩
theorem lw_p12 : lw_okq (⟨"GroupDeskModel", "fails", "()I"⟩, 11) := ⟨⟨by decide +kernel, by decide +kernel⟩, List.mem_of_getElem? (i := 331) (by decide +kernel), List.mem_of_getElem? (i := 413) (by decide +kernel), List.mem_of_getElem? (i := 414) (by decide +kernel)⟩
theorem lw_p13 : lw_okq (⟨"GroupDeskModel", "taken", "()I"⟩, 11) := ⟨⟨by decide +kernel, by decide +kernel⟩, List.mem_of_getElem? (i := 331) (by decide +kernel), List.mem_of_getElem? (i := 417) (by decide +kernel), List.mem_of_getElem? (i := 418) (by decide +kernel)⟩
theorem lw_p14 : lw_okq (⟨"GroupDeskModel", "size", "(I)I"⟩, 11) := ⟨⟨by decide +kernel, by decide +kernel⟩, List.mem_of_getElem? (i := 331) (by decide +kernel), List.mem_of_getElem? (i := 421) (by decide +kernel), List.mem_of_getElem? (i := 422) (by decide +kernel)⟩
theorem lw_p15 : lw_okq (⟨"GroupDeskModel", "kindOf", "(I)I"⟩, 11) := ⟨⟨by decide +kernel, by decide +kernel⟩, List.mem_of_getElem? (i := 331) (by decide +kernel), List.mem_of_getElem? (i := 429) (by decide +kernel), List.mem_of_getElem? (i := 430) (by decide +kernel)⟩
def lw_privs_1 : List (MethodName × Nat) := [(⟨"GroupDesk$Places", "putBack", "(I)V"⟩, 9), (⟨"GroupDesk$Places", "untell", "(II)V"⟩, 9), (⟨"GroupDesk$Rows", "isRow", "(I)Z"⟩, 8), (⟨"GroupDesk$Places", "tell", "(II)V"⟩, 9), (⟨"GroupDesk$Places", "forgetSaved", "(I)V"⟩, 9), (⟨"GroupDesk$Places", "moveSaved", "(II)V"⟩, 9), (⟨"GroupDesk$Places", "mustSave", "(I)Z"⟩, 9), (⟨"GroupDesk$Places", "save", "(I)V"⟩, 9), (⟨"java/lang/Throwable", "fillInStackTrace", "(I)Ljava/lang/Throwable;"⟩, 6), (⟨"GroupDesk", "rowOf", "(I)I"⟩, 2), (⟨"GroupDeskModel", "drop", "(II)V"⟩, 11), (⟨"GroupDeskModel", "assign", "(IIIZ)V"⟩, 11), (⟨"GroupDeskModel", "fails", "()I"⟩, 11), (⟨"GroupDeskModel", "taken", "()I"⟩, 11), (⟨"GroupDeskModel", "size", "(I)I"⟩, 11), (⟨"GroupDeskModel", "kindOf", "(I)I"⟩, 11)]
theorem lw_r1 : ∀ q ∈ lw_privs_1, lw_okq q := List.forall_mem_cons.mpr ⟨lw_p0, List.forall_mem_cons.mpr ⟨lw_p1, List.forall_mem_cons.mpr ⟨lw_p2, List.forall_mem_cons.mpr ⟨lw_p3, List.forall_mem_cons.mpr ⟨lw_p4, List.forall_mem_cons.mpr ⟨lw_p5, List.forall_mem_cons.mpr ⟨lw_p6, List.forall_mem_cons.mpr ⟨lw_p7, List.forall_mem_cons.mpr ⟨lw_p8, List.forall_mem_cons.mpr ⟨lw_p9, List.forall_mem_cons.mpr ⟨lw_p10, List.forall_mem_cons.mpr ⟨lw_p11, List.forall_mem_cons.mpr ⟨lw_p12, List.forall_mem_cons.mpr ⟨lw_p13, List.forall_mem_cons.mpr ⟨lw_p14, List.forall_mem_cons.mpr ⟨lw_p15, fun _ h => absurd h List.not_mem_nil⟩⟩⟩⟩⟩⟩⟩⟩⟩⟩⟩⟩⟩⟩⟩⟩
theorem lw_p16 : lw_okq (⟨"GroupDeskModel", "last", "(I)I"⟩, 11) := ⟨⟨by decide +kernel, by decide +kernel⟩, List.mem_of_getElem? (i := 331) (by decide +kernel), List.mem_of_getElem? (i := 433) (by decide +kernel), List.mem_of_getElem? (i := 434) (by decide +kernel)⟩
theorem lw_p17 : lw_okq (⟨"GroupDeskModel", "valueOf", "(I)I"⟩, 11) := ⟨⟨by decide +kernel, by decide +kernel⟩, List.mem_of_getElem? (i := 331) (by decide +kernel), List.mem_of_getElem? (i := 437) (by decide +kernel), List.mem_of_getElem? (i := 438) (by decide +kernel)⟩
theorem lw_p18 : lw_okq (⟨"GroupDeskModel", "kept", "()I"⟩, 11) := ⟨⟨by decide +kernel, by decide +kernel⟩, List.mem_of_getElem? (i := 331) (by decide +kernel), List.mem_of_getElem? (i := 461) (by decide +kernel), List.mem_of_getElem? (i := 462) (by decide +kernel)⟩
def lw_privs_2 : List (MethodName × Nat) := [(⟨"GroupDeskModel", "last", "(I)I"⟩, 11), (⟨"GroupDeskModel", "valueOf", "(I)I"⟩, 11), (⟨"GroupDeskModel", "kept", "()I"⟩, 11)]
theorem lw_r2 : ∀ q ∈ lw_privs_2, lw_okq q := List.forall_mem_cons.mpr ⟨lw_p16, List.forall_mem_cons.mpr ⟨lw_p17, List.forall_mem_cons.mpr ⟨lw_p18, fun _ h => absurd h List.not_mem_nil⟩⟩⟩
def lw_privs : List (MethodName × Nat) := lw_privs_1 ++ (lw_privs_2)
def lw_tbl : List Cond := k2_sels lw_privs ++ tables_1
theorem lw_privs_ok : ∀ q ∈ lw_privs, lw_okq q := by
  show ∀ q ∈ lw_privs_1 ++ (lw_privs_2), lw_okq q
  exact List.forall_mem_append.mpr ⟨lw_r1, lw_r2⟩
end
section
/-! ===== BEGIN words of one list among another's, by their places ===== -/
theorem goodIn_r {big : List Cond} (ws : List Cond) (ps : List Nat) (hp : ws = ps.filterMap (fun i => big[i]?)) (h : ws.all goodWord = true) : GoodIn big ws := by
  intro w hw
  have h1 := List.all_eq_true.mp h w hw
  rw [hp] at hw
  obtain ⟨i, -, hi⟩ := List.mem_filterMap.mp hw
  have hm : w ∈ big := by first | exact List.mem_of_getElem? hi | exact List.getElem?_mem hi
  exact ⟨hm, good_of_word h1⟩
theorem goodIn_app {big a b : List Cond} (ha : GoodIn big a) (hb : GoodIn big b) : GoodIn big (a ++ b) := fun w h => (List.mem_append.mp h).elim (ha w) (hb w)
theorem goodIn_ca {big a b : List Cond} {c : Cond} (ha : GoodIn big (c :: a)) (hb : GoodIn big b) : GoodIn big (c :: (a ++ b)) := fun w h => (List.mem_cons.mp h).elim (fun e => ha w (List.mem_cons.mpr (Or.inl e))) (fun h => (List.mem_append.mp h).elim (fun h => ha w (List.mem_cons.mpr (Or.inr h))) (hb w))
theorem goodIn_sub {big ws : List Cond} (hm : ∀ w ∈ ws, w ∈ big) (h : ws.all goodWord = true) : GoodIn big ws := fun w hw => ⟨hm w hw, good_of_word (List.all_eq_true.mp h w hw)⟩
/-! ===== END ===== -/

/-! ===== BEGIN exceptions that leave a method, and their catching by the caller (launches without stack traces) ===== -/
section VXA
/-! The laws vx_back, vx_callV, vx_callS, vx_callSW, vx_throw0, vx_throwS follow proofs of the library, with one case more: JvmDerived/Free/Laws.lean (Back.of_free), Shelf42/LK1.lean (callV, callS), Shelf/KitTraced.lean (throwNew0V, throwNewS). -/
/-- where a method has thrown q: the class by its name, the cell, what was written, the world -/
def vx_T (XC : String → State → State → Prop) (st : State) (q : Addr) (t : State) (mc ms : Nat) (free : Addr → Prop) : Prop :=
  ∃ (E : String) (ce : Cell) (L : List Loc), XC E st t ∧ t.heap[q]? = some ce ∧ ce.vm = .none ∧ st.vm.findClass E = some ce.cls ∧ st.WarmedH t.vm ∧ st.sameButNew ({ t with vm := st.vm } : State) L mc ms ∧ ∀ z ∈ L, free z.base
def vx_Q (Qc : Array Value → State → Outcome → State → Prop) (XC : String → State → State → Prop) (mc ms : Nat) (free : Addr → Prop) : Array Value → State → Outcome → State → Prop := fun a st o t =>
  (Qc a st o t ∧ ∃ L, FrameEnd st o t L mc ms ∧ ∀ q ∈ L, free q.base) ∨ ∃ q, o = .threw q ∧ vx_T XC st q t mc ms free
/-- a callee that returns or throws -/
def vx_Met (l : Launch) (y : MethodName) (ws : List Cond) (rm : Room) (Pc : Array Value → State → Prop) (Qc : Array Value → State → Outcome → State → Prop) (XC : String → State → State → Prop) (mc ms : Nat) (free : Addr → Prop) : Prop :=
  MetFree l y (headSpec ws rm) Pc (fun _ _ _ _ _ => True) (vx_Q Qc XC mc ms free)
def vx_Post (XC : String → State → State → Prop) (mc ms : Nat) (free : Addr → Prop) : Pt → Array Value → Addr → Pt → Prop := fun A a q B =>
  ∃ (g : JFrame) (mk : MethodId) (t : State) (L : List Loc) (E : String) (ce : Cell), B.U.heap = t.heap ∧ B.U.vm = t.vm ∧ XC E (A.U.calling g mk a) t ∧ t.heap[q]? = some ce ∧ ce.vm = .none ∧ A.U.vm.findClass E = some ce.cls ∧ B.locs = A.locs ++ L ∧ (∀ z ∈ L, free z.base) ∧ B.cells = A.cells + mc ∧ B.slots = A.slots + ms
def vx_Back (l : Launch) (R : Room) (p : Program) (e : Env) (below : List Frame) (s : State) (sargs : Array Value) (y : MethodName) (len W9 : Nat)
    (Pre : Pt → Array Value → Prop) (Post : Pt → Array Value → Option Value → Pt → Prop) (PostX : Pt → Array Value → Addr → Pt → Prop) : Prop :=
  ∀ (m : MethodId) (meth : Method) (c : Code) (A : Pt) (g : JFrame) (ig : Instr) (mk : MethodId) (a : Array Value),
    Stand p l e R s m sargs below meth c A.U A.locs A.cells A.slots → g.method = m → g.locals.size = c.maxLocals → decode c.code g.pc = .ok (ig, len) →
    2 * g.monitorRoom + (g.stack.map fun v => v.category).sum ≤ W9 → A.U.methodNamed? y = some mk → Pre A a →
    (∃ (v : Option Value) (B : Pt), Stand p l e R s m sargs below meth c B.U B.locs B.cells B.slots ∧ Post A a v B ∧
      Steps p.tables e below (doInvoke e (A.U.setTop g) [] mk a).1 (B.U.setTop { g with pc := g.pc + len, stack := v.toList ++ g.stack })) ∨
    (∃ (q : Addr) (B : Pt), Stand p l e R s m sargs below meth c B.U B.locs B.cells B.slots ∧ PostX A a q B ∧
      Steps p.tables e below (doInvoke e (A.U.setTop g) [] mk a).1 ((B.U.setTop g).pushFrame (.throwing q)))
section Payer
variable {l : Launch} {R : Room} {p : Program} {e : Env} {below : List Frame} {s : State} {sargs : Array Value} {y : MethodName} {len W9 : Nat}
theorem vx_back {ws : List Cond} {rm : Room} {Pc : Array Value → State → Prop} {Qc : Array Value → State → Outcome → State → Prop} {XC : String → State → State → Prop} {mc ms : Nat} {free : Addr → Prop} {bytes : ByteArray} {maxL : Nat} {ret : Option FieldType}
    (hM : vx_Met l y ws rm Pc Qc XC mc ms free) (hblind : FrameBlind Pc) (hrc : rm.cells = mc) (hrs : rm.slots = ms)
    (hframes : rm.frames + 1 ≤ R.frames) (hlocals : W9 + (maxL + 11) + rm.locals ≤ R.locals)
    (hws : ∀ w ∈ ws, ∀ a' U, s.WarmedH U.vm → w.before a' U = true) (hcode : Cond.code y bytes maxL ret ∈ ws) (hinit : ∀ a' U, s.WarmedH U.vm → (Cond.initialized y.cls).before a' U = true) :
    vx_Back l R p e below s sargs y len W9 (PreOf R mc ms Pc) (PostOf Qc mc ms free) (vx_Post XC mc ms free) := by
  intro m meth c A g ig mk a X hg hsize hdg hW hn hp
  have h1 : (headSpec ws rm).pre.before a A.U = true := atoms_intro fun w hw => hws w hw _ _ X.warmed
  have h2 : (Cond.code y bytes maxL ret).before a A.U = true := hws _ hcode _ _ X.warmed
  have h3 : (Cond.initialized y.cls).before a A.U = true := hinit _ _ X.warmed
  have h4 : A.cells + (headSpec ws rm).room.cells ≤ R.cells := by rw [show (headSpec ws rm).room.cells = mc from hrc]; exact hp.1
  have h5 : A.slots + (headSpec ws rm).room.slots ≤ R.slots := by rw [show (headSpec ws rm).room.slots = ms from hrs]; exact hp.2.1
  have hPc : Pc a (A.U.calling g mk a) := hblind _ _ _ _ hp.2.2
  obtain ⟨U, Ls, c0, s0⟩ := A
  dsimp only [Pt.U, Pt.locs, Pt.cells, Pt.slots] at h1 h2 h3 h4 h5 X hn hPc ⊢
  obtain ⟨methY, cY, hmY, hcY, -, hlY, -, -, -, -⟩ := Cond.code_spec hn h2
  obtain ⟨kY, hkY, -⟩ := className_of_methodNamed hn
  have hinitY : kY.init = .initialized := Cond.initialized_spec (findClass_of_methodNamed hn) hkY h3
  have h : At U g.method c below := by rw [hg]; exact X.here
  have hlocals9 : W9 + (maxL + 11) + (headSpec ws rm).room.locals ≤ R.locals := hlocals
  have happ : (headSpec ws rm).appliesLoose y e.platform (U.calling g mk a) = true :=
    Spec.appliesLoose_calling (g := g) h hdg hn hkY hinitY
      (X.room_calling (g := g) (R' := (headSpec ws rm).room) hsize hmY hcY hframes (by rw [hlY]; omega) h4 h5) h1
  obtain ⟨mid, hmid⟩ := h.above
  have hfr : (U.setTop g).frames = (.java g :: mid) ++ below := by rw [State.frames_setTop' g h.top, hmid]; rfl
  obtain ⟨o, s₂, hsteps, -, hend, hq⟩ := Steps.callFree hM p X.admits X.cas X.clock (acts := []) hfr happ hPc trivial
  have hq' : vx_Q Qc XC mc ms free a (U.calling g mk a) o s₂ := hq
  rw [State.frames_setTop' g h.top] at hend
  obtain ⟨g₀, hg0⟩ := Option.isSome_iff_exists.mp h.top
  obtain ⟨r, hr⟩ := State.topJava?_eq_some.mp hg0
  have hr' : (({ U with heap := s₂.heap, slotsUsed := s₂.slotsUsed } : State).setVm s₂.vm).frames = .java g₀ :: r := hr
  rcases hq' with ⟨hqc, L, hfe, hL⟩ | ⟨q, rfl, E, ce, L, hx, hce, hcv, hcl, hW₂, hsm, hL⟩
  · obtain ⟨⟨v, rfl⟩, hW₂, e2, q2, q3, q4, q5, q6⟩ := id hfe
    have e3 : s₂ = ({ (U.calling g mk a).setFrames s₂.frames with heap := s₂.heap, slotsUsed := s₂.slotsUsed } : State).setVm s₂.vm := by
      have : s₂ = ({ s₂ with vm := (U.calling g mk a).vm } : State).setVm s₂.vm := rfl
      rw [e2] at this
      exact this
    obtain ⟨c₂, i₂, len₂, hc₂, hd₂, hf₂⟩ := hend
    have hW' : U.WarmedH s₂.vm := hW₂
    have hcc : c₂ = c := by
      have h1 : s₂.code? g.method = U.code? g.method := by
        rw [State.code?_eq, State.code?_eq, hW'.alike.method?]
      exact Option.some.inj (hc₂.symm.trans (h1.trans h.code))
    subst hcc
    have hlen : len₂ = len := by rw [hdg] at hd₂; cases hd₂; rfl
    subst hlen
    have hs₂ : s₂ = (({ U with heap := s₂.heap, slotsUsed := s₂.slotsUsed } : State).setVm s₂.vm).setTop { g with pc := g.pc + len₂, stack := v.toList ++ g.stack } := by
      refine e3.trans ?_
      rw [hf₂, State.calling_eq h.top, State.setFrames_setFrames, State.setTop_of_frames _ hr', hr]
      rfl
    have hsame : U.sameButNew ({ U with heap := s₂.heap, slotsUsed := s₂.slotsUsed } : State) L mc ms := by
      refine ⟨?_, q2, q3, q4, q5, q6⟩
      obtain ⟨t, ht, -⟩ := State.frames_cons hr
      show ({ U with heap := s₂.heap, slotsUsed := s₂.slotsUsed } : State) = { U.setFrames U.frames with heap := s₂.heap, slotsUsed := s₂.slotsUsed }
      rw [State.setFrames_self ht]
    subst hg
    refine Or.inl ⟨v, ⟨(({ U with heap := s₂.heap, slotsUsed := s₂.slotsUsed } : State).setVm s₂.vm), Ls ++ L, c0 + mc, s0 + ms⟩,
      ⟨X.admits, X.cas, X.clock, X.frames, X.room, X.hears, X.method, X.code, (X.here.setHeapUsed s₂.heap s₂.slotsUsed).setVm hW'.alike, X.tail, State.WarmedH.trans X.warmed hW', X.limits, X.bytes, X.same.trans (hsame.setVm s.vm)⟩,
      ⟨g, mk, s₂, L, rfl, rfl, hqc, rfl, hL, rfl, rfl⟩, ?_⟩
    show Steps p.tables e below _ ((({ U with heap := s₂.heap, slotsUsed := s₂.slotsUsed } : State).setVm s₂.vm).setTop { g with pc := g.pc + len₂, stack := v.toList ++ g.stack })
    rw [← hs₂]
    exact hsteps
  · obtain ⟨e2, q2, q3, q4, q5, q6⟩ := id hsm
    have e3 : s₂ = ({ (U.calling g mk a).setFrames s₂.frames with heap := s₂.heap, slotsUsed := s₂.slotsUsed } : State).setVm s₂.vm := by
      have : s₂ = ({ s₂ with vm := (U.calling g mk a).vm } : State).setVm s₂.vm := rfl
      rw [e2] at this
      exact this
    have hf₂ : s₂.frames = .throwing q :: .java g :: U.frames.tail := hend
    have hW' : U.WarmedH s₂.vm := hW₂
    have hs₂ : s₂ = ((({ U with heap := s₂.heap, slotsUsed := s₂.slotsUsed } : State).setVm s₂.vm).setTop g).pushFrame (.throwing q) := by
      refine e3.trans ?_
      rw [hf₂, State.calling_eq h.top, State.setFrames_setFrames, State.pushFrame, State.frames_setTop _ hr', State.setTop_of_frames _ hr', State.setFrames_setFrames, hr]
      rfl
    have hsame : U.sameButNew ({ U with heap := s₂.heap, slotsUsed := s₂.slotsUsed } : State) L mc ms := by
      refine ⟨?_, q2, q3, q4, q5, q6⟩
      obtain ⟨t, ht, -⟩ := State.frames_cons hr
      show ({ U with heap := s₂.heap, slotsUsed := s₂.slotsUsed } : State) = { U.setFrames U.frames with heap := s₂.heap, slotsUsed := s₂.slotsUsed }
      rw [State.setFrames_self ht]
    subst hg
    refine Or.inr ⟨q, ⟨(({ U with heap := s₂.heap, slotsUsed := s₂.slotsUsed } : State).setVm s₂.vm), Ls ++ L, c0 + mc, s0 + ms⟩,
      ⟨X.admits, X.cas, X.clock, X.frames, X.room, X.hears, X.method, X.code, (X.here.setHeapUsed s₂.heap s₂.slotsUsed).setVm hW'.alike, X.tail, State.WarmedH.trans X.warmed hW', X.limits, X.bytes, X.same.trans (hsame.setVm s.vm)⟩,
      ⟨g, mk, s₂, L, E, ce, rfl, rfl, hx, hce, hcv, hcl, rfl, hL, rfl, rfl⟩, ?_⟩
    show Steps p.tables e below _ (((({ U with heap := s₂.heap, slotsUsed := s₂.slotsUsed } : State).setVm s₂.vm).setTop g).pushFrame (.throwing q))
    rw [← hs₂]
    exact hsteps
end Payer
section Calls
variable {p : Program} {l : Launch} {e : Env} {R : Room} {s : State} {m : MethodId} {args : Array Value} {below : List Frame} {meth : Method} {c : Code} {T : State} {locs : List Loc} {cells slots : Nat}
theorem vx_callV (X : Stand p l e R s m args below meth c T locs cells slots) (hexec : p.tables.exec = Jvm.exec) {own C : String} {index : Nat} {y : MethodName} {bytes : ByteArray} {maxL : Nat} {ret : Option FieldType}
    (hown : s.vm.findClass own = some m.cls) (hlink : (Cond.methodLink own index y).before args s = true) (hinst : (Cond.instanceMethod y).before args s = true) (hsel : (Cond.selects C y y).before args s = true)
    (hcode : (Cond.code y bytes maxL ret).before args s = true) (hy : y.cls ≠ "java/lang/invoke/MethodHandle" ∧ y.cls ≠ "java/lang/invoke/VarHandle")
    {W9 : Nat} {Pre : Pt → Array Value → Prop} {Post : Pt → Array Value → Option Value → Pt → Prop} {PostX : Pt → Array Value → Addr → Pt → Prop} (hK : vx_Back l R p e below s args y 3 W9 Pre Post PostX)
    {b : Addr} {cellB : Cell} (hcell : T.heap[b]? = some cellB) (hobj : cellB.vm.isStatics = false) (hcls : s.vm.findClass C = some cellB.cls)
    {g : JFrame} (hg : g.method = m) (hsize : g.locals.size = c.maxLocals) {argsL rest : List Value} (hlen : ∀ sig, parseMethodDescriptor y.desc = some sig → argsL.length = sig.parameters.length)
    (hstack : g.stack = argsL.reverse ++ .ref b :: rest) (hW : 2 * g.monitorRoom + (rest.map fun v => v.category).sum ≤ W9) (hdg : decode c.code g.pc = .ok (.invokevirtual index, 3))
    (hpre : ∀ vm₁, s.WarmedH vm₁ → Pre ⟨T.setVm vm₁, locs, cells, slots⟩ (Value.ref b :: argsL).toArray) :
    (∃ (v : Option Value) (vm₁ : Vm) (B : Pt), s.WarmedH vm₁ ∧ Stand p l e R s m args below meth c B.U B.locs B.cells B.slots ∧ Post ⟨T.setVm vm₁, locs, cells, slots⟩ (Value.ref b :: argsL).toArray v B ∧
      ∀ target, Steps p.tables e below (B.U.setTop { g with pc := g.pc + 3, stack := v.toList ++ rest }) target → Steps p.tables e below (T.setTop g) target) ∨
    (∃ (q : Addr) (vm₁ : Vm) (B : Pt), s.WarmedH vm₁ ∧ Stand p l e R s m args below meth c B.U B.locs B.cells B.slots ∧ PostX ⟨T.setVm vm₁, locs, cells, slots⟩ (Value.ref b :: argsL).toArray q B ∧
      Steps p.tables e below (T.setTop g) ((B.U.setTop { g with stack := rest }).pushFrame (.throwing q))) := by
  obtain ⟨mk, methM, hnamed, hmethM, hstM, habM⟩ := Cond.instanceMethod_spec hinst
  obtain ⟨methM', cM, hmethM', -, -, -, -, -, -, hsigM⟩ := Cond.code_spec hnamed hcode
  cases hmethM.symm.trans hmethM'
  obtain ⟨c2, r2, m2, q1, q2, q3, q4, kP, hkP, hkPi⟩ := Cond.selects_spec hsel
  cases hcls.symm.trans q1
  cases (State.methodFound?_of_named hnamed hy).symm.trans q2
  cases hnamed.symm.trans q3
  have hselP : selectMethod e.platform s.vm cellB.cls mk = .method mk := by rw [Launch.admits_selectMethod X.admits]; exact q4
  obtain ⟨vm₁, X₁, hstep₁⟩ := X.invokevirtual hexec hown hlink hnamed hmethM hstM hkP hkPi hy (a := b) (cell := cellB) hcell
    (fun z h => by rw [h] at hobj; cases hobj) hselP hmethM habM hkP hkPi (g := g) hg (argsL := argsL) (rest := rest) (hlen _ hsigM) hstack hdg
  rcases hK m meth c ⟨T.setVm vm₁, locs, cells, slots⟩ { g with stack := rest } (.invokevirtual index) mk (Value.ref b :: argsL).toArray X₁ hg hsize hdg hW (X₁.named hnamed) (hpre vm₁ X₁.warmed) with ⟨v, B, X', hpost, hsteps⟩ | ⟨q, B, X', hpost, hsteps⟩
  · exact Or.inl ⟨v, vm₁, B, X₁.warmed, X', hpost, fun target h => hstep₁ _ fun acts => by rw [doInvoke_state]; exact hsteps.trans h⟩
  · exact Or.inr ⟨q, vm₁, B, X₁.warmed, X', hpost, hstep₁ _ fun acts => by rw [doInvoke_state]; exact hsteps⟩
theorem vx_callS (X : Stand p l e R s m args below meth c T locs cells slots) (hexec : p.tables.exec = Jvm.exec) {own : String} {index : Nat} {y : MethodName} {bytes : ByteArray} {maxL : Nat} {ret : Option FieldType}
    (hown : s.vm.findClass own = some m.cls) (hlink : (Cond.methodLink own index y).before args s = true) (hstat : (Cond.static y).before args s = true) (hinit : (Cond.initialized y.cls).before args s = true)
    (hcode : (Cond.code y bytes maxL ret).before args s = true) (hy : y.cls ≠ "java/lang/invoke/MethodHandle" ∧ y.cls ≠ "java/lang/invoke/VarHandle")
    {W9 : Nat} {Pre : Pt → Array Value → Prop} {Post : Pt → Array Value → Option Value → Pt → Prop} {PostX : Pt → Array Value → Addr → Pt → Prop} (hK : vx_Back l R p e below s args y 3 W9 Pre Post PostX)
    {g : JFrame} (hg : g.method = m) (hsize : g.locals.size = c.maxLocals) {argsL rest : List Value} (hlen : ∀ sig, parseMethodDescriptor y.desc = some sig → argsL.length = sig.parameters.length)
    (hstack : g.stack = argsL.reverse ++ rest) (hW : 2 * g.monitorRoom + (rest.map fun v => v.category).sum ≤ W9) (hdg : decode c.code g.pc = .ok (.invokestatic index, 3))
    (hpre : ∀ vm₁, s.WarmedH vm₁ → Pre ⟨T.setVm vm₁, locs, cells, slots⟩ argsL.toArray) :
    (∃ (v : Option Value) (vm₁ : Vm) (B : Pt), s.WarmedH vm₁ ∧ Stand p l e R s m args below meth c B.U B.locs B.cells B.slots ∧ Post ⟨T.setVm vm₁, locs, cells, slots⟩ argsL.toArray v B ∧
      ∀ target, Steps p.tables e below (B.U.setTop { g with pc := g.pc + 3, stack := v.toList ++ rest }) target → Steps p.tables e below (T.setTop g) target) ∨
    (∃ (q : Addr) (vm₁ : Vm) (B : Pt), s.WarmedH vm₁ ∧ Stand p l e R s m args below meth c B.U B.locs B.cells B.slots ∧ PostX ⟨T.setVm vm₁, locs, cells, slots⟩ argsL.toArray q B ∧
      Steps p.tables e below (T.setTop g) ((B.U.setTop { g with stack := rest }).pushFrame (.throwing q))) := by
  obtain ⟨mk, hnamed⟩ := Cond.code_named hcode
  obtain ⟨methM, cM, hmethM, -, -, -, -, -, -, hsigM⟩ := Cond.code_spec hnamed hcode
  have hstatic : methM.isStatic = true := Cond.static_spec hnamed hmethM hstat
  obtain ⟨kP, hkP, -⟩ := className_of_methodNamed hnamed
  have hinitP : kP.init = .initialized := Cond.initialized_spec (findClass_of_methodNamed hnamed) hkP hinit
  obtain ⟨vm₁, X₁, hstep₁⟩ := X.invokestatic hexec hown hlink hnamed hmethM hstatic hkP hinitP hy (g := g) hg (argsL := argsL) (rest := rest) (hlen _ hsigM) hstack hdg
  rcases hK m meth c ⟨T.setVm vm₁, locs, cells, slots⟩ { g with stack := rest } (.invokestatic index) mk argsL.toArray X₁ hg hsize hdg hW (X₁.named hnamed) (hpre vm₁ X₁.warmed) with ⟨v, B, X', hpost, hsteps⟩ | ⟨q, B, X', hpost, hsteps⟩
  · exact Or.inl ⟨v, vm₁, B, X₁.warmed, X', hpost, fun target h => hstep₁ _ fun acts => by rw [doInvoke_state]; exact hsteps.trans h⟩
  · exact Or.inr ⟨q, vm₁, B, X₁.warmed, X', hpost, hstep₁ _ fun acts => by rw [doInvoke_state]; exact hsteps⟩
end Calls
theorem vx_cls {s : State} {T : State} {vm₁ : Vm} {E : String} {k : ClassId} (hW : s.WarmedH vm₁) (h : (T.setVm vm₁).vm.findClass E = some k) : s.vm.findClass E = some k := by
  have h1 : vm₁.findClass E = some k := h
  rw [hW.alike.findClass] at h1
  exact h1
/-- the method's frame g, with q thrown over it -/
def vx_W (p : Program) (l : Launch) (e : Env) (R : Room) (s : State) (m : MethodId) (args : Array Value) (below : List Frame) (meth : Method) (c : Code) (H : Heap) (locs : List Loc) (cells slots : Nat) (Q : State → Prop) (g : JFrame) (q : Addr) : Prop :=
  ∀ T : State, T.heap = H → Stand p l e R s m args below meth c T locs cells slots → ∃ t, Steps p.tables e below ((T.setTop g).pushFrame (.throwing q)) t ∧ Q t
def vx_Run (p : Program) (l : Launch) (e : Env) (R : Room) (s : State) (m : MethodId) (args : Array Value) (below : List Frame) (meth : Method) (c : Code) (H : Heap) (locs : List Loc) (cells slots mc ms : Nat) (g : JFrame) (rest : List Value) (Qa : State → Outcome → State → Prop) (XC : String → State → State → Prop) (free : Addr → Prop) : Prop :=
  ∀ T : State, T.heap = H → Stand p l e R s m args below meth c T locs cells slots →
    (∃ (v : Option Value) (st₀ t T' : State) (L : List Loc), st₀.heap = H ∧ Stand p l e R s m args below meth c T' (locs ++ L) (cells + mc) (slots + ms) ∧ (∀ q ∈ L, free q.base) ∧ T'.heap = t.heap ∧ T'.vm = t.vm ∧ Qa st₀ (.returned v) t ∧
      Goes p e below T g T' { g with pc := g.pc + 3, stack := v.toList ++ rest }) ∨
    (∃ (q : Addr) (st₀ t T' : State) (L : List Loc) (E : String) (ce : Cell), st₀.heap = H ∧ Stand p l e R s m args below meth c T' (locs ++ L) (cells + mc) (slots + ms) ∧ (∀ z ∈ L, free z.base) ∧ T'.heap = t.heap ∧ T'.vm = t.vm ∧ XC E st₀ t ∧ t.heap[q]? = some ce ∧ ce.vm = .none ∧ s.vm.findClass E = some ce.cls ∧
      Steps p.tables e below (T.setTop g) ((T'.setTop { g with stack := rest }).pushFrame (.throwing q)))
def vx_X {S : Type} (px : S → Prop) (B : String → S → State → Prop) (A : Nat → Prop) : String → State → State → Prop := fun E st t => ∃ u : S, px u ∧ B E u t ∧ va_F A st t
section Runs
variable {p : Program} {l : Launch} {e : Env} {R : Room} {s : State} {m : MethodId} {args : Array Value} {below : List Frame} {meth : Method} {c : Code} {H : Heap} {locs : List Loc} {cells slots : Nat}
variable {y : MethodName} {bytes cc : ByteArray} {maxL nL mc ms n index : Nat} {ret : Option FieldType} {ws : List Cond} {rm : Room} {Pc : Array Value → State → Prop} {Qc : Array Value → State → Outcome → State → Prop} {XC : String → State → State → Prop} {free : Addr → Prop} {Ts : List Cond} {own C : String} {b : Addr} {As rest : List Value} {g : JFrame}
theorem vx_callBack (cb : CallB R s args own index y bytes maxL ret ws rm mc ms n) (hM : vx_Met l y ws rm Pc Qc XC mc ms free) (hbl : FrameBlind Pc) : vx_Back l R p e below s args y 3 8 (PreOf R mc ms Pc) (PostOf Qc mc ms free) (vx_Post XC mc ms free) := by
  obtain ⟨hrc, hrs, hfr, hlo, hws, hcw, -, hini, -⟩ := cb
  exact vx_back (bytes := bytes) (maxL := maxL) (ret := ret) hM hbl hrc hrs hfr hlo hws hcw (fun a' U hW => word_at hW (Or.inl (by first | rfl | simp [Cond.onTables, Cond.keeps, Cond.steady])) hini)
theorem vx_runV (S : CallFix p m c cc nL s args Ts own) (hM : vx_Met l y ws rm Pc Qc XC mc ms free) (cw : CallW R s args own C index y bytes maxL ret ws rm mc ms n) (hp : PreV s H C b Pc As)
    (hg : g.method = m) (hn : As.length = n) (hsize : g.locals.size = nL) (hstack : g.stack = As.reverse ++ .ref b :: rest) (hW : 2 * g.monitorRoom + (rest.map fun v => v.category).sum ≤ 8) (hdg : decode cc g.pc = .ok (.invokevirtual index, 3)) (hf : cells + mc ≤ R.cells ∧ slots + ms ≤ R.slots) :
    vx_Run p l e R s m args below meth c H locs cells slots mc ms g rest (Qc (Value.ref b :: As).toArray) XC free := by
  have hK : vx_Back l R p e below s args y 3 8 (PreOf R mc ms Pc) (PostOf Qc mc ms free) (vx_Post XC mc ms free) := vx_callBack cw.1 hM hp.1
  obtain ⟨⟨-, -, -, -, -, -, hcode, -, hy, hlen, hl⟩, hin, hse⟩ := cw
  obtain ⟨hx, hb, hml, ho, -⟩ := S
  obtain ⟨-, ⟨cellB, hcB, hoB, hclB⟩, hPc⟩ := hp
  intro T hT X
  rcases vx_callV X hx (C := C) (bytes := bytes) (maxL := maxL) (ret := ret) ho hl hin hse hcode hy hK (by rw [hT]; exact hcB) hoB hclB hg (hsize.trans hml.symm) (argsL := As) (rest := rest) (fun sig h => hn.trans (hlen sig h)) hstack hW (by rw [hb]; exact hdg)
    (fun vm₁ hW₁ => ⟨hf.1, hf.2, hPc (T.setVm vm₁) hT hW₁⟩) with ⟨v, vm₁, ⟨U', l2, c2, s2⟩, hW₁, X', ⟨g', mk, t, L, e1, e2, hq, h1, hL, h2, h3⟩, st⟩ | ⟨q, vm₁, ⟨U', l2, c2, s2⟩, hW₁, X', ⟨g', mk, t, L, E, ce, e1, e2, hq, hce, hcv, hcl, h1, hL, h2, h3⟩, st⟩
  · dsimp only [Pt.U, Pt.locs, Pt.cells, Pt.slots] at X' e1 e2 h1 h2 h3 st
    subst h1; subst h2; subst h3
    exact Or.inl ⟨v, (T.setVm vm₁).calling g' mk (Value.ref b :: As).toArray, t, U', L, hT, X', hL, e1, e2, hq, st⟩
  · dsimp only [Pt.U, Pt.locs, Pt.cells, Pt.slots] at X' e1 e2 h1 h2 h3 st hcl
    subst h1; subst h2; subst h3
    exact Or.inr ⟨q, (T.setVm vm₁).calling g' mk (Value.ref b :: As).toArray, t, U', L, E, ce, hT, X', hL, e1, e2, hq, hce, hcv, vx_cls hW₁ hcl, st⟩
theorem vx_runS (S : CallFix p m c cc nL s args Ts own) (hM : vx_Met l y ws rm Pc Qc XC mc ms free) (cw : CallB R s args own index y bytes maxL ret ws rm mc ms n ∧ (Cond.static y).before args s = true) (hp : PreS s H Pc As)
    (hg : g.method = m) (hn : As.length = n) (hsize : g.locals.size = nL) (hstack : g.stack = As.reverse ++ rest) (hW : 2 * g.monitorRoom + (rest.map fun v => v.category).sum ≤ 8) (hdg : decode cc g.pc = .ok (.invokestatic index, 3)) (hf : cells + mc ≤ R.cells ∧ slots + ms ≤ R.slots) :
    vx_Run p l e R s m args below meth c H locs cells slots mc ms g rest (Qc As.toArray) XC free := by
  have hK : vx_Back l R p e below s args y 3 8 (PreOf R mc ms Pc) (PostOf Qc mc ms free) (vx_Post XC mc ms free) := vx_callBack cw.1 hM hp.1
  obtain ⟨⟨-, -, -, -, -, -, hcode, hini, hy, hlen, hl⟩, hstt⟩ := cw
  obtain ⟨hx, hb, hml, ho, -⟩ := S
  intro T hT X
  rcases vx_callS X hx (bytes := bytes) (maxL := maxL) (ret := ret) ho hl hstt hini hcode hy hK hg (hsize.trans hml.symm) (argsL := As) (rest := rest) (fun sig h => hn.trans (hlen sig h)) hstack hW (by rw [hb]; exact hdg)
    (fun vm₁ hW₁ => ⟨hf.1, hf.2, hp.2 (T.setVm vm₁) hT hW₁⟩) with ⟨v, vm₁, ⟨U', l2, c2, s2⟩, hW₁, X', ⟨g', mk, t, L, e1, e2, hq, h1, hL, h2, h3⟩, st⟩ | ⟨q, vm₁, ⟨U', l2, c2, s2⟩, hW₁, X', ⟨g', mk, t, L, E, ce, e1, e2, hq, hce, hcv, hcl, h1, hL, h2, h3⟩, st⟩
  · dsimp only [Pt.U, Pt.locs, Pt.cells, Pt.slots] at X' e1 e2 h1 h2 h3 st
    subst h1; subst h2; subst h3
    exact Or.inl ⟨v, (T.setVm vm₁).calling g' mk As.toArray, t, U', L, hT, X', hL, e1, e2, hq, st⟩
  · dsimp only [Pt.U, Pt.locs, Pt.cells, Pt.slots] at X' e1 e2 h1 h2 h3 st hcl
    subst h1; subst h2; subst h3
    exact Or.inr ⟨q, (T.setVm vm₁).calling g' mk As.toArray, t, U', L, E, ce, hT, X', hL, e1, e2, hq, hce, hcv, vx_cls hW₁ hcl, st⟩
end Runs
section Rows
variable {p : Program} {l : Launch} {e : Env} {R : Room} {s : State} {m : MethodId} {args : Array Value} {below : List Frame} {meth : Method} {c : Code} {H : Heap} {locs : List Loc} {cells slots : Nat} {Q : State → Prop}
variable {mc ms : Nat} {free : Addr → Prop} {A0 A1 : Nat → Prop} {H0 : Heap} {a : Array Value} {pc : Nat} {ls : Array Slot} {st0 rest : List Value}
theorem vx_keep {st₀ t T' : State} {L : List Loc} (h0 : st₀.heap = H) (e1 : T'.heap = t.heap) (hS : va_S A0 H0 H locs) (hA : ∀ q, q < H.size → A1 q → A0 q) (hf : ∀ q, free q → A0 q) (hL : ∀ q ∈ L, free q.base) (hF : va_F A1 st₀ t) :
    H.size ≤ T'.heap.size ∧ (∀ q : Nat, q < H.size → ¬ A1 q → T'.heap[q]? = H[q]?) ∧ va_S A0 H0 T'.heap (locs ++ L) := by
  obtain ⟨hz, hk⟩ := hF
  rw [h0] at hz hk
  exact ⟨by rw [e1]; exact hz, fun q h1 h2 => by rw [e1]; exact hk q h1 h2,
    ⟨Nat.le_trans hS.1 (by rw [e1]; exact hz), fun q h1 h2 => by rw [e1, hk q (Nat.lt_of_lt_of_le h1 hS.1) (fun z => h2 (hA q (Nat.lt_of_lt_of_le h1 hS.1) z))]; exact hS.2.1 q h1 h2, fun q hq => by
      rcases List.mem_append.mp hq with h | h
      · exact hS.2.2 q h
      · exact hf _ (hL q h)⟩⟩
theorem vx_calli {S SX : Type} {post : Int32 → S → Prop} {px : SX → Prop} {B : S → State → Prop} {BX : String → SX → State → Prop} {AX : Nat → Prop} (hr : vx_Run p l e R s m args below meth c H locs cells slots mc ms (F0 m pc ls st0) rest (va_Qi post B A1 a) (vx_X px BX AX) free) (hS : va_S A0 H0 H locs) (hA : ∀ q, q < H.size → A1 q → A0 q) (hf : ∀ q, free q → A0 q) (hAX : ∀ q, q < H.size → AX q → A0 q)
    (kx : ∀ (E : String) (ce : Cell) (q9 : Addr) (u : SX) (t : State) (H1 : Heap) (locs1 : List Loc), t.heap = H1 → s.vm.Alike t.vm → px u → BX E u t → H.size ≤ H1.size → (∀ q : Nat, q < H.size → ¬ AX q → H1[q]? = H[q]?) → va_S A0 H0 H1 locs1 → H1[q9]? = some ce → ce.vm = .none → s.vm.findClass E = some ce.cls → vx_W p l e R s m args below meth c H1 locs1 (cells + mc) (slots + ms) Q (F0 m pc ls rest) q9)
    (kk : ∀ (r : Int32) (u : S) (t : State) (H1 : Heap) (locs1 : List Loc), t.heap = H1 → s.vm.Alike t.vm → post r u → B u t → H.size ≤ H1.size → (∀ q : Nat, q < H.size → ¬ A1 q → H1[q]? = H[q]?) → va_S A0 H0 H1 locs1 → W p l e R s m args below meth c H1 locs1 (cells + mc) (slots + ms) Q (F0 m (pc + 3) ls (.int r :: rest))) : W p l e R s m args below meth c H locs cells slots Q (F0 m pc ls st0) := by
  intro T hT X
  rcases hr T hT X with ⟨v, st₀, t, T', L, h0, X', hL, e1, e2, ⟨⟨r, u, hv, hp, hb⟩, hF⟩, st⟩ | ⟨q, st₀, t, T', L, E, ce, h0, X', hL, e1, e2, ⟨u, hp, hb, hF⟩, hce, hcv, hcl, st⟩
  · cases hv
    obtain ⟨k1, k2, k3⟩ := vx_keep h0 e1 hS hA hf hL hF
    obtain ⟨t2, a1, b1⟩ := kk r u t T'.heap (locs ++ L) e1.symm (by rw [← e2]; exact X'.warmed.alike) hp hb k1 k2 k3 T' rfl X'
    exact ⟨t2, st t2 a1, b1⟩
  · obtain ⟨k1, k2, k3⟩ := vx_keep h0 e1 hS hAX hf hL hF
    obtain ⟨t2, a1, b1⟩ := kx E ce q u t T'.heap (locs ++ L) e1.symm (by rw [← e2]; exact X'.warmed.alike) hp hb k1 k2 k3 (by rw [e1]; exact hce) hcv hcl T' rfl X'
    exact ⟨t2, st.trans a1, b1⟩
theorem vx_calll {S SX : Type} {post : Int64 → S → Prop} {px : SX → Prop} {B : S → State → Prop} {BX : String → SX → State → Prop} {AX : Nat → Prop} (hr : vx_Run p l e R s m args below meth c H locs cells slots mc ms (F0 m pc ls st0) rest (va_Ql post B A1 a) (vx_X px BX AX) free) (hS : va_S A0 H0 H locs) (hA : ∀ q, q < H.size → A1 q → A0 q) (hf : ∀ q, free q → A0 q) (hAX : ∀ q, q < H.size → AX q → A0 q)
    (kx : ∀ (E : String) (ce : Cell) (q9 : Addr) (u : SX) (t : State) (H1 : Heap) (locs1 : List Loc), t.heap = H1 → s.vm.Alike t.vm → px u → BX E u t → H.size ≤ H1.size → (∀ q : Nat, q < H.size → ¬ AX q → H1[q]? = H[q]?) → va_S A0 H0 H1 locs1 → H1[q9]? = some ce → ce.vm = .none → s.vm.findClass E = some ce.cls → vx_W p l e R s m args below meth c H1 locs1 (cells + mc) (slots + ms) Q (F0 m pc ls rest) q9)
    (kk : ∀ (r : Int64) (u : S) (t : State) (H1 : Heap) (locs1 : List Loc), t.heap = H1 → s.vm.Alike t.vm → post r u → B u t → H.size ≤ H1.size → (∀ q : Nat, q < H.size → ¬ A1 q → H1[q]? = H[q]?) → va_S A0 H0 H1 locs1 → W p l e R s m args below meth c H1 locs1 (cells + mc) (slots + ms) Q (F0 m (pc + 3) ls (.long r :: rest))) : W p l e R s m args below meth c H locs cells slots Q (F0 m pc ls st0) := by
  intro T hT X
  rcases hr T hT X with ⟨v, st₀, t, T', L, h0, X', hL, e1, e2, ⟨⟨r, u, hv, hp, hb⟩, hF⟩, st⟩ | ⟨q, st₀, t, T', L, E, ce, h0, X', hL, e1, e2, ⟨u, hp, hb, hF⟩, hce, hcv, hcl, st⟩
  · cases hv
    obtain ⟨k1, k2, k3⟩ := vx_keep h0 e1 hS hA hf hL hF
    obtain ⟨t2, a1, b1⟩ := kk r u t T'.heap (locs ++ L) e1.symm (by rw [← e2]; exact X'.warmed.alike) hp hb k1 k2 k3 T' rfl X'
    exact ⟨t2, st t2 a1, b1⟩
  · obtain ⟨k1, k2, k3⟩ := vx_keep h0 e1 hS hAX hf hL hF
    obtain ⟨t2, a1, b1⟩ := kx E ce q u t T'.heap (locs ++ L) e1.symm (by rw [← e2]; exact X'.warmed.alike) hp hb k1 k2 k3 (by rw [e1]; exact hce) hcv hcl T' rfl X'
    exact ⟨t2, st.trans a1, b1⟩
theorem vx_callf {S SX : Type} {post : UInt32 → S → Prop} {px : SX → Prop} {B : S → State → Prop} {BX : String → SX → State → Prop} {AX : Nat → Prop} (hr : vx_Run p l e R s m args below meth c H locs cells slots mc ms (F0 m pc ls st0) rest (va_Qf post B A1 a) (vx_X px BX AX) free) (hS : va_S A0 H0 H locs) (hA : ∀ q, q < H.size → A1 q → A0 q) (hf : ∀ q, free q → A0 q) (hAX : ∀ q, q < H.size → AX q → A0 q)
    (kx : ∀ (E : String) (ce : Cell) (q9 : Addr) (u : SX) (t : State) (H1 : Heap) (locs1 : List Loc), t.heap = H1 → s.vm.Alike t.vm → px u → BX E u t → H.size ≤ H1.size → (∀ q : Nat, q < H.size → ¬ AX q → H1[q]? = H[q]?) → va_S A0 H0 H1 locs1 → H1[q9]? = some ce → ce.vm = .none → s.vm.findClass E = some ce.cls → vx_W p l e R s m args below meth c H1 locs1 (cells + mc) (slots + ms) Q (F0 m pc ls rest) q9)
    (kk : ∀ (r : UInt32) (u : S) (t : State) (H1 : Heap) (locs1 : List Loc), t.heap = H1 → s.vm.Alike t.vm → post r u → B u t → H.size ≤ H1.size → (∀ q : Nat, q < H.size → ¬ A1 q → H1[q]? = H[q]?) → va_S A0 H0 H1 locs1 → W p l e R s m args below meth c H1 locs1 (cells + mc) (slots + ms) Q (F0 m (pc + 3) ls (.float r :: rest))) : W p l e R s m args below meth c H locs cells slots Q (F0 m pc ls st0) := by
  intro T hT X
  rcases hr T hT X with ⟨v, st₀, t, T', L, h0, X', hL, e1, e2, ⟨⟨r, u, hv, hp, hb⟩, hF⟩, st⟩ | ⟨q, st₀, t, T', L, E, ce, h0, X', hL, e1, e2, ⟨u, hp, hb, hF⟩, hce, hcv, hcl, st⟩
  · cases hv
    obtain ⟨k1, k2, k3⟩ := vx_keep h0 e1 hS hA hf hL hF
    obtain ⟨t2, a1, b1⟩ := kk r u t T'.heap (locs ++ L) e1.symm (by rw [← e2]; exact X'.warmed.alike) hp hb k1 k2 k3 T' rfl X'
    exact ⟨t2, st t2 a1, b1⟩
  · obtain ⟨k1, k2, k3⟩ := vx_keep h0 e1 hS hAX hf hL hF
    obtain ⟨t2, a1, b1⟩ := kx E ce q u t T'.heap (locs ++ L) e1.symm (by rw [← e2]; exact X'.warmed.alike) hp hb k1 k2 k3 (by rw [e1]; exact hce) hcv hcl T' rfl X'
    exact ⟨t2, st.trans a1, b1⟩
theorem vx_calld {S SX : Type} {post : UInt64 → S → Prop} {px : SX → Prop} {B : S → State → Prop} {BX : String → SX → State → Prop} {AX : Nat → Prop} (hr : vx_Run p l e R s m args below meth c H locs cells slots mc ms (F0 m pc ls st0) rest (va_Qd post B A1 a) (vx_X px BX AX) free) (hS : va_S A0 H0 H locs) (hA : ∀ q, q < H.size → A1 q → A0 q) (hf : ∀ q, free q → A0 q) (hAX : ∀ q, q < H.size → AX q → A0 q)
    (kx : ∀ (E : String) (ce : Cell) (q9 : Addr) (u : SX) (t : State) (H1 : Heap) (locs1 : List Loc), t.heap = H1 → s.vm.Alike t.vm → px u → BX E u t → H.size ≤ H1.size → (∀ q : Nat, q < H.size → ¬ AX q → H1[q]? = H[q]?) → va_S A0 H0 H1 locs1 → H1[q9]? = some ce → ce.vm = .none → s.vm.findClass E = some ce.cls → vx_W p l e R s m args below meth c H1 locs1 (cells + mc) (slots + ms) Q (F0 m pc ls rest) q9)
    (kk : ∀ (r : UInt64) (u : S) (t : State) (H1 : Heap) (locs1 : List Loc), t.heap = H1 → s.vm.Alike t.vm → post r u → B u t → H.size ≤ H1.size → (∀ q : Nat, q < H.size → ¬ A1 q → H1[q]? = H[q]?) → va_S A0 H0 H1 locs1 → W p l e R s m args below meth c H1 locs1 (cells + mc) (slots + ms) Q (F0 m (pc + 3) ls (.double r :: rest))) : W p l e R s m args below meth c H locs cells slots Q (F0 m pc ls st0) := by
  intro T hT X
  rcases hr T hT X with ⟨v, st₀, t, T', L, h0, X', hL, e1, e2, ⟨⟨r, u, hv, hp, hb⟩, hF⟩, st⟩ | ⟨q, st₀, t, T', L, E, ce, h0, X', hL, e1, e2, ⟨u, hp, hb, hF⟩, hce, hcv, hcl, st⟩
  · cases hv
    obtain ⟨k1, k2, k3⟩ := vx_keep h0 e1 hS hA hf hL hF
    obtain ⟨t2, a1, b1⟩ := kk r u t T'.heap (locs ++ L) e1.symm (by rw [← e2]; exact X'.warmed.alike) hp hb k1 k2 k3 T' rfl X'
    exact ⟨t2, st t2 a1, b1⟩
  · obtain ⟨k1, k2, k3⟩ := vx_keep h0 e1 hS hAX hf hL hF
    obtain ⟨t2, a1, b1⟩ := kx E ce q u t T'.heap (locs ++ L) e1.symm (by rw [← e2]; exact X'.warmed.alike) hp hb k1 k2 k3 (by rw [e1]; exact hce) hcv hcl T' rfl X'
    exact ⟨t2, st.trans a1, b1⟩
theorem vx_callv {S SX : Type} {post : S → Prop} {px : SX → Prop} {B : S → State → Prop} {BX : String → SX → State → Prop} {AX : Nat → Prop} (hr : vx_Run p l e R s m args below meth c H locs cells slots mc ms (F0 m pc ls st0) rest (va_Qv post B A1 a) (vx_X px BX AX) free) (hS : va_S A0 H0 H locs) (hA : ∀ q, q < H.size → A1 q → A0 q) (hf : ∀ q, free q → A0 q) (hAX : ∀ q, q < H.size → AX q → A0 q)
    (kx : ∀ (E : String) (ce : Cell) (q9 : Addr) (u : SX) (t : State) (H1 : Heap) (locs1 : List Loc), t.heap = H1 → s.vm.Alike t.vm → px u → BX E u t → H.size ≤ H1.size → (∀ q : Nat, q < H.size → ¬ AX q → H1[q]? = H[q]?) → va_S A0 H0 H1 locs1 → H1[q9]? = some ce → ce.vm = .none → s.vm.findClass E = some ce.cls → vx_W p l e R s m args below meth c H1 locs1 (cells + mc) (slots + ms) Q (F0 m pc ls rest) q9)
    (kk : ∀ (u : S) (t : State) (H1 : Heap) (locs1 : List Loc), t.heap = H1 → s.vm.Alike t.vm → post u → B u t → H.size ≤ H1.size → (∀ q : Nat, q < H.size → ¬ A1 q → H1[q]? = H[q]?) → va_S A0 H0 H1 locs1 → W p l e R s m args below meth c H1 locs1 (cells + mc) (slots + ms) Q (F0 m (pc + 3) ls (rest))) : W p l e R s m args below meth c H locs cells slots Q (F0 m pc ls st0) := by
  intro T hT X
  rcases hr T hT X with ⟨v, st₀, t, T', L, h0, X', hL, e1, e2, ⟨⟨u, hv, hp, hb⟩, hF⟩, st⟩ | ⟨q, st₀, t, T', L, E, ce, h0, X', hL, e1, e2, ⟨u, hp, hb, hF⟩, hce, hcv, hcl, st⟩
  · cases hv
    obtain ⟨k1, k2, k3⟩ := vx_keep h0 e1 hS hA hf hL hF
    obtain ⟨t2, a1, b1⟩ := kk u t T'.heap (locs ++ L) e1.symm (by rw [← e2]; exact X'.warmed.alike) hp hb k1 k2 k3 T' rfl X'
    exact ⟨t2, st t2 a1, b1⟩
  · obtain ⟨k1, k2, k3⟩ := vx_keep h0 e1 hS hAX hf hL hF
    obtain ⟨t2, a1, b1⟩ := kx E ce q u t T'.heap (locs ++ L) e1.symm (by rw [← e2]; exact X'.warmed.alike) hp hb k1 k2 k3 (by rw [e1]; exact hce) hcv hcl T' rfl X'
    exact ⟨t2, st.trans a1, b1⟩
end Rows
section Ends
variable {p : Program} {l : Launch} {e : Env} {R : Room} {s : State} {m : MethodId} {args : Array Value} {below : List Frame} {meth : Method} {c : Code} {H : Heap} {locs : List Loc} {cells slots : Nat} {Q : State → Prop}
variable {mc ms : Nat} {free : Addr → Prop} {A0 A1 : Nat → Prop} {H0 : Heap} {a : Array Value} {ls : Array Slot} {st0 rest : List Value}
variable {Qc : Array Value → State → Outcome → State → Prop} {XC : String → State → State → Prop}
/-- what a body that may throw owes at its end -/
def vx_MQ (below : List Frame) (Qc : Array Value → State → Outcome → State → Prop) (XC : String → State → State → Prop) (a : Array Value) (s : State) (mc ms : Nat) (free : Addr → Prop) : State → Prop := fun t =>
  ∃ o, t.status = .running ∧ Ended t below o ∧ vx_Q Qc XC mc ms free a s o t
theorem vx_ret {g : JFrame} {mc ms : Nat} (k : W p l e R s m args below meth c H locs cells slots (MQ below Qc args s mc ms free) g) : W p l e R s m args below meth c H locs cells slots (vx_MQ below Qc XC args s mc ms free) g := by
  intro T hT X
  obtain ⟨t, a1, o, b1, b2, b3, b4⟩ := k T hT X
  exact ⟨t, a1, o, b1, b2, Or.inl ⟨b3, b4⟩⟩
/-- not caught here: it goes on to the caller -/
theorem vx_widen {g : JFrame} {q : Addr} {k n : Nat} (h1 : cells ≤ k) (h2 : slots ≤ n) (kk : vx_W p l e R s m args below meth c H locs k n Q g q) : vx_W p l e R s m args below meth c H locs cells slots Q g q := fun T hT X => kk T hT (stand_widen X h1 h2)
theorem vx_out {pc : Nat} {E : String} {ce : Cell} {q : Addr} {mc ms : Nat} (hout : ∀ x ∈ c.exceptionTable.toList, covers x pc = false) (hlocks : meth.locks = false) (hcell : H[q]? = some ce) (hv : ce.vm = .none) (hcl : s.vm.findClass E = some ce.cls)
    (hx : ∀ t : State, t.heap = H → s.vm.Alike t.vm → XC E s t) (hf : ∀ z ∈ locs, free z.base) (hc : cells ≤ mc) (hs : slots ≤ ms) :
    vx_W p l e R s m args below meth c H locs cells slots (vx_MQ below Qc XC args s mc ms free) (F0 m pc ls rest) q := by
  intro T hT X
  obtain ⟨st1, hrun, hend, hW, hsm⟩ := X.leaveThrown q (g := F0 m pc ls rest) rfl rfl rfl hout hlocks
  have hcell9 : (T.setFrames (.throwing q :: below)).heap[q]? = some ce := by
    show T.heap[q]? = some ce
    rw [hT]; exact hcell
  exact ⟨_, st1, .threw q, hrun, hend, Or.inr ⟨q, rfl, E, ce, locs, hx _ hT hW.alike, hcell9, hv, hcl, hW, hsm.mono hc hs, hf⟩⟩
theorem vx_frame {U : State} {k n : Nat} (h : s.sameButNew ({ U with vm := s.vm } : State) locs k n) : s.heap.size ≤ U.heap.size ∧ ∀ q : Nat, q < s.heap.size → (∀ z ∈ locs, z.base ≠ q) → U.heap[q]? = s.heap[q]? := by
  obtain ⟨-, h2, -, -, -, h6⟩ := h
  refine ⟨h2, fun q hq hz => ?_⟩
  obtain ⟨c9, e1, e2, e3, e4⟩ := h6 q _ (Array.getElem?_eq_getElem hq)
  have hs : c9.slots = (s.heap[q]).slots := Array.ext_getElem? fun i => e4 i fun hm => hz _ hm rfl
  have h9 : c9 = s.heap[q] := by
    rw [hs] at e2
    exact e2
  have e5 : U.heap[q]? = some c9 := e1
  rw [e5, h9, Array.getElem?_eq_getElem hq]
/-- the words of a throw but the four that speak of the heap -/
def vx_no (w : Cond) : Bool := decide (w ≠ .isRef (.static Bundle.tN "UNASSIGNED_STACK" Bundle.steD)) && decide (w ≠ .isRef (.static Bundle.tN "SUPPRESSED_SENTINEL" Bundle.listD)) && decide (w ≠ .laysStatic Bundle.tN "UNASSIGNED_STACK" Bundle.steD) && decide (w ≠ .laysStatic Bundle.tN "SUPPRESSED_SENTINEL" Bundle.listD)
def vx_at0 (own : String) (ic : Nat) (X : String) (names : List String) : List Cond := (Bundle.ownAtoms0 own ic X names).filter vx_no
def vx_atS (own : String) (ic : Nat) (X : String) (names : List String) : List Cond := (Bundle.ownAtoms own ic X names).filter vx_no
/-- a word that the tables alone decide, or a good one -/
def vx_ot (w : Cond) : Bool := w.onTables || goodWord w
theorem vx_ot_at {args a' : Array Value} {s U : State} {w : Cond} (hW : s.WarmedH U.vm) (hvm : s.vm = U.vm) (hg : vx_ot w = true) (h : w.before args s = true) : w.before a' U = true := by
  simp only [vx_ot, Bool.or_eq_true] at hg
  rcases hg with hg | hg
  · exact va_tabs hg hvm h
  · exact word_at hW (good_of_word hg) h
/-- a list's words: the good ones out of the method's own list, the others by premises of their own -/
theorem vx_hat {args : Array Value} {s : State} {L B : List Cond} (h1 : ∀ w ∈ L.filter goodWord, w.before args s = true) (h2 : ∀ w ∈ L.filter (fun w => !goodWord w), w ∈ B) (h3 : ∀ w ∈ B, w.before args s = true) : ∀ w ∈ L, w.before args s = true := by
  intro w hw
  by_cases g : goodWord w = true
  · exact h1 w (List.mem_filter.mpr ⟨hw, g⟩)
  · refine h3 w (h2 w (List.mem_filter.mpr ⟨hw, ?_⟩))
    show (!goodWord w) = true
    cases hgw : goodWord w
    · rfl
    · exact absurd hgw g
theorem vx_c {args : Array Value} {s : State} {w : Cond} {B : List Cond} (h : w.before args s = true) (t : ∀ w ∈ B, w.before args s = true) : ∀ w' ∈ w :: B, w'.before args s = true := fun w' h' => (List.mem_cons.mp h').elim (fun e => by rw [e]; exact h) (t w')
theorem vx_n {args : Array Value} {s : State} : ∀ w ∈ ([] : List Cond), w.before args s = true := fun _ h => nomatch h
theorem vx_own {args : Array Value} {s : State} {L : List Cond} (h1 : ∀ w ∈ L.filter vx_no, w.before args s = true)
    (hU : (Cond.isRef (.static Bundle.tN "UNASSIGNED_STACK" Bundle.steD)).before args s = true) (hN : (Cond.isRef (.static Bundle.tN "SUPPRESSED_SENTINEL" Bundle.listD)).before args s = true)
    (lU : (Cond.laysStatic Bundle.tN "UNASSIGNED_STACK" Bundle.steD).before args s = true) (lN : (Cond.laysStatic Bundle.tN "SUPPRESSED_SENTINEL" Bundle.listD).before args s = true) : ∀ w ∈ L, w.before args s = true := by
  intro w hw
  by_cases e1 : w = .isRef (.static Bundle.tN "UNASSIGNED_STACK" Bundle.steD)
  · rw [e1]; exact hU
  · by_cases e2 : w = .isRef (.static Bundle.tN "SUPPRESSED_SENTINEL" Bundle.listD)
    · rw [e2]; exact hN
    · by_cases e3 : w = .laysStatic Bundle.tN "UNASSIGNED_STACK" Bundle.steD
      · rw [e3]; exact lU
      · by_cases e4 : w = .laysStatic Bundle.tN "SUPPRESSED_SENTINEL" Bundle.listD
        · rw [e4]; exact lN
        · exact h1 w (List.mem_filter.mpr ⟨hw, by unfold vx_no; rw [decide_eq_true e1, decide_eq_true e2, decide_eq_true e3, decide_eq_true e4]; rfl⟩)
/-- where a static field lies, its class's statics cell in H -/
def vx_L (C n d : String) (A : Nat → Prop) (U : State) (H : Heap) : Prop := ∃ (c : ClassId) (k : Class) (i : Nat) (f : Field) (a : Nat) (cell : Cell), U.vm.findClass C = some c ∧ U.fieldFound? C n d = some (c, k, i, f) ∧ f.isStatic = true ∧ k.statics = some a ∧ H[a]? = some cell ∧ cell.vm.isStatics = true ∧ cell.cls = c ∧ f.slot < cell.slots.size ∧ k.staticTypes[f.slot]? = some f.type ∧ ¬ A a
theorem vx_L.moved {C n d : String} {A : Nat → Prop} {u U : State} {H : Heap} (hvm : u.vm.Alike U.vm) (h : vx_L C n d A u H) : vx_L C n d A U H := by
  obtain ⟨c, k, i, f, a, cell, h1, h2, h3, h4, h5, h6, h7, h8, h9, h10⟩ := h
  obtain ⟨k', hi', he⟩ := State.fieldFound?_setVm hvm h2
  exact ⟨c, k', i, f, a, cell, by rw [hvm.findClass]; exact h1, hi', h3, by rw [he]; exact h4, h5, h6, h7, h8, by rw [he]; exact h9, h10⟩
theorem vx_L.kept {C n d : String} {A : Nat → Prop} {U : State} {H H1 : Heap} (h : vx_L C n d A U H) (hq : ∀ a : Nat, a < H.size → ¬ A a → H1[a]? = H[a]?) : vx_L C n d A U H1 := by
  obtain ⟨c, k, i, f, a, cell, h1, h2, h3, h4, h5, h6, h7, h8, h9, h10⟩ := h
  exact ⟨c, k, i, f, a, cell, h1, h2, h3, h4, by rw [hq a (Array.getElem?_eq_some_iff.mp h5).1 h10]; exact h5, h6, h7, h8, h9, h10⟩
theorem vx_L.narrow {C n d : String} {A B : Nat → Prop} {U : State} {H : Heap} (h : vx_L C n d A U H) (hAB : ∀ q, B q → A q) : vx_L C n d B U H := by
  obtain ⟨c, k, i, f, a, cell, h1, h2, h3, h4, h5, h6, h7, h8, h9, h10⟩ := h
  exact ⟨c, k, i, f, a, cell, h1, h2, h3, h4, h5, h6, h7, h8, h9, fun z => h10 (hAB _ z)⟩
theorem vx_L.word {C n d : String} {A : Nat → Prop} {s : State} {args : Array Value} (h : vx_L C n d A s s.heap) : (Cond.laysStatic C n d).before args s = true := by
  obtain ⟨c, k, i, f, a, cell, h1, h2, h3, h4, h5, h6, h7, h8, h9, -⟩ := h
  show (Cond.laysStatic C n d).holds args s none s [] = true
  exact Cond.laysStatic_of h1 h2 h3 h4 h5 h6 h7 h8 h9
/-- .. and what it holds: null or some reference -/
def vx_Zq (C n d : String) (A : Nat → Prop) (U : State) (H : Heap) : Prop := va_Zq C n d A U H ∧ vx_L C n d A U H
theorem vx_Zq.moved {C n d : String} {A : Nat → Prop} {u U : State} {H : Heap} (hvm : u.vm.Alike U.vm) (h : vx_Zq C n d A u H) : vx_Zq C n d A U H := ⟨va_Zq.moved hvm h.1, vx_L.moved hvm h.2⟩
theorem vx_Zq.kept {C n d : String} {A : Nat → Prop} {U : State} {H H1 : Heap} (h : vx_Zq C n d A U H) (hq : ∀ a : Nat, a < H.size → ¬ A a → H1[a]? = H[a]?) : vx_Zq C n d A U H1 := ⟨va_Zq.kept h.1 hq, vx_L.kept h.2 hq⟩
theorem vx_Zq.narrow {C n d : String} {A B : Nat → Prop} {U : State} {H : Heap} (h : vx_Zq C n d A U H) (hAB : ∀ q, B q → A q) : vx_Zq C n d B U H := ⟨va_Zq.narrow h.1 hAB, vx_L.narrow h.2 hAB⟩
theorem vx_Zqof {args : Array Value} {s : State} {C n d : String} {A : Nat → Prop} (hl : (Cond.laysStatic C n d).before args s = true) (hini : (Cond.initialized C).before args s = true) (h : (Cond.isRef (.static C n d)).before args s = true) (hA : ∀ a : Nat, a < s.heap.size → ¬ A a) : vx_Zq C n d A s s.heap := by
  refine ⟨va_Zqof hl hini h hA, ?_⟩
  obtain ⟨c, k, i, f, a, cell, h1, h2, h3, h4, h5, h6, h7, h8, h9⟩ := Cond.laysStatic_spec hl
  exact ⟨c, k, i, f, a, cell, h1, h2, h3, h4, h5, h6, h7, h8, h9, hA a (Array.getElem?_eq_some_iff.mp h5).1⟩
theorem vx_isRef {C n d : String} {v : Value} {A : Nat → Prop} {s : State} {args : Array Value} (h : va_Z C n d v A s s.heap) (hv : v.isRef = true) : (Cond.isRef (.static C n d)).before args s = true := by
  obtain ⟨cf, kf, fi, f, a, cell, h1, h2, h3, h4, h5, h6, h7, -⟩ := h
  have he : (Term.static C n d).eval args s none [] s = some v := by
    simp [Term.eval, State.fieldNamed?, h1, h2, h4, h5, h6, h7]
  simp only [Cond.before, Cond.holds, Cond.value, he]
  cases v <;> simp_all [Value.isRef]
theorem vx_isRefq {C n d : String} {A : Nat → Prop} {s : State} {args : Array Value} (h : va_Zq C n d A s s.heap) : (Cond.isRef (.static C n d)).before args s = true := by
  rcases h with h | ⟨t, h⟩
  · exact vx_isRef h rfl
  · exact vx_isRef h rfl
/-- the same frame, seen from here: as if the method were called anew in this heap -/
theorem vx_rebase {T : State} (X : Stand p l e R s m args below meth c T locs cells slots) {R' : Room} (hf : R'.frames ≤ R.frames) (hl : R'.locals ≤ R.locals) (hc : cells + R'.cells ≤ R.cells) (hs : slots + R'.slots ≤ R.slots) :
    Stand p l e R' ((T.setVm s.vm).setFrames (.invoking m args :: below)) m args below meth c T [] 0 0 := by
  have htop : (T.setVm s.vm).topJava?.isSome := X.here.top
  have hF : ((T.setVm s.vm).setFrames (.invoking m args :: below)).frames = .invoking m args :: below := State.frames_setFrames _ (State.cur_lt_of_top htop)
  obtain ⟨g₀, hg0⟩ := Option.isSome_iff_exists.mp htop
  obtain ⟨r, hr⟩ := State.topJava?_eq_some.mp hg0
  have hl9 : e.platform.stackLimits (T.setVm s.vm).me = e.platform.stackLimits s.me := X.limits
  have hb9 : (T.setVm s.vm).me.stackBytes = s.me.stackBytes := X.bytes
  refine ⟨X.admits, X.cas, X.clock, hF, ?_, X.hears, X.method, X.code, X.here, X.tail, X.warmed, ?_, ?_, ?_⟩
  · have h := X.room
    have hU : ((T.setVm s.vm).setFrames (.invoking m args :: below)).localsInUse = s.localsInUse := by
      rw [State.localsInUse_invoking hF (meth := meth) (c := c) X.method X.code, State.localsInUse_invoking X.frames X.method X.code]
    simp only [State.hasRoom, Bool.and_eq_true, decide_eq_true_eq] at h ⊢
    obtain ⟨⟨⟨⟨h1, h2, h3, h4, h5, h6⟩, h7⟩, h8⟩, h9⟩ := h
    rw [X.frames, List.length_cons] at h2 h3
    have q1 := X.heapSize
    have q2 := X.used
    simp only [hF, hU, List.length_cons, State.stackLimits_setFrames, State.stackBytes_setFrames, hl9, hb9]
    refine ⟨⟨⟨⟨by omega, by omega, by omega, by omega, by omega, h6⟩, ?_⟩, ?_⟩, X.book⟩
    · show T.heap.size + R'.cells ≤ e.platform.maxCells
      omega
    · show T.slotsUsed + R'.slots ≤ e.platform.maxSlots
      omega
  · rw [State.stackLimits_setFrames]; rfl
  · rw [State.stackBytes_setFrames]; rfl
  · refine ⟨?_, Nat.le_refl _, Nat.le_refl _, ?_, ?_, fun a c9 h9 => ⟨c9, h9, rfl, rfl, fun _ _ => rfl⟩⟩
    · obtain ⟨t, ht, -⟩ := State.frames_cons hr
      show T.setVm s.vm = { ((T.setVm s.vm).setFrames (.invoking m args :: below)).setFrames (T.setVm s.vm).frames with heap := T.heap, slotsUsed := T.slotsUsed }
      rw [State.setFrames_setFrames, State.setFrames_self ht]
      rfl
    · show T.slotsUsed = T.slotsUsed + ((T.heap.toList.drop T.heap.size).map (·.slots.size)).sum
      rw [List.drop_eq_nil_of_le (Nat.le_of_eq Array.length_toList)]
      rfl
    · show ((T.heap.toList.drop T.heap.size).map (·.slots.size)).sum ≤ 0
      rw [List.drop_eq_nil_of_le (Nat.le_of_eq Array.length_toList)]
      exact Nat.le_refl _
/-- 'throw new E()': new; dup; invokespecial; athrow -/
theorem vx_throw0 {cc : ByteArray} {pc : Nat} (hexec : p.tables.exec = Jvm.exec) (hb : c.code = cc) (hl : l.stackTraces = false) {own cls : String} {names : List String} {ik ic mc ms : Nat} {A : Nat → Prop}
    (hown : s.vm.findClass own = some m.cls) (hcls : Bundle.fit cls = true) (hnames : ∀ n ∈ names, Bundle.fit n = true)
    (hk : (Cond.classLink own ik cls).before args s = true) (hini : (Cond.initialized cls).before args s = true) (hat : ∀ w ∈ vx_at0 own ic cls names, w.before args s = true)
    (hgood : ∀ w ∈ Cond.classLink own ik cls :: Cond.initialized cls :: vx_at0 own ic cls names, vx_ot w = true)
    (hU : vx_Zq Bundle.tN "UNASSIGNED_STACK" Bundle.steD A s s.heap) (hN : vx_Zq Bundle.tN "SUPPRESSED_SENTINEL" Bundle.listD A s s.heap) (hS : va_S A s.heap H locs) (hsize : ls.size = c.maxLocals)
    (d0 : decode cc pc = .ok (.new ik, 3)) (d3 : decode cc (pc + 3) = .ok (.dup, 1)) (d4 : decode cc (pc + 4) = .ok (.invokespecial ic, 3)) (d7 : decode cc (pc + 7) = .ok (.athrow, 1))
    (hout : ∀ x ∈ c.exceptionTable.toList, covers x (pc + 7) = false)
    (hRframes : names.length + 3 < R.frames) (hRlocals : (rest.map fun v => v.category).sum + (13 * (names.length + 1) + 42) ≤ R.locals) (hRcells : cells + 1 ≤ R.cells) (hRslots : slots + 6 ≤ R.slots) (hlocks : meth.locks = false)
    (hx : ∀ t : State, s.vm.Alike t.vm → H.size ≤ t.heap.size → (∀ q : Nat, q < H.size → t.heap[q]? = H[q]?) → XC cls s t)
    (hf : ∀ z ∈ locs, free z.base) (hc : cells + 1 ≤ mc) (hs : slots + 6 ≤ ms) :
    W p l e R s m args below meth c H locs cells slots (vx_MQ below Qc XC args s mc ms free) (F0 m pc ls rest) := by
  intro T hT X
  have htr : e.platform.stackTraces = false := (show e.platform.stackTraces = l.stackTraces by rw [X.admits.platform]).trans hl
  have Y := vx_rebase X (R' := { frames := R.frames, locals := R.locals, cells := 1, slots := 6 }) (Nat.le_refl _) (Nat.le_refl _) hRcells hRslots
  obtain ⟨s', hA⟩ : ∃ z, z = (T.setVm s.vm).setFrames (.invoking m args :: below) := ⟨_, rfl⟩
  rw [← hA] at Y
  have hvm : s'.vm = s.vm := by rw [hA]; rfl
  have hhp : s'.heap = H := by rw [hA]; exact hT
  have hW0 : s.WarmedH s'.vm := by rw [hvm]; exact State.WarmedH.refl s
  have hat' : ∀ w ∈ vx_at0 own ic cls names, w.before args s' = true := fun w hw => vx_ot_at hW0 hvm.symm (hgood w (List.mem_cons_of_mem _ (List.mem_cons_of_mem _ hw))) (hat w hw)
  have hk' : (Cond.classLink own ik cls).before args s' = true := vx_ot_at hW0 hvm.symm (hgood _ List.mem_cons_self) hk
  have hini' : (Cond.initialized cls).before args s' = true := vx_ot_at hW0 hvm.symm (hgood _ (List.mem_cons_of_mem _ List.mem_cons_self)) hini
  have hU' : vx_Zq Bundle.tN "UNASSIGNED_STACK" Bundle.steD A s' s'.heap := by rw [hhp]; exact vx_Zq.moved hW0.alike (hU.kept hS.2.1)
  have hN' : vx_Zq Bundle.tN "SUPPRESSED_SENTINEL" Bundle.listD A s' s'.heap := by rw [hhp]; exact vx_Zq.moved hW0.alike (hN.kept hS.2.1)
  have h : ∀ w ∈ Bundle.ownAtoms0 own ic cls names, w.before args s' = true := vx_own hat' (vx_isRefq hU'.1) (vx_isRefq hN'.1) hU'.2.word hN'.2.word
  have hown' : s'.vm.findClass own = some m.cls := by rw [hvm]; exact hown
  have hins : (Cond.instantiable cls 6).before args s' = true := h _ (by simp [Bundle.ownAtoms0])
  obtain ⟨vm₁, cX, kX, hfX, hkX, -, -, X₁, st1⟩ := Y.newCold hexec (own := own) (C := cls) (index := ik) (n := 6) hown' hk' hins hini'
    (g := F0 m pc ls rest) rfl (by rw [hb]; exact d0) (Nat.le_refl _) (Nat.le_refl _)
  generalize hT1 : (T.setVm vm₁).pushCell { cls := cX, slots := kX.instanceTypes.map defaultValue, vm := .none } = T1 at X₁ st1
  have hcat : (Value.ref T.heap.size).category = 1 := rfl
  have hcellA : T1.heap[T.heap.size]? = some (freshCell cX kX) := by rw [← hT1]; exact State.heap_pushCell_size _ _
  have d3' : decode c.code (pc + 3) = .ok (.dup, 1) := by rw [hb]; exact d3
  obtain ⟨U, hsteps, hrun, hend, hW, hsame, ce, hce, hO⟩ := X₁.ctorThrow0 hexec htr (own := own) (cls := cls) (names := names) (ic := ic) hown' hcls hnames h (fun x hx => nomatch hx) hfX hkX hcellA (by rw [hhp, hT]; exact Nat.le_refl _)
    (g := { method := m, pc := pc + 4, locals := ls, stack := .ref T.heap.size :: .ref T.heap.size :: rest, locked := none }) rfl hsize rfl rfl (rest := rest) rfl
    (by rw [hb]; exact d4) (by rw [hb]; exact d7) hout hRframes (by simp only [List.map_cons, List.sum_cons, hcat]; omega) hlocks
  obtain ⟨f1, f2⟩ := vx_frame hsame
  rw [hhp] at f1 f2
  have hWs : s.WarmedH U.vm := State.WarmedH.trans hW0 hW
  have hcl : s.vm.findClass cls = some ce.cls := by
    have h9 := hO.cls
    rw [hvm] at h9
    exact h9
  have hall : s.sameButNew ({ U with vm := s.vm } : State) locs mc ms := by
    subst hA
    obtain ⟨e1, e2⟩ := hsame
    rw [State.setFrames_setFrames] at e1
    have h2 : (T.setVm s.vm).sameButNew ({ U with vm := s.vm } : State) [] (0 + 1) (0 + 6) := ⟨e1, e2⟩
    have h3 := X.same.trans h2
    rw [List.append_nil] at h3
    exact h3.mono hc hs
  refine ⟨U, ?_, .threw T.heap.size, hrun, hend, Or.inr ⟨T.heap.size, rfl, cls, ce, locs, hx U hWs.alike f1 (fun q hq => f2 q hq (fun z hz => nomatch hz)), hce, hO.vm, hcl, hWs, hall, hf⟩⟩
  refine st1 _ ?_
  show Steps p.tables e below (T1.setTop { method := m, pc := pc + 3, locals := ls, stack := .ref T.heap.size :: rest, locked := none }) _
  jvm_step X₁.here [X₁.here.top, hexec, d3', Value.category]
  exact hsteps
/-- 'throw new E("text")': new; dup; ldc; invokespecial; athrow -/
theorem vx_throwS {cc : ByteArray} {pc : Nat} (hexec : p.tables.exec = Jvm.exec) (hb : c.code = cc) (hl : l.stackTraces = false) {own cls text : String} {names : List String} {ik is ic mc ms sa : Nat} {A : Nat → Prop}
    (hown : s.vm.findClass own = some m.cls) (hcls : Bundle.fit cls = true) (hnames : ∀ n ∈ names, Bundle.fit n = true)
    (hk : (Cond.classLink own ik cls).before args s = true) (hini : (Cond.initialized cls).before args s = true) (hstr : vk_R own is text sa s) (hat : ∀ w ∈ vx_atS own ic cls names, w.before args s = true)
    (hgood : ∀ w ∈ Cond.classLink own ik cls :: Cond.initialized cls :: vx_atS own ic cls names, vx_ot w = true)
    (hU : vx_Zq Bundle.tN "UNASSIGNED_STACK" Bundle.steD A s s.heap) (hN : vx_Zq Bundle.tN "SUPPRESSED_SENTINEL" Bundle.listD A s s.heap) (hS : va_S A s.heap H locs) (hsize : ls.size = c.maxLocals)
    (d0 : decode cc pc = .ok (.new ik, 3)) (d3 : decode cc (pc + 3) = .ok (.dup, 1)) (d4 : decode cc (pc + 4) = .ok (.ldc is, 2)) (d6 : decode cc (pc + 6) = .ok (.invokespecial ic, 3)) (d9 : decode cc (pc + 9) = .ok (.athrow, 1))
    (hout : ∀ x ∈ c.exceptionTable.toList, covers x (pc + 9) = false)
    (hRframes : names.length + 3 < R.frames) (hRlocals : (rest.map fun v => v.category).sum + (13 * (names.length + 1) + 43) ≤ R.locals) (hRcells : cells + 1 ≤ R.cells) (hRslots : slots + 6 ≤ R.slots) (hlocks : meth.locks = false)
    (hx : ∀ t : State, s.vm.Alike t.vm → H.size ≤ t.heap.size → (∀ q : Nat, q < H.size → t.heap[q]? = H[q]?) → XC cls s t)
    (hf : ∀ z ∈ locs, free z.base) (hc : cells + 1 ≤ mc) (hs : slots + 6 ≤ ms) :
    W p l e R s m args below meth c H locs cells slots (vx_MQ below Qc XC args s mc ms free) (F0 m pc ls rest) := by
  intro T hT X
  have htr : e.platform.stackTraces = false := (show e.platform.stackTraces = l.stackTraces by rw [X.admits.platform]).trans hl
  have Y := vx_rebase X (R' := { frames := R.frames, locals := R.locals, cells := 1, slots := 6 }) (Nat.le_refl _) (Nat.le_refl _) hRcells hRslots
  obtain ⟨s', hA⟩ : ∃ z, z = (T.setVm s.vm).setFrames (.invoking m args :: below) := ⟨_, rfl⟩
  rw [← hA] at Y
  have hvm : s'.vm = s.vm := by rw [hA]; rfl
  have hhp : s'.heap = H := by rw [hA]; exact hT
  have hW0 : s.WarmedH s'.vm := by rw [hvm]; exact State.WarmedH.refl s
  have hat' : ∀ w ∈ vx_atS own ic cls names, w.before args s' = true := fun w hw => vx_ot_at hW0 hvm.symm (hgood w (List.mem_cons_of_mem _ (List.mem_cons_of_mem _ hw))) (hat w hw)
  have hk' : (Cond.classLink own ik cls).before args s' = true := vx_ot_at hW0 hvm.symm (hgood _ List.mem_cons_self) hk
  have hini' : (Cond.initialized cls).before args s' = true := vx_ot_at hW0 hvm.symm (hgood _ (List.mem_cons_of_mem _ List.mem_cons_self)) hini
  have hU' : vx_Zq Bundle.tN "UNASSIGNED_STACK" Bundle.steD A s' s'.heap := by rw [hhp]; exact vx_Zq.moved hW0.alike (hU.kept hS.2.1)
  have hN' : vx_Zq Bundle.tN "SUPPRESSED_SENTINEL" Bundle.listD A s' s'.heap := by rw [hhp]; exact vx_Zq.moved hW0.alike (hN.kept hS.2.1)
  have h : ∀ w ∈ Bundle.ownAtoms own ic cls names, w.before args s' = true := vx_own hat' (vx_isRefq hU'.1) (vx_isRefq hN'.1) hU'.2.word hN'.2.word
  have hown' : s'.vm.findClass own = some m.cls := by rw [hvm]; exact hown
  have hins : (Cond.instantiable cls 6).before args s' = true := h _ (by simp [Bundle.ownAtoms])
  obtain ⟨vm₁, cX, kX, hfX, hkX, -, -, X₁, st1⟩ := Y.newCold hexec (own := own) (C := cls) (index := ik) (n := 6) hown' hk' hins hini'
    (g := F0 m pc ls rest) rfl (by rw [hb]; exact d0) (Nat.le_refl _) (Nat.le_refl _)
  generalize hT1 : (T.setVm vm₁).pushCell { cls := cX, slots := kX.instanceTypes.map defaultValue, vm := .none } = T1 at X₁ st1
  have hcat : (Value.ref T.heap.size).category = 1 := rfl
  have hcellA : T1.heap[T.heap.size]? = some (freshCell cX kX) := by rw [← hT1]; exact State.heap_pushCell_size _ _
  have d3' : decode c.code (pc + 3) = .ok (.dup, 1) := by rw [hb]; exact d3
  have d4' : decode c.code (pc + 4) = .ok (.ldc is, 2) := by rw [hb]; exact d4
  have hstr' : vk_R own is text sa s' := vk_R.warm hW0 hstr
  obtain ⟨U, hsteps, hrun, hend, hW, hsame, ce, hce, hO⟩ := X₁.ctorThrowS hexec htr (own := own) (cls := cls) (names := names) (ic := ic) hown' hcls hnames h (fun x hx => nomatch hx) hfX hkX hcellA (by rw [hhp, hT]; exact Nat.le_refl _) (msg := .ref sa) rfl
    (g := { method := m, pc := pc + 6, locals := ls, stack := .ref sa :: .ref T.heap.size :: .ref T.heap.size :: rest, locked := none }) rfl hsize rfl rfl (rest := rest) rfl
    (by rw [hb]; exact d6) (by rw [hb]; exact d9) hout hRframes (by simp only [List.map_cons, List.sum_cons, hcat]; omega) hlocks
  obtain ⟨f1, f2⟩ := vx_frame hsame
  rw [hhp] at f1 f2
  have hWs : s.WarmedH U.vm := State.WarmedH.trans hW0 hW
  have hcl : s.vm.findClass cls = some ce.cls := by
    have h9 := hO.cls
    rw [hvm] at h9
    exact h9
  have hall : s.sameButNew ({ U with vm := s.vm } : State) locs mc ms := by
    subst hA
    obtain ⟨e1, e2⟩ := hsame
    rw [State.setFrames_setFrames] at e1
    have h2 : (T.setVm s.vm).sameButNew ({ U with vm := s.vm } : State) [] (0 + 1) (0 + 6) := ⟨e1, e2⟩
    have h3 := X.same.trans h2
    rw [List.append_nil] at h3
    exact h3.mono hc hs
  refine ⟨U, ?_, .threw T.heap.size, hrun, hend, Or.inr ⟨T.heap.size, rfl, cls, ce, locs, hx U hWs.alike f1 (fun q hq => f2 q hq (fun z hz => nomatch hz)), hce, hO.vm, hcl, hWs, hall, hf⟩⟩
  refine st1 _ ?_
  show Steps p.tables e below (T1.setTop { method := m, pc := pc + 3, locals := ls, stack := .ref T.heap.size :: rest, locked := none }) _
  jvm_step X₁.here [X₁.here.top, hexec, d3', Value.category]
  exact X₁.ldcString hexec (own := own) (text := text) (index := is) (a := sa) hown' hstr'.1 hstr'.2
    (g := { method := m, pc := pc + 4, locals := ls, stack := .ref T.heap.size :: .ref T.heap.size :: rest, locked := none }) rfl d4' _ hsteps
/-- 'throw new E("text")', the text by a wide index -/
theorem vx_throwSW {cc : ByteArray} {pc : Nat} (hexec : p.tables.exec = Jvm.exec) (hb : c.code = cc) (hl : l.stackTraces = false) {own cls text : String} {names : List String} {ik is ic mc ms sa : Nat} {A : Nat → Prop}
    (hown : s.vm.findClass own = some m.cls) (hcls : Bundle.fit cls = true) (hnames : ∀ n ∈ names, Bundle.fit n = true)
    (hk : (Cond.classLink own ik cls).before args s = true) (hini : (Cond.initialized cls).before args s = true) (hstr : vk_R own is text sa s) (hat : ∀ w ∈ vx_atS own ic cls names, w.before args s = true)
    (hgood : ∀ w ∈ Cond.classLink own ik cls :: Cond.initialized cls :: vx_atS own ic cls names, vx_ot w = true)
    (hU : vx_Zq Bundle.tN "UNASSIGNED_STACK" Bundle.steD A s s.heap) (hN : vx_Zq Bundle.tN "SUPPRESSED_SENTINEL" Bundle.listD A s s.heap) (hS : va_S A s.heap H locs) (hsize : ls.size = c.maxLocals)
    (d0 : decode cc pc = .ok (.new ik, 3)) (d3 : decode cc (pc + 3) = .ok (.dup, 1)) (d4 : decode cc (pc + 4) = .ok (.ldc_w is, 3)) (d7 : decode cc (pc + 7) = .ok (.invokespecial ic, 3)) (d10 : decode cc (pc + 10) = .ok (.athrow, 1))
    (hout : ∀ x ∈ c.exceptionTable.toList, covers x (pc + 10) = false)
    (hRframes : names.length + 3 < R.frames) (hRlocals : (rest.map fun v => v.category).sum + (13 * (names.length + 1) + 43) ≤ R.locals) (hRcells : cells + 1 ≤ R.cells) (hRslots : slots + 6 ≤ R.slots) (hlocks : meth.locks = false)
    (hx : ∀ t : State, s.vm.Alike t.vm → H.size ≤ t.heap.size → (∀ q : Nat, q < H.size → t.heap[q]? = H[q]?) → XC cls s t)
    (hf : ∀ z ∈ locs, free z.base) (hc : cells + 1 ≤ mc) (hs : slots + 6 ≤ ms) :
    W p l e R s m args below meth c H locs cells slots (vx_MQ below Qc XC args s mc ms free) (F0 m pc ls rest) := by
  intro T hT X
  have htr : e.platform.stackTraces = false := (show e.platform.stackTraces = l.stackTraces by rw [X.admits.platform]).trans hl
  have Y := vx_rebase X (R' := { frames := R.frames, locals := R.locals, cells := 1, slots := 6 }) (Nat.le_refl _) (Nat.le_refl _) hRcells hRslots
  obtain ⟨s', hA⟩ : ∃ z, z = (T.setVm s.vm).setFrames (.invoking m args :: below) := ⟨_, rfl⟩
  rw [← hA] at Y
  have hvm : s'.vm = s.vm := by rw [hA]; rfl
  have hhp : s'.heap = H := by rw [hA]; exact hT
  have hW0 : s.WarmedH s'.vm := by rw [hvm]; exact State.WarmedH.refl s
  have hat' : ∀ w ∈ vx_atS own ic cls names, w.before args s' = true := fun w hw => vx_ot_at hW0 hvm.symm (hgood w (List.mem_cons_of_mem _ (List.mem_cons_of_mem _ hw))) (hat w hw)
  have hk' : (Cond.classLink own ik cls).before args s' = true := vx_ot_at hW0 hvm.symm (hgood _ List.mem_cons_self) hk
  have hini' : (Cond.initialized cls).before args s' = true := vx_ot_at hW0 hvm.symm (hgood _ (List.mem_cons_of_mem _ List.mem_cons_self)) hini
  have hU' : vx_Zq Bundle.tN "UNASSIGNED_STACK" Bundle.steD A s' s'.heap := by rw [hhp]; exact vx_Zq.moved hW0.alike (hU.kept hS.2.1)
  have hN' : vx_Zq Bundle.tN "SUPPRESSED_SENTINEL" Bundle.listD A s' s'.heap := by rw [hhp]; exact vx_Zq.moved hW0.alike (hN.kept hS.2.1)
  have h : ∀ w ∈ Bundle.ownAtoms own ic cls names, w.before args s' = true := vx_own hat' (vx_isRefq hU'.1) (vx_isRefq hN'.1) hU'.2.word hN'.2.word
  have hown' : s'.vm.findClass own = some m.cls := by rw [hvm]; exact hown
  have hins : (Cond.instantiable cls 6).before args s' = true := h _ (by simp [Bundle.ownAtoms])
  obtain ⟨vm₁, cX, kX, hfX, hkX, -, -, X₁, st1⟩ := Y.newCold hexec (own := own) (C := cls) (index := ik) (n := 6) hown' hk' hins hini'
    (g := F0 m pc ls rest) rfl (by rw [hb]; exact d0) (Nat.le_refl _) (Nat.le_refl _)
  generalize hT1 : (T.setVm vm₁).pushCell { cls := cX, slots := kX.instanceTypes.map defaultValue, vm := .none } = T1 at X₁ st1
  have hcat : (Value.ref T.heap.size).category = 1 := rfl
  have hcellA : T1.heap[T.heap.size]? = some (freshCell cX kX) := by rw [← hT1]; exact State.heap_pushCell_size _ _
  have d3' : decode c.code (pc + 3) = .ok (.dup, 1) := by rw [hb]; exact d3
  have d4' : decode c.code (pc + 4) = .ok (.ldc_w is, 3) := by rw [hb]; exact d4
  have hstr' : vk_R own is text sa s' := vk_R.warm hW0 hstr
  obtain ⟨U, hsteps, hrun, hend, hW, hsame, ce, hce, hO⟩ := X₁.ctorThrowS hexec htr (own := own) (cls := cls) (names := names) (ic := ic) hown' hcls hnames h (fun x hx => nomatch hx) hfX hkX hcellA (by rw [hhp, hT]; exact Nat.le_refl _) (msg := .ref sa) rfl
    (g := { method := m, pc := pc + 7, locals := ls, stack := .ref sa :: .ref T.heap.size :: .ref T.heap.size :: rest, locked := none }) rfl hsize rfl rfl (rest := rest) rfl
    (by rw [hb]; exact d7) (by rw [hb]; exact d10) hout hRframes (by simp only [List.map_cons, List.sum_cons, hcat]; omega) hlocks
  obtain ⟨f1, f2⟩ := vx_frame hsame
  rw [hhp] at f1 f2
  have hWs : s.WarmedH U.vm := State.WarmedH.trans hW0 hW
  have hcl : s.vm.findClass cls = some ce.cls := by
    have h9 := hO.cls
    rw [hvm] at h9
    exact h9
  have hall : s.sameButNew ({ U with vm := s.vm } : State) locs mc ms := by
    subst hA
    obtain ⟨e1, e2⟩ := hsame
    rw [State.setFrames_setFrames] at e1
    have h2 : (T.setVm s.vm).sameButNew ({ U with vm := s.vm } : State) [] (0 + 1) (0 + 6) := ⟨e1, e2⟩
    have h3 := X.same.trans h2
    rw [List.append_nil] at h3
    exact h3.mono hc hs
  refine ⟨U, ?_, .threw T.heap.size, hrun, hend, Or.inr ⟨T.heap.size, rfl, cls, ce, locs, hx U hWs.alike f1 (fun q hq => f2 q hq (fun z hz => nomatch hz)), hce, hO.vm, hcl, hWs, hall, hf⟩⟩
  refine st1 _ ?_
  show Steps p.tables e below (T1.setTop { method := m, pc := pc + 3, locals := ls, stack := .ref T.heap.size :: rest, locked := none }) _
  jvm_step X₁.here [X₁.here.top, hexec, d3', Value.category]
  exact X₁.ldcStringW hexec (own := own) (text := text) (index := is) (a := sa) hown' hstr'.1 hstr'.2
    (g := { method := m, pc := pc + 4, locals := ls, stack := .ref T.heap.size :: .ref T.heap.size :: rest, locked := none }) rfl d4' _ hsteps
end Ends
section Bodies
variable {l : Launch}
theorem vx_ofW {y : MethodName} {ws ws' : List Cond} {rm : Room} {Pc : Array Value → State → Prop} {Qc : Array Value → State → Outcome → State → Prop} {XC : String → State → State → Prop} {mc ms : Nat} {free : Addr → Prop} {cc : ByteArray} {maxL : Nat} {ret : Option FieldType}
    (hy : plainName y.cls = true) (hw : ws = Cond.code y cc maxL ret :: ws')
    (body : ∀ p e s m args below meth c s₁, BodyLoose p l y (headSpec ws rm) cc maxL ret e s m args below meth c s₁ → c.maxLocals = maxL → (∀ x ∈ c.exceptionTable.toList, False) → Pc args s →
      W p l e (headSpec ws rm).room s m args below meth c s.heap [] 0 0 (vx_MQ below Qc XC args s mc ms free) (entryFrame m args maxL)) : vx_Met l y ws rm Pc Qc XC mc ms free := by
  refine MetFree.of_bodyS (code := cc) (maxLocals := maxL) (ret := ret) hy ?_ ?_
  · intro args s m h hn
    obtain ⟨meth, c, h1, h2, h3, h4, h5, h6, -, -⟩ := Cond.code_spec hn (atoms_spec (ws := ws) h _ (by rw [hw]; exact List.mem_cons_self))
    exact ⟨meth, c, h1, h2, h3, h4, h5, h6⟩
  · intro p e s m args below meth c s₁ B hml hP _
    have hh0 : s₁.heap = s.heap := by rw [B.state]; rfl
    have ht : ∀ x ∈ c.exceptionTable.toList, False := by
      obtain ⟨meth9, c9, h1, h2, -, -, -, -, h7, -⟩ := Cond.code_spec B.named (atoms_spec (ws := ws) B.pre _ (by rw [hw]; exact List.mem_cons_self))
      cases Option.some.inj (h1.symm.trans B.method)
      cases Option.some.inj (h2.symm.trans (Stand.of_body B).code)
      intro x hx
      rw [Array.isEmpty_iff.mp h7] at hx
      cases hx
    obtain ⟨t, a1, o, b1, b2, b3⟩ := body p e s m args below meth c s₁ B hml ht hP s₁ hh0 (Stand.of_body B)
    exact ⟨t, o, a1, b1, b2, b3⟩
/-- the table of a body with handlers -/
theorem vx_table {p : Program} {x y : MethodName} {S : Spec} {cc bytes : ByteArray} {maxL maxL' : Nat} {ret ret' : Option FieldType} {e : Env} {s s₁ : State} {m : MethodId} {args : Array Value} {below : List Frame} {meth : Method} {c : Code} {hh : List (Nat × Nat × Nat × Nat)}
    (B : BodyLoose p l y S cc maxL ret e s m args below meth c s₁) (h : (Cond.codeWith y bytes maxL' ret' hh).before args s = true) : c.exceptionTable.toList = tableOf hh := by
  obtain ⟨m9, meth9, c9, hn9, h1, h2, -, -, h6, -⟩ := Cond.codeWith_spec h
  cases Option.some.inj (hn9.symm.trans B.named)
  cases Option.some.inj (h1.symm.trans B.method)
  cases Option.some.inj (h2.symm.trans (Stand.of_body B).code)
  rw [← h6, table_eq]
end Bodies
end VXA
/-! ===== END ===== -/
/-! ===== BEGIN a static call of a method with an exception table ===== -/
section VXS
variable {p : Program} {l : Launch} {e : Env} {R : Room} {s : State} {m : MethodId} {args : Array Value} {below : List Frame} {meth : Method} {c : Code} {T : State} {H : Heap} {locs : List Loc} {cells slots : Nat}
abbrev vx_CSW (R : Room) (s : State) (args : Array Value) (own : String) (index : Nat) (y : MethodName) (bytes : ByteArray) (maxL : Nat) (ret : Option FieldType) (hh : List (Nat × Nat × Nat × Nat)) (ws : List Cond) (rm : Room) (mc ms n : Nat) : Prop :=
  (rm.cells = mc ∧ rm.slots = ms ∧ rm.frames + 1 ≤ R.frames ∧ 8 + (maxL + 11) + rm.locals ≤ R.locals ∧ (∀ w ∈ ws, ∀ (a' : Array Value) (U : State), s.WarmedH U.vm → w.before a' U = true) ∧ Cond.codeWith y bytes maxL ret hh ∈ ws) ∧
  (Cond.codeWith y bytes maxL ret hh).before args s = true ∧ (Cond.initialized y.cls).before args s = true ∧ (y.cls ≠ "java/lang/invoke/MethodHandle" ∧ y.cls ≠ "java/lang/invoke/VarHandle") ∧
  (∀ sig, parseMethodDescriptor y.desc = some sig → n = sig.parameters.length) ∧ (Cond.methodLink own index y).before args s = true ∧ (Cond.static y).before args s = true
theorem vx_cwSW {own : String} {index maxL mc ms : Nat} {y : MethodName} {bytes : ByteArray} {ret : Option FieldType} {hh : List (Nat × Nat × Nat × Nat)} {Ts ws ws' : List Cond} {rm : Room} (n : Nat) (ht : ∀ w ∈ Ts, w.before args s = true) (hT : GoodIn Ts (va_wsS own index y ws)) (hw : ws = Cond.codeWith y bytes maxL ret hh :: ws') (hrc : rm.cells = mc) (hrs : rm.slots = ms)
    (hd : y.cls ≠ "java/lang/invoke/MethodHandle" ∧ y.cls ≠ "java/lang/invoke/VarHandle" ∧ (parseMethodDescriptor y.desc).map (fun d => d.parameters.length) = some n) (hR : rm.frames + 1 ≤ R.frames ∧ 8 + (maxL + 11) + rm.locals ≤ R.locals) :
    vx_CSW R s args own index y bytes maxL ret hh ws rm mc ms n := by
  have ok : ∀ w ∈ va_wsS own index y ws, w.before args s = true := fun w h => ht w (hT w h).1
  have hG : GoodIn Ts ws := fun w h => hT w (by unfold va_wsS; exact List.mem_append_right _ h)
  have hc : Cond.codeWith y bytes maxL ret hh ∈ ws := by rw [hw]; exact List.mem_cons_self
  refine ⟨⟨hrc, hrs, hR.1, hR.2, pay_in ht hG, hc⟩, ht _ (hG _ hc).1, ok _ (by simp [va_wsS]), ⟨hd.1, hd.2.1⟩, fun sig h => ?_, ok _ (by simp [va_wsS]), ok _ (by simp [va_wsS])⟩
  have h2 := hd.2.2
  rw [h] at h2
  exact (Option.some.inj h2).symm
theorem vx_callSW (X : Stand p l e R s m args below meth c T locs cells slots) (hexec : p.tables.exec = Jvm.exec) {own : String} {index : Nat} {y : MethodName} {bytes : ByteArray} {maxL : Nat} {ret : Option FieldType} {hh : List (Nat × Nat × Nat × Nat)}
    (hown : s.vm.findClass own = some m.cls) (hlink : (Cond.methodLink own index y).before args s = true) (hstat : (Cond.static y).before args s = true) (hinit : (Cond.initialized y.cls).before args s = true)
    (hcode : (Cond.codeWith y bytes maxL ret hh).before args s = true) (hy : y.cls ≠ "java/lang/invoke/MethodHandle" ∧ y.cls ≠ "java/lang/invoke/VarHandle")
    {W9 : Nat} {Pre : Pt → Array Value → Prop} {Post : Pt → Array Value → Option Value → Pt → Prop} (hK : Back l R p e below s args y 3 W9 Pre Post)
    {g : JFrame} (hg : g.method = m) (hsize : g.locals.size = c.maxLocals) {argsL rest : List Value} (hlen : ∀ sig, parseMethodDescriptor y.desc = some sig → argsL.length = sig.parameters.length)
    (hstack : g.stack = argsL.reverse ++ rest) (hW : 2 * g.monitorRoom + (rest.map fun v => v.category).sum ≤ W9) (hdg : decode c.code g.pc = .ok (.invokestatic index, 3))
    (hpre : ∀ vm₁, s.WarmedH vm₁ → Pre ⟨T.setVm vm₁, locs, cells, slots⟩ argsL.toArray) :
    ∃ (v : Option Value) (vm₁ : Vm) (B : Pt), s.WarmedH vm₁ ∧ Stand p l e R s m args below meth c B.U B.locs B.cells B.slots ∧ Post ⟨T.setVm vm₁, locs, cells, slots⟩ argsL.toArray v B ∧
      ∀ target, Steps p.tables e below (B.U.setTop { g with pc := g.pc + 3, stack := v.toList ++ rest }) target → Steps p.tables e below (T.setTop g) target := by
  obtain ⟨mk, methM, cM, hnamed, hmethM, -, -, -, -, -, -, hsigM⟩ := Cond.codeWith_spec hcode
  have hstatic : methM.isStatic = true := Cond.static_spec hnamed hmethM hstat
  obtain ⟨kP, hkP, -⟩ := className_of_methodNamed hnamed
  have hinitP : kP.init = .initialized := Cond.initialized_spec (findClass_of_methodNamed hnamed) hkP hinit
  obtain ⟨vm₁, X₁, hstep₁⟩ := X.invokestatic hexec hown hlink hnamed hmethM hstatic hkP hinitP hy (g := g) hg (argsL := argsL) (rest := rest) (hlen _ hsigM) hstack hdg
  obtain ⟨v, B, X', hpost, hsteps⟩ := hK m meth c ⟨T.setVm vm₁, locs, cells, slots⟩ { g with stack := rest } (.invokestatic index) mk argsL.toArray X₁ hg hsize hdg hW (X₁.named hnamed) (hpre vm₁ X₁.warmed)
  exact ⟨v, vm₁, B, X₁.warmed, X', hpost, fun target h => hstep₁ _ fun acts => by rw [doInvoke_state]; exact hsteps.trans h⟩
theorem vx_runSW {y : MethodName} {bytes cc : ByteArray} {maxL nL mc ms n index : Nat} {ret : Option FieldType} {hh : List (Nat × Nat × Nat × Nat)} {ws : List Cond} {rm : Room} {Pc : Array Value → State → Prop} {Qc : Array Value → State → Outcome → State → Prop} {free : Addr → Prop} {Ts : List Cond} {own : String} {As rest : List Value} {g : JFrame}
    (S : CallFix p m c cc nL s args Ts own) (hM : Met l y ws rm Pc Qc mc ms free) (cw : vx_CSW R s args own index y bytes maxL ret hh ws rm mc ms n) (hp : PreS s H Pc As)
    (hg : g.method = m) (hn : As.length = n) (hsize : g.locals.size = nL) (hstack : g.stack = As.reverse ++ rest) (hW : 2 * g.monitorRoom + (rest.map fun v => v.category).sum ≤ 8) (hdg : decode cc g.pc = .ok (.invokestatic index, 3)) (hf : cells + mc ≤ R.cells ∧ slots + ms ≤ R.slots) :
    va_Run p l e R s m args below meth c H locs cells slots mc ms g rest (Qc As.toArray) (free) := by
  obtain ⟨⟨hrc, hrs, hfr, hlo, hws, hcw⟩, hcode, hini, hy, hlen, hl, hstt⟩ := cw
  have hK : Back l R p e below s args y 3 8 (PreOf R mc ms Pc) (PostOf Qc mc ms free) := va_backW (hh := hh) (bytes := bytes) (maxL := maxL) (ret := ret) hM hp.1 hrc hrs hfr hlo hws hcw (fun a' U hW => word_at hW (Or.inl (by first | rfl | simp [Cond.onTables, Cond.keeps, Cond.steady])) hini)
  obtain ⟨hx, hb, hml, ho, -⟩ := S
  intro T hT X
  obtain ⟨v, vm₁, ⟨U', l2, c2, s2⟩, hW₁, X', ⟨g', mk, t, L, e1, e2, hq, h1, hL, h2, h3⟩, st⟩ := vx_callSW X hx (hh := hh) (bytes := bytes) (maxL := maxL) (ret := ret) ho hl hstt hini hcode hy hK hg (hsize.trans hml.symm) (argsL := As) (rest := rest) (fun sig h => hn.trans (hlen sig h)) hstack hW (by rw [hb]; exact hdg)
    (fun vm₁ hW₁ => ⟨hf.1, hf.2, hp.2 (T.setVm vm₁) hT hW₁⟩)
  dsimp only [Pt.U, Pt.locs, Pt.cells, Pt.slots] at X' e1 e2 h1 h2 h3 st
  subst h1; subst h2; subst h3
  exact ⟨v, (T.setVm vm₁).calling g' mk As.toArray, t, U', L, hT, X', hL, e1, e2, hq, st⟩
/-- a thing of a world lies in the heap -/
theorem vx_lt {D : va_G} {cl : List vw_C} {ws : va_W} {H1 : Heap} (h : va_P D cl ws H1) {k : Nat} {q : Nat × va_E} (hk : ws[k]? = some q) : q.1 < H1.size := (h k q hk).lt
end VXS
/-! ===== END ===== -/
/-! ===== BEGIN methods with a table of their own: called by a name, returning or throwing ===== -/
section VXH
/-! vx_backW, vx_callVX, vx_callSX, vx_callVW, vx_runVW, vx_runVX, vx_runSX, vx_ofWH follow the same proofs as their sisters above (Free/Laws.lean, Shelf42/LK1.lean); vx_outP calls Shelf42/NT130.lean (outThrough). -/
section
variable {l : Launch} {R : Room} {p : Program} {e : Env} {below : List Frame} {s : State} {sargs : Array Value} {y : MethodName} {len W9 : Nat}
theorem vx_backW {ws : List Cond} {rm : Room} {Pc : Array Value → State → Prop} {Qc : Array Value → State → Outcome → State → Prop} {XC : String → State → State → Prop} {mc ms : Nat} {free : Addr → Prop} {bytes : ByteArray} {maxL : Nat} {ret : Option FieldType} {hh : List (Nat × Nat × Nat × Nat)}
    (hM : vx_Met l y ws rm Pc Qc XC mc ms free) (hblind : FrameBlind Pc) (hrc : rm.cells = mc) (hrs : rm.slots = ms)
    (hframes : rm.frames + 1 ≤ R.frames) (hlocals : W9 + (maxL + 11) + rm.locals ≤ R.locals)
    (hws : ∀ w ∈ ws, ∀ a' U, s.WarmedH U.vm → w.before a' U = true) (hcode : Cond.codeWith y bytes maxL ret hh ∈ ws) (hinit : ∀ a' U, s.WarmedH U.vm → (Cond.initialized y.cls).before a' U = true) :
    vx_Back l R p e below s sargs y len W9 (PreOf R mc ms Pc) (PostOf Qc mc ms free) (vx_Post XC mc ms free) := by
  intro m meth c A g ig mk a X hg hsize hdg hW hn hp
  have h1 : (headSpec ws rm).pre.before a A.U = true := atoms_intro fun w hw => hws w hw _ _ X.warmed
  have h2 : (Cond.codeWith y bytes maxL ret hh).before a A.U = true := hws _ hcode _ _ X.warmed
  have h3 : (Cond.initialized y.cls).before a A.U = true := hinit _ _ X.warmed
  have h4 : A.cells + (headSpec ws rm).room.cells ≤ R.cells := by rw [show (headSpec ws rm).room.cells = mc from hrc]; exact hp.1
  have h5 : A.slots + (headSpec ws rm).room.slots ≤ R.slots := by rw [show (headSpec ws rm).room.slots = ms from hrs]; exact hp.2.1
  have hPc : Pc a (A.U.calling g mk a) := hblind _ _ _ _ hp.2.2
  obtain ⟨U, Ls, c0, s0⟩ := A
  dsimp only [Pt.U, Pt.locs, Pt.cells, Pt.slots] at h1 h2 h3 h4 h5 X hn hPc ⊢
  obtain ⟨m9, methY, cY, hn9, hmY, hcY, -, hlY, -⟩ := Cond.codeWith_spec h2
  cases Option.some.inj (hn9.symm.trans hn)
  obtain ⟨kY, hkY, -⟩ := className_of_methodNamed hn
  have hinitY : kY.init = .initialized := Cond.initialized_spec (findClass_of_methodNamed hn) hkY h3
  have h : At U g.method c below := by rw [hg]; exact X.here
  have hlocals9 : W9 + (maxL + 11) + (headSpec ws rm).room.locals ≤ R.locals := hlocals
  have happ : (headSpec ws rm).appliesLoose y e.platform (U.calling g mk a) = true :=
    Spec.appliesLoose_calling (g := g) h hdg hn hkY hinitY
      (X.room_calling (g := g) (R' := (headSpec ws rm).room) hsize hmY hcY hframes (by rw [hlY]; omega) h4 h5) h1
  obtain ⟨mid, hmid⟩ := h.above
  have hfr : (U.setTop g).frames = (.java g :: mid) ++ below := by rw [State.frames_setTop' g h.top, hmid]; rfl
  obtain ⟨o, s₂, hsteps, -, hend, hq⟩ := Steps.callFree hM p X.admits X.cas X.clock (acts := []) hfr happ hPc trivial
  have hq' : vx_Q Qc XC mc ms free a (U.calling g mk a) o s₂ := hq
  rw [State.frames_setTop' g h.top] at hend
  obtain ⟨g₀, hg0⟩ := Option.isSome_iff_exists.mp h.top
  obtain ⟨r, hr⟩ := State.topJava?_eq_some.mp hg0
  have hr' : (({ U with heap := s₂.heap, slotsUsed := s₂.slotsUsed } : State).setVm s₂.vm).frames = .java g₀ :: r := hr
  rcases hq' with ⟨hqc, L, hfe, hL⟩ | ⟨q, rfl, E, ce, L, hx, hce, hcv, hcl, hW₂, hsm, hL⟩
  · obtain ⟨⟨v, rfl⟩, hW₂, e2, q2, q3, q4, q5, q6⟩ := id hfe
    have e3 : s₂ = ({ (U.calling g mk a).setFrames s₂.frames with heap := s₂.heap, slotsUsed := s₂.slotsUsed } : State).setVm s₂.vm := by
      have : s₂ = ({ s₂ with vm := (U.calling g mk a).vm } : State).setVm s₂.vm := rfl
      rw [e2] at this
      exact this
    obtain ⟨c₂, i₂, len₂, hc₂, hd₂, hf₂⟩ := hend
    have hW' : U.WarmedH s₂.vm := hW₂
    have hcc : c₂ = c := by
      have h1 : s₂.code? g.method = U.code? g.method := by
        rw [State.code?_eq, State.code?_eq, hW'.alike.method?]
      exact Option.some.inj (hc₂.symm.trans (h1.trans h.code))
    subst hcc
    have hlen : len₂ = len := by rw [hdg] at hd₂; cases hd₂; rfl
    subst hlen
    have hs₂ : s₂ = (({ U with heap := s₂.heap, slotsUsed := s₂.slotsUsed } : State).setVm s₂.vm).setTop { g with pc := g.pc + len₂, stack := v.toList ++ g.stack } := by
      refine e3.trans ?_
      rw [hf₂, State.calling_eq h.top, State.setFrames_setFrames, State.setTop_of_frames _ hr', hr]
      rfl
    have hsame : U.sameButNew ({ U with heap := s₂.heap, slotsUsed := s₂.slotsUsed } : State) L mc ms := by
      refine ⟨?_, q2, q3, q4, q5, q6⟩
      obtain ⟨t, ht, -⟩ := State.frames_cons hr
      show ({ U with heap := s₂.heap, slotsUsed := s₂.slotsUsed } : State) = { U.setFrames U.frames with heap := s₂.heap, slotsUsed := s₂.slotsUsed }
      rw [State.setFrames_self ht]
    subst hg
    refine Or.inl ⟨v, ⟨(({ U with heap := s₂.heap, slotsUsed := s₂.slotsUsed } : State).setVm s₂.vm), Ls ++ L, c0 + mc, s0 + ms⟩,
      ⟨X.admits, X.cas, X.clock, X.frames, X.room, X.hears, X.method, X.code, (X.here.setHeapUsed s₂.heap s₂.slotsUsed).setVm hW'.alike, X.tail, State.WarmedH.trans X.warmed hW', X.limits, X.bytes, X.same.trans (hsame.setVm s.vm)⟩,
      ⟨g, mk, s₂, L, rfl, rfl, hqc, rfl, hL, rfl, rfl⟩, ?_⟩
    show Steps p.tables e below _ ((({ U with heap := s₂.heap, slotsUsed := s₂.slotsUsed } : State).setVm s₂.vm).setTop { g with pc := g.pc + len₂, stack := v.toList ++ g.stack })
    rw [← hs₂]
    exact hsteps
  · obtain ⟨e2, q2, q3, q4, q5, q6⟩ := id hsm
    have e3 : s₂ = ({ (U.calling g mk a).setFrames s₂.frames with heap := s₂.heap, slotsUsed := s₂.slotsUsed } : State).setVm s₂.vm := by
      have : s₂ = ({ s₂ with vm := (U.calling g mk a).vm } : State).setVm s₂.vm := rfl
      rw [e2] at this
      exact this
    have hf₂ : s₂.frames = .throwing q :: .java g :: U.frames.tail := hend
    have hW' : U.WarmedH s₂.vm := hW₂
    have hs₂ : s₂ = ((({ U with heap := s₂.heap, slotsUsed := s₂.slotsUsed } : State).setVm s₂.vm).setTop g).pushFrame (.throwing q) := by
      refine e3.trans ?_
      rw [hf₂, State.calling_eq h.top, State.setFrames_setFrames, State.pushFrame, State.frames_setTop _ hr', State.setTop_of_frames _ hr', State.setFrames_setFrames, hr]
      rfl
    have hsame : U.sameButNew ({ U with heap := s₂.heap, slotsUsed := s₂.slotsUsed } : State) L mc ms := by
      refine ⟨?_, q2, q3, q4, q5, q6⟩
      obtain ⟨t, ht, -⟩ := State.frames_cons hr
      show ({ U with heap := s₂.heap, slotsUsed := s₂.slotsUsed } : State) = { U.setFrames U.frames with heap := s₂.heap, slotsUsed := s₂.slotsUsed }
      rw [State.setFrames_self ht]
    subst hg
    refine Or.inr ⟨q, ⟨(({ U with heap := s₂.heap, slotsUsed := s₂.slotsUsed } : State).setVm s₂.vm), Ls ++ L, c0 + mc, s0 + ms⟩,
      ⟨X.admits, X.cas, X.clock, X.frames, X.room, X.hears, X.method, X.code, (X.here.setHeapUsed s₂.heap s₂.slotsUsed).setVm hW'.alike, X.tail, State.WarmedH.trans X.warmed hW', X.limits, X.bytes, X.same.trans (hsame.setVm s.vm)⟩,
      ⟨g, mk, s₂, L, E, ce, rfl, rfl, hx, hce, hcv, hcl, rfl, hL, rfl, rfl⟩, ?_⟩
    show Steps p.tables e below _ (((({ U with heap := s₂.heap, slotsUsed := s₂.slotsUsed } : State).setVm s₂.vm).setTop g).pushFrame (.throwing q))
    rw [← hs₂]
    exact hsteps
end
variable {p : Program} {l : Launch} {e : Env} {R : Room} {s : State} {m : MethodId} {args : Array Value} {below : List Frame} {meth : Method} {c : Code} {T : State} {H : Heap} {locs : List Loc} {cells slots : Nat}
theorem vx_callVX (X : Stand p l e R s m args below meth c T locs cells slots) (hexec : p.tables.exec = Jvm.exec) {own C : String} {index : Nat} {y : MethodName} {bytes : ByteArray} {maxL : Nat} {ret : Option FieldType} {hh : List (Nat × Nat × Nat × Nat)}
    (hown : s.vm.findClass own = some m.cls) (hlink : (Cond.methodLink own index y).before args s = true) (hinst : (Cond.instanceMethod y).before args s = true) (hsel : (Cond.selects C y y).before args s = true)
    (hcode : (Cond.codeWith y bytes maxL ret hh).before args s = true) (hy : y.cls ≠ "java/lang/invoke/MethodHandle" ∧ y.cls ≠ "java/lang/invoke/VarHandle")
    {W9 : Nat} {Pre : Pt → Array Value → Prop} {Post : Pt → Array Value → Option Value → Pt → Prop} {PostX : Pt → Array Value → Addr → Pt → Prop} (hK : vx_Back l R p e below s args y 3 W9 Pre Post PostX)
    {b : Addr} {cellB : Cell} (hcell : T.heap[b]? = some cellB) (hobj : cellB.vm.isStatics = false) (hcls : s.vm.findClass C = some cellB.cls)
    {g : JFrame} (hg : g.method = m) (hsize : g.locals.size = c.maxLocals) {argsL rest : List Value} (hlen : ∀ sig, parseMethodDescriptor y.desc = some sig → argsL.length = sig.parameters.length)
    (hstack : g.stack = argsL.reverse ++ .ref b :: rest) (hW : 2 * g.monitorRoom + (rest.map fun v => v.category).sum ≤ W9) (hdg : decode c.code g.pc = .ok (.invokevirtual index, 3))
    (hpre : ∀ vm₁, s.WarmedH vm₁ → Pre ⟨T.setVm vm₁, locs, cells, slots⟩ (Value.ref b :: argsL).toArray) :
    (∃ (v : Option Value) (vm₁ : Vm) (B : Pt), s.WarmedH vm₁ ∧ Stand p l e R s m args below meth c B.U B.locs B.cells B.slots ∧ Post ⟨T.setVm vm₁, locs, cells, slots⟩ (Value.ref b :: argsL).toArray v B ∧
      ∀ target, Steps p.tables e below (B.U.setTop { g with pc := g.pc + 3, stack := v.toList ++ rest }) target → Steps p.tables e below (T.setTop g) target) ∨
    (∃ (q : Addr) (vm₁ : Vm) (B : Pt), s.WarmedH vm₁ ∧ Stand p l e R s m args below meth c B.U B.locs B.cells B.slots ∧ PostX ⟨T.setVm vm₁, locs, cells, slots⟩ (Value.ref b :: argsL).toArray q B ∧
      Steps p.tables e below (T.setTop g) ((B.U.setTop { g with stack := rest }).pushFrame (.throwing q))) := by
  obtain ⟨mk, methM, hnamed, hmethM, hstM, habM⟩ := Cond.instanceMethod_spec hinst
  obtain ⟨m8, methM', cM, hn8, hmethM', -, -, -, -, -, -, hsigM⟩ := Cond.codeWith_spec hcode
  cases Option.some.inj (hn8.symm.trans hnamed)
  cases hmethM.symm.trans hmethM'
  obtain ⟨c2, r2, m2, q1, q2, q3, q4, kP, hkP, hkPi⟩ := Cond.selects_spec hsel
  cases hcls.symm.trans q1
  cases (State.methodFound?_of_named hnamed hy).symm.trans q2
  cases hnamed.symm.trans q3
  have hselP : selectMethod e.platform s.vm cellB.cls mk = .method mk := by rw [Launch.admits_selectMethod X.admits]; exact q4
  obtain ⟨vm₁, X₁, hstep₁⟩ := X.invokevirtual hexec hown hlink hnamed hmethM hstM hkP hkPi hy (a := b) (cell := cellB) hcell
    (fun z h => by rw [h] at hobj; cases hobj) hselP hmethM habM hkP hkPi (g := g) hg (argsL := argsL) (rest := rest) (hlen _ hsigM) hstack hdg
  rcases hK m meth c ⟨T.setVm vm₁, locs, cells, slots⟩ { g with stack := rest } (.invokevirtual index) mk (Value.ref b :: argsL).toArray X₁ hg hsize hdg hW (X₁.named hnamed) (hpre vm₁ X₁.warmed) with ⟨v, B, X', hpost, hsteps⟩ | ⟨q, B, X', hpost, hsteps⟩
  · exact Or.inl ⟨v, vm₁, B, X₁.warmed, X', hpost, fun target h => hstep₁ _ fun acts => by rw [doInvoke_state]; exact hsteps.trans h⟩
  · exact Or.inr ⟨q, vm₁, B, X₁.warmed, X', hpost, hstep₁ _ fun acts => by rw [doInvoke_state]; exact hsteps⟩
theorem vx_callSX (X : Stand p l e R s m args below meth c T locs cells slots) (hexec : p.tables.exec = Jvm.exec) {own : String} {index : Nat} {y : MethodName} {bytes : ByteArray} {maxL : Nat} {ret : Option FieldType} {hh : List (Nat × Nat × Nat × Nat)}
    (hown : s.vm.findClass own = some m.cls) (hlink : (Cond.methodLink own index y).before args s = true) (hstat : (Cond.static y).before args s = true) (hinit : (Cond.initialized y.cls).before args s = true)
    (hcode : (Cond.codeWith y bytes maxL ret hh).before args s = true) (hy : y.cls ≠ "java/lang/invoke/MethodHandle" ∧ y.cls ≠ "java/lang/invoke/VarHandle")
    {W9 : Nat} {Pre : Pt → Array Value → Prop} {Post : Pt → Array Value → Option Value → Pt → Prop} {PostX : Pt → Array Value → Addr → Pt → Prop} (hK : vx_Back l R p e below s args y 3 W9 Pre Post PostX)
    {g : JFrame} (hg : g.method = m) (hsize : g.locals.size = c.maxLocals) {argsL rest : List Value} (hlen : ∀ sig, parseMethodDescriptor y.desc = some sig → argsL.length = sig.parameters.length)
    (hstack : g.stack = argsL.reverse ++ rest) (hW : 2 * g.monitorRoom + (rest.map fun v => v.category).sum ≤ W9) (hdg : decode c.code g.pc = .ok (.invokestatic index, 3))
    (hpre : ∀ vm₁, s.WarmedH vm₁ → Pre ⟨T.setVm vm₁, locs, cells, slots⟩ argsL.toArray) :
    (∃ (v : Option Value) (vm₁ : Vm) (B : Pt), s.WarmedH vm₁ ∧ Stand p l e R s m args below meth c B.U B.locs B.cells B.slots ∧ Post ⟨T.setVm vm₁, locs, cells, slots⟩ argsL.toArray v B ∧
      ∀ target, Steps p.tables e below (B.U.setTop { g with pc := g.pc + 3, stack := v.toList ++ rest }) target → Steps p.tables e below (T.setTop g) target) ∨
    (∃ (q : Addr) (vm₁ : Vm) (B : Pt), s.WarmedH vm₁ ∧ Stand p l e R s m args below meth c B.U B.locs B.cells B.slots ∧ PostX ⟨T.setVm vm₁, locs, cells, slots⟩ argsL.toArray q B ∧
      Steps p.tables e below (T.setTop g) ((B.U.setTop { g with stack := rest }).pushFrame (.throwing q))) := by
  obtain ⟨mk, methM, cM, hnamed, hmethM, -, -, -, -, -, -, hsigM⟩ := Cond.codeWith_spec hcode
  have hstatic : methM.isStatic = true := Cond.static_spec hnamed hmethM hstat
  obtain ⟨kP, hkP, -⟩ := className_of_methodNamed hnamed
  have hinitP : kP.init = .initialized := Cond.initialized_spec (findClass_of_methodNamed hnamed) hkP hinit
  obtain ⟨vm₁, X₁, hstep₁⟩ := X.invokestatic hexec hown hlink hnamed hmethM hstatic hkP hinitP hy (g := g) hg (argsL := argsL) (rest := rest) (hlen _ hsigM) hstack hdg
  rcases hK m meth c ⟨T.setVm vm₁, locs, cells, slots⟩ { g with stack := rest } (.invokestatic index) mk argsL.toArray X₁ hg hsize hdg hW (X₁.named hnamed) (hpre vm₁ X₁.warmed) with ⟨v, B, X', hpost, hsteps⟩ | ⟨q, B, X', hpost, hsteps⟩
  · exact Or.inl ⟨v, vm₁, B, X₁.warmed, X', hpost, fun target h => hstep₁ _ fun acts => by rw [doInvoke_state]; exact hsteps.trans h⟩
  · exact Or.inr ⟨q, vm₁, B, X₁.warmed, X', hpost, hstep₁ _ fun acts => by rw [doInvoke_state]; exact hsteps⟩
theorem vx_callVW (X : Stand p l e R s m args below meth c T locs cells slots) (hexec : p.tables.exec = Jvm.exec) {own C : String} {index : Nat} {y : MethodName} {bytes : ByteArray} {maxL : Nat} {ret : Option FieldType} {hh : List (Nat × Nat × Nat × Nat)}
    (hown : s.vm.findClass own = some m.cls) (hlink : (Cond.methodLink own index y).before args s = true) (hinst : (Cond.instanceMethod y).before args s = true) (hsel : (Cond.selects C y y).before args s = true)
    (hcode : (Cond.codeWith y bytes maxL ret hh).before args s = true) (hy : y.cls ≠ "java/lang/invoke/MethodHandle" ∧ y.cls ≠ "java/lang/invoke/VarHandle")
    {W9 : Nat} {Pre : Pt → Array Value → Prop} {Post : Pt → Array Value → Option Value → Pt → Prop} (hK : Back l R p e below s args y 3 W9 Pre Post)
    {b : Addr} {cellB : Cell} (hcell : T.heap[b]? = some cellB) (hobj : cellB.vm.isStatics = false) (hcls : s.vm.findClass C = some cellB.cls)
    {g : JFrame} (hg : g.method = m) (hsize : g.locals.size = c.maxLocals) {argsL rest : List Value} (hlen : ∀ sig, parseMethodDescriptor y.desc = some sig → argsL.length = sig.parameters.length)
    (hstack : g.stack = argsL.reverse ++ .ref b :: rest) (hW : 2 * g.monitorRoom + (rest.map fun v => v.category).sum ≤ W9) (hdg : decode c.code g.pc = .ok (.invokevirtual index, 3))
    (hpre : ∀ vm₁, s.WarmedH vm₁ → Pre ⟨T.setVm vm₁, locs, cells, slots⟩ (Value.ref b :: argsL).toArray) :
    ∃ (v : Option Value) (vm₁ : Vm) (B : Pt), s.WarmedH vm₁ ∧ Stand p l e R s m args below meth c B.U B.locs B.cells B.slots ∧ Post ⟨T.setVm vm₁, locs, cells, slots⟩ (Value.ref b :: argsL).toArray v B ∧
      ∀ target, Steps p.tables e below (B.U.setTop { g with pc := g.pc + 3, stack := v.toList ++ rest }) target → Steps p.tables e below (T.setTop g) target := by
  obtain ⟨mk, methM, hnamed, hmethM, hstM, habM⟩ := Cond.instanceMethod_spec hinst
  obtain ⟨m8, methM', cM, hn8, hmethM', -, -, -, -, -, -, hsigM⟩ := Cond.codeWith_spec hcode
  cases Option.some.inj (hn8.symm.trans hnamed)
  cases hmethM.symm.trans hmethM'
  obtain ⟨c2, r2, m2, q1, q2, q3, q4, kP, hkP, hkPi⟩ := Cond.selects_spec hsel
  cases hcls.symm.trans q1
  cases (State.methodFound?_of_named hnamed hy).symm.trans q2
  cases hnamed.symm.trans q3
  have hselP : selectMethod e.platform s.vm cellB.cls mk = .method mk := by rw [Launch.admits_selectMethod X.admits]; exact q4
  obtain ⟨vm₁, X₁, hstep₁⟩ := X.invokevirtual hexec hown hlink hnamed hmethM hstM hkP hkPi hy (a := b) (cell := cellB) hcell
    (fun z h => by rw [h] at hobj; cases hobj) hselP hmethM habM hkP hkPi (g := g) hg (argsL := argsL) (rest := rest) (hlen _ hsigM) hstack hdg
  obtain ⟨v, B, X', hpost, hsteps⟩ := hK m meth c ⟨T.setVm vm₁, locs, cells, slots⟩ { g with stack := rest } (.invokevirtual index) mk (Value.ref b :: argsL).toArray X₁ hg hsize hdg hW (X₁.named hnamed) (hpre vm₁ X₁.warmed)
  exact ⟨v, vm₁, B, X₁.warmed, X', hpost, fun target h => hstep₁ _ fun acts => by rw [doInvoke_state]; exact hsteps.trans h⟩
abbrev vx_CVW (R : Room) (s : State) (args : Array Value) (own C : String) (index : Nat) (y : MethodName) (bytes : ByteArray) (maxL : Nat) (ret : Option FieldType) (hh : List (Nat × Nat × Nat × Nat)) (ws : List Cond) (rm : Room) (mc ms n : Nat) : Prop :=
  (rm.cells = mc ∧ rm.slots = ms ∧ rm.frames + 1 ≤ R.frames ∧ 8 + (maxL + 11) + rm.locals ≤ R.locals ∧ (∀ w ∈ ws, ∀ (a' : Array Value) (U : State), s.WarmedH U.vm → w.before a' U = true) ∧ Cond.codeWith y bytes maxL ret hh ∈ ws) ∧
  (Cond.codeWith y bytes maxL ret hh).before args s = true ∧ (Cond.initialized y.cls).before args s = true ∧ (y.cls ≠ "java/lang/invoke/MethodHandle" ∧ y.cls ≠ "java/lang/invoke/VarHandle") ∧
  (∀ sig, parseMethodDescriptor y.desc = some sig → n = sig.parameters.length) ∧ (Cond.methodLink own index y).before args s = true ∧ (Cond.instanceMethod y).before args s = true ∧ (Cond.selects C y y).before args s = true
theorem vx_cwVW {own C : String} {index maxL mc ms : Nat} {y : MethodName} {bytes : ByteArray} {ret : Option FieldType} {hh : List (Nat × Nat × Nat × Nat)} {Ts ws ws' : List Cond} {rm : Room} (n : Nat) (ht : ∀ w ∈ Ts, w.before args s = true) (hT : GoodIn Ts (wsV own index C y ws)) (hw : ws = Cond.codeWith y bytes maxL ret hh :: ws') (hrc : rm.cells = mc) (hrs : rm.slots = ms)
    (hd : y.cls = C ∧ y.cls ≠ "java/lang/invoke/MethodHandle" ∧ y.cls ≠ "java/lang/invoke/VarHandle" ∧ (parseMethodDescriptor y.desc).map (fun d => d.parameters.length) = some n) (hR : rm.frames + 1 ≤ R.frames ∧ 8 + (maxL + 11) + rm.locals ≤ R.locals) :
    vx_CVW R s args own C index y bytes maxL ret hh ws rm mc ms n := by
  obtain ⟨hC, hd⟩ := hd
  subst hC
  have ok : ∀ w ∈ wsV own index y.cls y ws, w.before args s = true := fun w h => ht w (hT w h).1
  have hG : GoodIn Ts ws := fun w h => hT w (by unfold wsV; exact List.mem_append_right _ h)
  have hc : Cond.codeWith y bytes maxL ret hh ∈ ws := by rw [hw]; exact List.mem_cons_self
  refine ⟨⟨hrc, hrs, hR.1, hR.2, pay_in ht hG, hc⟩, ht _ (hG _ hc).1, ok _ (by simp [wsV]), ⟨hd.1, hd.2.1⟩, fun sig h => ?_, ok _ (by simp [wsV]), ok _ (by simp [wsV]), ok _ (by simp [wsV])⟩
  have h2 := hd.2.2
  rw [h] at h2
  exact (Option.some.inj h2).symm
theorem vx_runVW {y : MethodName} {bytes cc : ByteArray} {maxL nL mc ms n index : Nat} {ret : Option FieldType} {hh : List (Nat × Nat × Nat × Nat)} {ws : List Cond} {rm : Room} {Pc : Array Value → State → Prop} {Qc : Array Value → State → Outcome → State → Prop} {free : Addr → Prop} {Ts : List Cond} {own C : String} {b : Addr} {As rest : List Value} {g : JFrame}
    (S : CallFix p m c cc nL s args Ts own) (hM : Met l y ws rm Pc Qc mc ms free) (cw : vx_CVW R s args own C index y bytes maxL ret hh ws rm mc ms n) (hp : PreV s H C b Pc As)
    (hg : g.method = m) (hn : As.length = n) (hsize : g.locals.size = nL) (hstack : g.stack = As.reverse ++ .ref b :: rest) (hW : 2 * g.monitorRoom + (rest.map fun v => v.category).sum ≤ 8) (hdg : decode cc g.pc = .ok (.invokevirtual index, 3)) (hf : cells + mc ≤ R.cells ∧ slots + ms ≤ R.slots) :
    va_Run p l e R s m args below meth c H locs cells slots mc ms g rest (Qc (Value.ref b :: As).toArray) free := by
  obtain ⟨⟨hrc, hrs, hfr, hlo, hws, hcw⟩, hcode, hini, hy, hlen, hl, hin, hse⟩ := cw
  have hK : Back l R p e below s args y 3 8 (PreOf R mc ms Pc) (PostOf Qc mc ms free) := va_backW (hh := hh) (bytes := bytes) (maxL := maxL) (ret := ret) hM hp.1 hrc hrs hfr hlo hws hcw (fun a' U hW => word_at hW (Or.inl (by first | rfl | simp [Cond.onTables, Cond.keeps, Cond.steady])) hini)
  obtain ⟨hx, hb, hml, ho, -⟩ := S
  obtain ⟨-, ⟨cellB, hcB, hoB, hclB⟩, hPc⟩ := hp
  intro T hT X
  obtain ⟨v, vm₁, ⟨U', l2, c2, s2⟩, hW₁, X', ⟨g', mk, t, L, e1, e2, hq, h1, hL, h2, h3⟩, st⟩ := vx_callVW X hx (C := C) (hh := hh) (bytes := bytes) (maxL := maxL) (ret := ret) ho hl hin hse hcode hy hK (by rw [hT]; exact hcB) hoB hclB hg (hsize.trans hml.symm) (argsL := As) (rest := rest) (fun sig h => hn.trans (hlen sig h)) hstack hW (by rw [hb]; exact hdg)
    (fun vm₁ hW₁ => ⟨hf.1, hf.2, hPc (T.setVm vm₁) hT hW₁⟩)
  dsimp only [Pt.U, Pt.locs, Pt.cells, Pt.slots] at X' e1 e2 h1 h2 h3 st
  subst h1; subst h2; subst h3
  exact ⟨v, (T.setVm vm₁).calling g' mk (Value.ref b :: As).toArray, t, U', L, hT, X', hL, e1, e2, hq, st⟩
section
variable {y : MethodName} {bytes cc : ByteArray} {maxL nL mc ms n index : Nat} {ret : Option FieldType} {ws : List Cond} {rm : Room} {Pc : Array Value → State → Prop} {Qc : Array Value → State → Outcome → State → Prop} {XC : String → State → State → Prop} {free : Addr → Prop} {Ts : List Cond} {own C : String} {b : Addr} {As rest : List Value} {g : JFrame}
theorem vx_runVX {hh : List (Nat × Nat × Nat × Nat)} (S : CallFix p m c cc nL s args Ts own) (hM : vx_Met l y ws rm Pc Qc XC mc ms free) (cw : vx_CVW R s args own C index y bytes maxL ret hh ws rm mc ms n) (hp : PreV s H C b Pc As)
    (hg : g.method = m) (hn : As.length = n) (hsize : g.locals.size = nL) (hstack : g.stack = As.reverse ++ .ref b :: rest) (hW : 2 * g.monitorRoom + (rest.map fun v => v.category).sum ≤ 8) (hdg : decode cc g.pc = .ok (.invokevirtual index, 3)) (hf : cells + mc ≤ R.cells ∧ slots + ms ≤ R.slots) :
    vx_Run p l e R s m args below meth c H locs cells slots mc ms g rest (Qc (Value.ref b :: As).toArray) XC free := by
  obtain ⟨⟨hrc, hrs, hfr, hlo, hws, hcw⟩, hcode, hini, hy, hlen, hl, hin, hse⟩ := cw
  have hK : vx_Back l R p e below s args y 3 8 (PreOf R mc ms Pc) (PostOf Qc mc ms free) (vx_Post XC mc ms free) := vx_backW (hh := hh) (bytes := bytes) (maxL := maxL) (ret := ret) hM hp.1 hrc hrs hfr hlo hws hcw (fun a' U hW => word_at hW (Or.inl (by first | rfl | simp [Cond.onTables, Cond.keeps, Cond.steady])) hini)
  obtain ⟨hx, hb, hml, ho, -⟩ := S
  obtain ⟨-, ⟨cellB, hcB, hoB, hclB⟩, hPc⟩ := hp
  intro T hT X
  rcases vx_callVX X hx (C := C) (hh := hh) (bytes := bytes) (maxL := maxL) (ret := ret) ho hl hin hse hcode hy hK (by rw [hT]; exact hcB) hoB hclB hg (hsize.trans hml.symm) (argsL := As) (rest := rest) (fun sig h => hn.trans (hlen sig h)) hstack hW (by rw [hb]; exact hdg)
    (fun vm₁ hW₁ => ⟨hf.1, hf.2, hPc (T.setVm vm₁) hT hW₁⟩) with ⟨v, vm₁, ⟨U', l2, c2, s2⟩, hW₁, X', ⟨g', mk, t, L, e1, e2, hq, h1, hL, h2, h3⟩, st⟩ | ⟨q, vm₁, ⟨U', l2, c2, s2⟩, hW₁, X', ⟨g', mk, t, L, E, ce, e1, e2, hq, hce, hcv, hcl, h1, hL, h2, h3⟩, st⟩
  · dsimp only [Pt.U, Pt.locs, Pt.cells, Pt.slots] at X' e1 e2 h1 h2 h3 st
    subst h1; subst h2; subst h3
    exact Or.inl ⟨v, (T.setVm vm₁).calling g' mk (Value.ref b :: As).toArray, t, U', L, hT, X', hL, e1, e2, hq, st⟩
  · dsimp only [Pt.U, Pt.locs, Pt.cells, Pt.slots] at X' e1 e2 h1 h2 h3 st hcl
    subst h1; subst h2; subst h3
    exact Or.inr ⟨q, (T.setVm vm₁).calling g' mk (Value.ref b :: As).toArray, t, U', L, E, ce, hT, X', hL, e1, e2, hq, hce, hcv, vx_cls hW₁ hcl, st⟩
theorem vx_runSX {hh : List (Nat × Nat × Nat × Nat)} (S : CallFix p m c cc nL s args Ts own) (hM : vx_Met l y ws rm Pc Qc XC mc ms free) (cw : vx_CSW R s args own index y bytes maxL ret hh ws rm mc ms n) (hp : PreS s H Pc As)
    (hg : g.method = m) (hn : As.length = n) (hsize : g.locals.size = nL) (hstack : g.stack = As.reverse ++ rest) (hW : 2 * g.monitorRoom + (rest.map fun v => v.category).sum ≤ 8) (hdg : decode cc g.pc = .ok (.invokestatic index, 3)) (hf : cells + mc ≤ R.cells ∧ slots + ms ≤ R.slots) :
    vx_Run p l e R s m args below meth c H locs cells slots mc ms g rest (Qc As.toArray) XC free := by
  obtain ⟨⟨hrc, hrs, hfr, hlo, hws, hcw⟩, hcode, hini, hy, hlen, hl, hstt⟩ := cw
  have hK : vx_Back l R p e below s args y 3 8 (PreOf R mc ms Pc) (PostOf Qc mc ms free) (vx_Post XC mc ms free) := vx_backW (hh := hh) (bytes := bytes) (maxL := maxL) (ret := ret) hM hp.1 hrc hrs hfr hlo hws hcw (fun a' U hW => word_at hW (Or.inl (by first | rfl | simp [Cond.onTables, Cond.keeps, Cond.steady])) hini)
  obtain ⟨hx, hb, hml, ho, -⟩ := S
  intro T hT X
  rcases vx_callSX X hx (hh := hh) (bytes := bytes) (maxL := maxL) (ret := ret) ho hl hstt hini hcode hy hK hg (hsize.trans hml.symm) (argsL := As) (rest := rest) (fun sig h => hn.trans (hlen sig h)) hstack hW (by rw [hb]; exact hdg)
    (fun vm₁ hW₁ => ⟨hf.1, hf.2, hp.2 (T.setVm vm₁) hT hW₁⟩) with ⟨v, vm₁, ⟨U', l2, c2, s2⟩, hW₁, X', ⟨g', mk, t, L, e1, e2, hq, h1, hL, h2, h3⟩, st⟩ | ⟨q, vm₁, ⟨U', l2, c2, s2⟩, hW₁, X', ⟨g', mk, t, L, E, ce, e1, e2, hq, hce, hcv, hcl, h1, hL, h2, h3⟩, st⟩
  · dsimp only [Pt.U, Pt.locs, Pt.cells, Pt.slots] at X' e1 e2 h1 h2 h3 st
    subst h1; subst h2; subst h3
    exact Or.inl ⟨v, (T.setVm vm₁).calling g' mk As.toArray, t, U', L, hT, X', hL, e1, e2, hq, st⟩
  · dsimp only [Pt.U, Pt.locs, Pt.cells, Pt.slots] at X' e1 e2 h1 h2 h3 st hcl
    subst h1; subst h2; subst h3
    exact Or.inr ⟨q, (T.setVm vm₁).calling g' mk As.toArray, t, U', L, E, ce, hT, X', hL, e1, e2, hq, hce, hcv, vx_cls hW₁ hcl, st⟩
end
end VXH
theorem vx_ofWH {l : Launch} {y : MethodName} {ws ws' : List Cond} {rm : Room} {Pc : Array Value → State → Prop} {Qc : Array Value → State → Outcome → State → Prop} {XC : String → State → State → Prop} {mc ms : Nat} {free : Addr → Prop} {cc : ByteArray} {maxL : Nat} {ret : Option FieldType} {hh : List (Nat × Nat × Nat × Nat)}
    (hy : plainName y.cls = true) (hw : ws = Cond.codeWith y cc maxL ret hh :: ws')
    (body : ∀ p e s m args below meth c s₁, BodyLoose p l y (headSpec ws rm) cc maxL ret e s m args below meth c s₁ → c.maxLocals = maxL → Pc args s →
      W p l e (headSpec ws rm).room s m args below meth c s.heap [] 0 0 (vx_MQ below Qc XC args s mc ms free) (entryFrame m args maxL)) : vx_Met l y ws rm Pc Qc XC mc ms free := by
  refine MetFree.of_bodyS (code := cc) (maxLocals := maxL) (ret := ret) hy ?_ ?_
  · intro args s m h hn
    obtain ⟨m9, meth, c, hn9, h1, h2, h3, h4, -, h5, h6, -⟩ := Cond.codeWith_spec (atoms_spec (ws := ws) h _ (by rw [hw]; exact List.mem_cons_self))
    cases hn.symm.trans hn9
    exact ⟨meth, c, h1, h2, h3, h4, h5, h6⟩
  · intro p e s m args below meth c s₁ B hml hP _
    have hh0 : s₁.heap = s.heap := by rw [B.state]; rfl
    obtain ⟨t, a1, o, b1, b2, b3⟩ := body p e s m args below meth c s₁ B hml hP s₁ hh0 (Stand.of_body B)
    exact ⟨t, o, a1, b1, b2, b3⟩
/-! ===== END ===== -/
end
section
/-! ===== BEGIN printed: names, fields, word lists, decode rows ===== -/
def RX0 : String := "GroupDesk$Places"
def TX0 : u_T := fun k => match k with
  | 0 => ("GroupDesk$Places", "rows", "LGroupDesk$Rows;", true)
  | 1 => ("GroupDesk$Places", "kinds", "[I", true)
  | 2 => ("GroupDesk$Places", "values", "[I", true)
  | 3 => ("GroupDesk$Places", "savedPlaces", "[I", true)
  | 4 => ("GroupDesk$Places", "savedGroups", "[I", true)
  | 5 => ("GroupDesk$Places", "savedKinds", "[I", true)
  | 6 => ("GroupDesk$Places", "savedValues", "[I", true)
  | 7 => ("GroupDesk$Places", "savedCount", "I", false)
  | _ => ("GroupDesk$Places", "openGroups", "I", false)
def tyX0 : Nat → FieldType := fun k => match k with
  | 0 => .object "GroupDesk$Rows"
  | 1 => .array .int
  | 2 => .array .int
  | 3 => .array .int
  | 4 => .array .int
  | 5 => .array .int
  | 6 => .array .int
  | 7 => .int
  | _ => .int
abbrev wsX00 : List Cond := u_ws RX0 TX0 9
theorem nmX0 : ∀ a, a < 9 → ∀ b, b < 9 → a ≠ b → (TX0 a).2.1 ≠ (TX0 b).2.1 := by decide +kernel
theorem tyX0_ok : ∀ k, k < 9 → parseFieldDescriptor (TX0 k).2.2.1 = some (tyX0 k) := by decide +kernel
abbrev cX0_init : ByteArray := prog_2_method_1_code
def yX0_init : MethodName := ⟨RX0, "<init>", "(LGroupDesk$Rows;)V"⟩
abbrev cX0_depth : ByteArray := prog_2_method_2_code
def yX0_depth : MethodName := ⟨RX0, "depth", "()I"⟩
abbrev cX0_kindAt : ByteArray := prog_2_method_3_code
def yX0_kindAt : MethodName := ⟨RX0, "kindAt", "(I)I"⟩
abbrev cX0_valueAt : ByteArray := prog_2_method_4_code
def yX0_valueAt : MethodName := ⟨RX0, "valueAt", "(I)I"⟩
abbrev cX0_enter : ByteArray := prog_2_method_5_code
def yX0_enter : MethodName := ⟨RX0, "enter", "()Z"⟩
abbrev cX0_leave : ByteArray := prog_2_method_6_code
def yX0_leave : MethodName := ⟨RX0, "leave", "()Z"⟩
abbrev cX0_assign : ByteArray := prog_2_method_7_code
def yX0_assign : MethodName := ⟨RX0, "assign", "(IIIZ)V"⟩
abbrev cX0_isPlace : ByteArray := prog_2_method_8_code
def yX0_isPlace : MethodName := ⟨RX0, "isPlace", "(I)Z"⟩
abbrev cX0_mustSave : ByteArray := prog_2_method_9_code
def yX0_mustSave : MethodName := ⟨RX0, "mustSave", "(I)Z"⟩
abbrev cX0_save : ByteArray := prog_2_method_10_code
def yX0_save : MethodName := ⟨RX0, "save", "(I)V"⟩
abbrev cX0_putBack : ByteArray := prog_2_method_11_code
def yX0_putBack : MethodName := ⟨RX0, "putBack", "(I)V"⟩
abbrev cX0_forgetSaved : ByteArray := prog_2_method_12_code
def yX0_forgetSaved : MethodName := ⟨RX0, "forgetSaved", "(I)V"⟩
abbrev cX0_moveSaved : ByteArray := prog_2_method_13_code
def yX0_moveSaved : MethodName := ⟨RX0, "moveSaved", "(II)V"⟩
abbrev cX0_tell : ByteArray := prog_2_method_14_code
def yX0_tell : MethodName := ⟨RX0, "tell", "(II)V"⟩
abbrev cX0_untell : ByteArray := prog_2_method_15_code
def yX0_untell : MethodName := ⟨RX0, "untell", "(II)V"⟩
def RX1 : String := "GroupDesk$Rows"
def TX1 : u_T := fun k => match k with
  | 0 => ("GroupDesk$Rows", "numbers", "[I", true)
  | 1 => ("GroupDesk$Rows", "starts", "[I", true)
  | 2 => ("GroupDesk$Rows", "lengths", "[I", true)
  | 3 => ("GroupDesk$Rows", "tellers", "[I", true)
  | 4 => ("GroupDesk$Rows", "made", "I", false)
  | 5 => ("GroupDesk$Rows", "draftStart", "I", false)
  | 6 => ("GroupDesk$Rows", "draftLength", "I", false)
  | _ => ("GroupDesk$Rows", "keptNumbers", "I", false)
def tyX1 : Nat → FieldType := fun k => match k with
  | 0 => .array .int
  | 1 => .array .int
  | 2 => .array .int
  | 3 => .array .int
  | 4 => .int
  | 5 => .int
  | 6 => .int
  | _ => .int
abbrev wsX10 : List Cond := u_ws RX1 TX1 8
theorem nmX1 : ∀ a, a < 8 → ∀ b, b < 8 → a ≠ b → (TX1 a).2.1 ≠ (TX1 b).2.1 := by decide +kernel
theorem tyX1_ok : ∀ k, k < 8 → parseFieldDescriptor (TX1 k).2.2.1 = some (tyX1 k) := by decide +kernel
abbrev cX1_init : ByteArray := prog_3_method_1_code
def yX1_init : MethodName := ⟨RX1, "<init>", "()V"⟩
abbrev cX1_join : ByteArray := prog_3_method_2_code
def yX1_join : MethodName := ⟨RX1, "join", "(I)Z"⟩
abbrev cX1_takeDraft : ByteArray := prog_3_method_3_code
def yX1_takeDraft : MethodName := ⟨RX1, "takeDraft", "()I"⟩
abbrev cX1_drafted : ByteArray := prog_3_method_4_code
def yX1_drafted : MethodName := ⟨RX1, "drafted", "()I"⟩
abbrev cX1_kept : ByteArray := prog_3_method_5_code
def yX1_kept : MethodName := ⟨RX1, "kept", "()I"⟩
abbrev cX1_lengthOf : ByteArray := prog_3_method_6_code
def yX1_lengthOf : MethodName := ⟨RX1, "lengthOf", "(I)I"⟩
abbrev cX1_has : ByteArray := prog_3_method_7_code
def yX1_has : MethodName := ⟨RX1, "has", "(II)Z"⟩
abbrev cX1_numberAt : ByteArray := prog_3_method_8_code
def yX1_numberAt : MethodName := ⟨RX1, "numberAt", "(II)I"⟩
abbrev cX1_addTeller : ByteArray := prog_3_method_9_code
def yX1_addTeller : MethodName := ⟨RX1, "addTeller", "(I)V"⟩
abbrev cX1_dropTeller : ByteArray := prog_3_method_10_code
def yX1_dropTeller : MethodName := ⟨RX1, "dropTeller", "(I)V"⟩
abbrev cX1_isRow : ByteArray := prog_3_method_11_code
def yX1_isRow : MethodName := ⟨RX1, "isRow", "(I)Z"⟩
def RX2 : String := "GroupDesk"
def TX2 : u_T := fun k => match k with
  | 0 => ("GroupDesk", "rows", "LGroupDesk$Rows;", true)
  | _ => ("GroupDesk", "places", "LGroupDesk$Places;", true)
def tyX2 : Nat → FieldType := fun k => match k with
  | 0 => .object "GroupDesk$Rows"
  | _ => .object "GroupDesk$Places"
abbrev wsX20 : List Cond := u_ws RX2 TX2 2
theorem nmX2 : ∀ a, a < 2 → ∀ b, b < 2 → a ≠ b → (TX2 a).2.1 ≠ (TX2 b).2.1 := by decide +kernel
theorem tyX2_ok : ∀ k, k < 2 → parseFieldDescriptor (TX2 k).2.2.1 = some (tyX2 k) := by decide +kernel
abbrev cX2_init : ByteArray := prog_1_method_1_code
def yX2_init : MethodName := ⟨RX2, "<init>", "()V"⟩
abbrev cX2_open : ByteArray := prog_1_method_2_code
def yX2_open : MethodName := ⟨RX2, "open", "()Z"⟩
abbrev cX2_close : ByteArray := prog_1_method_3_code
def yX2_close : MethodName := ⟨RX2, "close", "()Z"⟩
abbrev cX2_set : ByteArray := prog_1_method_4_code
def yX2_set : MethodName := ⟨RX2, "set", "(IIZ)Z"⟩
abbrev cX2_mean : ByteArray := prog_1_method_5_code
def yX2_mean : MethodName := ⟨RX2, "mean", "(IIIZ)Z"⟩
abbrev cX2_draft : ByteArray := prog_1_method_6_code
def yX2_draft : MethodName := ⟨RX2, "draft", "(I)Z"⟩
abbrev cX2_define : ByteArray := prog_1_method_7_code
def yX2_define : MethodName := ⟨RX2, "define", "(IZ)I"⟩
abbrev cX2_let : ByteArray := prog_1_method_8_code
def yX2_let : MethodName := ⟨RX2, "let", "(IIZ)Z"⟩
abbrev cX2_shape : ByteArray := prog_1_method_9_code
def yX2_shape : MethodName := ⟨RX2, "shape", "(Z)I"⟩
abbrev cX2_get : ByteArray := prog_1_method_10_code
def yX2_get : MethodName := ⟨RX2, "get", "(I)I"⟩
abbrev cX2_about : ByteArray := prog_1_method_11_code
def yX2_about : MethodName := ⟨RX2, "about", "(II)I"⟩
abbrev cX2_number : ByteArray := prog_1_method_12_code
def yX2_number : MethodName := ⟨RX2, "number", "(II)I"⟩
abbrev cX2_count : ByteArray := prog_1_method_13_code
def yX2_count : MethodName := ⟨RX2, "count", "(I)I"⟩
abbrev cX2_isCell : ByteArray := prog_1_method_14_code
def yX2_isCell : MethodName := ⟨RX2, "isCell", "(I)Z"⟩
abbrev cX2_isName : ByteArray := prog_1_method_15_code
def yX2_isName : MethodName := ⟨RX2, "isName", "(I)Z"⟩
abbrev cX2_isKindWithInt : ByteArray := prog_1_method_16_code
def yX2_isKindWithInt : MethodName := ⟨RX2, "isKindWithInt", "(I)Z"⟩
abbrev cX2_rowOf : ByteArray := prog_1_method_17_code
def yX2_rowOf : MethodName := ⟨RX2, "rowOf", "(I)I"⟩
def RX3 : String := "GroupDeskModel"
def TX3 : u_T := fun k => match k with
  | 0 => ("GroupDeskModel", "thrown", "I", false)
  | 1 => ("GroupDeskModel", "groups", "I", false)
  | 2 => ("GroupDeskModel", "count", "I", false)
  | 3 => ("GroupDeskModel", "of", "[I", true)
  | 4 => ("GroupDeskModel", "group", "[I", true)
  | 5 => ("GroupDeskModel", "kind", "[I", true)
  | 6 => ("GroupDeskModel", "value", "[I", true)
  | 7 => ("GroupDeskModel", "rows", "I", false)
  | 8 => ("GroupDeskModel", "from", "[I", true)
  | 9 => ("GroupDeskModel", "numbers", "[I", true)
  | _ => ("GroupDeskModel", "drafted", "I", false)
def tyX3 : Nat → FieldType := fun k => match k with
  | 0 => .int
  | 1 => .int
  | 2 => .int
  | 3 => .array .int
  | 4 => .array .int
  | 5 => .array .int
  | 6 => .array .int
  | 7 => .int
  | 8 => .array .int
  | 9 => .array .int
  | _ => .int
abbrev wsX30 : List Cond := u_ws RX3 TX3 11
theorem nmX3 : ∀ a, a < 11 → ∀ b, b < 11 → a ≠ b → (TX3 a).2.1 ≠ (TX3 b).2.1 := by decide +kernel
theorem tyX3_ok : ∀ k, k < 11 → parseFieldDescriptor (TX3 k).2.2.1 = some (tyX3 k) := by decide +kernel
abbrev cX3_init : ByteArray := prog_5_method_1_code
def yX3_init : MethodName := ⟨RX3, "<init>", "()V"⟩
abbrev cX3_thrown : ByteArray := prog_5_method_2_code
def yX3_thrown : MethodName := ⟨RX3, "thrown", "()I"⟩
abbrev cX3_fails : ByteArray := prog_5_method_3_code
def yX3_fails : MethodName := ⟨RX3, "fails", "()I"⟩
abbrev cX3_isCell : ByteArray := prog_5_method_4_code
def yX3_isCell : MethodName := ⟨RX3, "isCell", "(I)Z"⟩
abbrev cX3_isName : ByteArray := prog_5_method_5_code
def yX3_isName : MethodName := ⟨RX3, "isName", "(I)Z"⟩
abbrev cX3_open : ByteArray := prog_5_method_6_code
def yX3_open : MethodName := ⟨RX3, "open", "()Z"⟩
abbrev cX3_drop : ByteArray := prog_5_method_7_code
def yX3_drop : MethodName := ⟨RX3, "drop", "(II)V"⟩
abbrev cX3_close : ByteArray := prog_5_method_8_code
def yX3_close : MethodName := ⟨RX3, "close", "()Z"⟩
abbrev cX3_assign : ByteArray := prog_5_method_9_code
def yX3_assign : MethodName := ⟨RX3, "assign", "(IIIZ)V"⟩
abbrev cX3_last : ByteArray := prog_5_method_10_code
def yX3_last : MethodName := ⟨RX3, "last", "(I)I"⟩
abbrev cX3_kindOf : ByteArray := prog_5_method_11_code
def yX3_kindOf : MethodName := ⟨RX3, "kindOf", "(I)I"⟩
abbrev cX3_valueOf : ByteArray := prog_5_method_12_code
def yX3_valueOf : MethodName := ⟨RX3, "valueOf", "(I)I"⟩
abbrev cX3_size : ByteArray := prog_5_method_13_code
def yX3_size : MethodName := ⟨RX3, "size", "(I)I"⟩
abbrev cX3_set : ByteArray := prog_5_method_14_code
def yX3_set : MethodName := ⟨RX3, "set", "(IIZ)Z"⟩
abbrev cX3_mean : ByteArray := prog_5_method_15_code
def yX3_mean : MethodName := ⟨RX3, "mean", "(IIIZ)Z"⟩
abbrev cX3_draft : ByteArray := prog_5_method_16_code
def yX3_draft : MethodName := ⟨RX3, "draft", "(I)Z"⟩
abbrev cX3_taken : ByteArray := prog_5_method_17_code
def yX3_taken : MethodName := ⟨RX3, "taken", "()I"⟩
abbrev cX3_define : ByteArray := prog_5_method_18_code
def yX3_define : MethodName := ⟨RX3, "define", "(IZ)I"⟩
abbrev cX3_let : ByteArray := prog_5_method_19_code
def yX3_let : MethodName := ⟨RX3, "let", "(IIZ)Z"⟩
abbrev cX3_shape : ByteArray := prog_5_method_20_code
def yX3_shape : MethodName := ⟨RX3, "shape", "(Z)I"⟩
abbrev cX3_get : ByteArray := prog_5_method_21_code
def yX3_get : MethodName := ⟨RX3, "get", "(I)I"⟩
abbrev cX3_about : ByteArray := prog_5_method_22_code
def yX3_about : MethodName := ⟨RX3, "about", "(II)I"⟩
abbrev cX3_number : ByteArray := prog_5_method_23_code
def yX3_number : MethodName := ⟨RX3, "number", "(II)I"⟩
abbrev cX3_kept : ByteArray := prog_5_method_24_code
def yX3_kept : MethodName := ⟨RX3, "kept", "()I"⟩
abbrev cX3_count : ByteArray := prog_5_method_25_code
def yX3_count : MethodName := ⟨RX3, "count", "(I)I"⟩
def RJ0 : String := "java/lang/String"
def TJ0 : u_T := fun k => match k with
  | _ => ("", "", "", false)
def tyJ0 : Nat → FieldType := fun k => match k with
  | _ => .int
abbrev wsJ00 : List Cond := u_ws RJ0 TJ0 0
theorem nmJ0 : ∀ a, a < 0 → ∀ b, b < 0 → a ≠ b → (TJ0 a).2.1 ≠ (TJ0 b).2.1 := by decide +kernel
theorem tyJ0_ok : ∀ k, k < 0 → parseFieldDescriptor (TJ0 k).2.2.1 = some (tyJ0 k) := by decide +kernel
def RL : String := "GroupDeskLaw"
abbrev cL_define : ByteArray := method_3_code
def yL_define : MethodName := ⟨RL, "define", "(LGroupDesk;IZ[J)I"⟩
abbrev cL_get : ByteArray := method_4_code
def yL_get : MethodName := ⟨RL, "get", "(LGroupDesk;I[J)I"⟩
abbrev cL_about : ByteArray := method_5_code
def yL_about : MethodName := ⟨RL, "about", "(LGroupDesk;II[J)I"⟩
abbrev cL_number : ByteArray := method_6_code
def yL_number : MethodName := ⟨RL, "number", "(LGroupDesk;II[J)I"⟩
abbrev cL_law : ByteArray := code
def yL_law : MethodName := ⟨RL, "law", "([I)Z"⟩
def wsX0_init : List Cond := .code yX0_init cX0_init 2 none :: ([.methodLink RX0 3 objectInit, .instanceMethod objectInit, .code objectInit ⟨#[0xb1]⟩ 1 none, .arrayClass .int, .fieldLink RX0 9 "GroupDesk$Places" "kinds" "[I", .fieldLink RX0 15 "GroupDesk$Places" "values" "[I", .fieldLink RX0 18 "GroupDesk$Places" "savedPlaces" "[I", .fieldLink RX0 21 "GroupDesk$Places" "savedGroups" "[I", .fieldLink RX0 24 "GroupDesk$Places" "savedKinds" "[I", .fieldLink RX0 27 "GroupDesk$Places" "savedValues" "[I", .fieldLink RX0 30 "GroupDesk$Places" "savedCount" "I", .fieldLink RX0 34 "GroupDesk$Places" "openGroups" "I", .fieldLink RX0 37 "GroupDesk$Places" "rows" "LGroupDesk$Rows;"] ++ wsX00)
def wsX0_depth : List Cond := .code yX0_depth cX0_depth 1 (some .int) :: ([.fieldLink RX0 34 "GroupDesk$Places" "openGroups" "I"] ++ wsX00)
def wsX0_isPlace : List Cond := .code yX0_isPlace cX0_isPlace 1 (some .boolean) :: ([])
def wsX0_kindAt : List Cond := .code yX0_kindAt cX0_kindAt 2 (some .int) :: ([.fieldLink RX0 9 "GroupDesk$Places" "kinds" "[I", .methodLink RX0 41 yX0_isPlace, .static yX0_isPlace, .initialized RX0, .code yX0_isPlace cX0_isPlace 1 (some .boolean)] ++ wsX00)
def wsX0_valueAt : List Cond := .code yX0_valueAt cX0_valueAt 2 (some .int) :: ([.fieldLink RX0 15 "GroupDesk$Places" "values" "[I", .methodLink RX0 41 yX0_isPlace, .static yX0_isPlace, .initialized RX0, .code yX0_isPlace cX0_isPlace 1 (some .boolean)] ++ wsX00)
def wsX0_enter : List Cond := .code yX0_enter cX0_enter 1 (some .boolean) :: ([.fieldLink RX0 34 "GroupDesk$Places" "openGroups" "I"] ++ wsX00)
def wsX1_isRow : List Cond := .code yX1_isRow cX1_isRow 2 (some .boolean) :: ([.fieldLink RX1 24 "GroupDesk$Rows" "made" "I"] ++ wsX10)
def wsX1_dropTeller : List Cond := .code yX1_dropTeller cX1_dropTeller 2 none :: ([.fieldLink RX1 21 "GroupDesk$Rows" "tellers" "[I", .fieldLink RX1 34 "GroupDesk$Rows" "keptNumbers" "I", .fieldLink RX1 18 "GroupDesk$Rows" "lengths" "[I", .methodLink RX1 37 yX1_isRow, .instanceMethod yX1_isRow, .selects RX1 yX1_isRow yX1_isRow, .initialized RX1, .code yX1_isRow cX1_isRow 2 (some .boolean), .fieldLink RX1 24 "GroupDesk$Rows" "made" "I"] ++ wsX10)
def wsX0_untell : List Cond := .code yX0_untell cX0_untell 3 none :: ([.fieldLink RX0 37 "GroupDesk$Places" "rows" "LGroupDesk$Rows;", .methodLink RX0 73 yX1_dropTeller, .instanceMethod yX1_dropTeller, .selects RX1 yX1_dropTeller yX1_dropTeller, .initialized RX1, .code yX1_dropTeller cX1_dropTeller 2 none, .fieldLink RX1 21 "GroupDesk$Rows" "tellers" "[I", .fieldLink RX1 34 "GroupDesk$Rows" "keptNumbers" "I", .fieldLink RX1 18 "GroupDesk$Rows" "lengths" "[I", .methodLink RX1 37 yX1_isRow, .instanceMethod yX1_isRow, .selects RX1 yX1_isRow yX1_isRow, .code yX1_isRow cX1_isRow 2 (some .boolean), .fieldLink RX1 24 "GroupDesk$Rows" "made" "I"] ++ wsX00 ++ wsX10)
def wsX0_putBack : List Cond := .code yX0_putBack cX0_putBack 3 none :: ([.fieldLink RX0 18 "GroupDesk$Places" "savedPlaces" "[I", .fieldLink RX0 9 "GroupDesk$Places" "kinds" "[I", .fieldLink RX0 15 "GroupDesk$Places" "values" "[I", .fieldLink RX0 24 "GroupDesk$Places" "savedKinds" "[I", .fieldLink RX0 27 "GroupDesk$Places" "savedValues" "[I", .methodLink RX0 62 yX0_untell, .instanceMethod yX0_untell, .selects RX0 yX0_untell yX0_untell, .initialized RX0, .code yX0_untell cX0_untell 3 none, .fieldLink RX0 37 "GroupDesk$Places" "rows" "LGroupDesk$Rows;", .methodLink RX0 73 yX1_dropTeller, .instanceMethod yX1_dropTeller, .selects RX1 yX1_dropTeller yX1_dropTeller, .initialized RX1, .code yX1_dropTeller cX1_dropTeller 2 none, .fieldLink RX1 21 "GroupDesk$Rows" "tellers" "[I", .fieldLink RX1 34 "GroupDesk$Rows" "keptNumbers" "I", .fieldLink RX1 18 "GroupDesk$Rows" "lengths" "[I", .methodLink RX1 37 yX1_isRow, .instanceMethod yX1_isRow, .selects RX1 yX1_isRow yX1_isRow, .code yX1_isRow cX1_isRow 2 (some .boolean), .fieldLink RX1 24 "GroupDesk$Rows" "made" "I"] ++ wsX00 ++ wsX10)
def wsX0_leave_r1 : List Cond := [Cond.fieldLink RX0 34 "GroupDesk$Places" "openGroups" "I", Cond.fieldLink RX0 30 "GroupDesk$Places" "savedCount" "I", Cond.fieldLink RX0 21 "GroupDesk$Places" "savedGroups" "[I", Cond.methodLink RX0 45 yX0_putBack, Cond.instanceMethod yX0_putBack, Cond.selects RX0 yX0_putBack yX0_putBack, Cond.initialized RX0, Cond.code yX0_putBack cX0_putBack 3 none, Cond.fieldLink RX0 18 "GroupDesk$Places" "savedPlaces" "[I", Cond.fieldLink RX0 9 "GroupDesk$Places" "kinds" "[I", Cond.fieldLink RX0 15 "GroupDesk$Places" "values" "[I", Cond.fieldLink RX0 24 "GroupDesk$Places" "savedKinds" "[I", Cond.fieldLink RX0 27 "GroupDesk$Places" "savedValues" "[I", Cond.methodLink RX0 62 yX0_untell, Cond.instanceMethod yX0_untell, Cond.selects RX0 yX0_untell yX0_untell, Cond.code yX0_untell cX0_untell 3 none, Cond.fieldLink RX0 37 "GroupDesk$Places" "rows" "LGroupDesk$Rows;", Cond.methodLink RX0 73 yX1_dropTeller, Cond.instanceMethod yX1_dropTeller, Cond.selects RX1 yX1_dropTeller yX1_dropTeller, Cond.initialized RX1, Cond.code yX1_dropTeller cX1_dropTeller 2 none, Cond.fieldLink RX1 21 "GroupDesk$Rows" "tellers" "[I"]
def wsX0_leave_r2 : List Cond := [Cond.fieldLink RX1 34 "GroupDesk$Rows" "keptNumbers" "I", Cond.fieldLink RX1 18 "GroupDesk$Rows" "lengths" "[I", Cond.methodLink RX1 37 yX1_isRow, Cond.instanceMethod yX1_isRow, Cond.selects RX1 yX1_isRow yX1_isRow, Cond.code yX1_isRow cX1_isRow 2 (some .boolean), Cond.fieldLink RX1 24 "GroupDesk$Rows" "made" "I"]
def wsX0_leave : List Cond := .code yX0_leave cX0_leave 2 (some .boolean) :: ((wsX0_leave_r1 ++ wsX0_leave_r2) ++ wsX00 ++ wsX10)
def wsX1_addTeller : List Cond := .code yX1_addTeller cX1_addTeller 2 none :: ([.fieldLink RX1 21 "GroupDesk$Rows" "tellers" "[I", .fieldLink RX1 34 "GroupDesk$Rows" "keptNumbers" "I", .fieldLink RX1 18 "GroupDesk$Rows" "lengths" "[I", .methodLink RX1 37 yX1_isRow, .instanceMethod yX1_isRow, .selects RX1 yX1_isRow yX1_isRow, .initialized RX1, .code yX1_isRow cX1_isRow 2 (some .boolean), .fieldLink RX1 24 "GroupDesk$Rows" "made" "I"] ++ wsX10)
def wsX0_tell : List Cond := .code yX0_tell cX0_tell 3 none :: ([.fieldLink RX0 37 "GroupDesk$Places" "rows" "LGroupDesk$Rows;", .methodLink RX0 68 yX1_addTeller, .instanceMethod yX1_addTeller, .selects RX1 yX1_addTeller yX1_addTeller, .initialized RX1, .code yX1_addTeller cX1_addTeller 2 none, .fieldLink RX1 21 "GroupDesk$Rows" "tellers" "[I", .fieldLink RX1 34 "GroupDesk$Rows" "keptNumbers" "I", .fieldLink RX1 18 "GroupDesk$Rows" "lengths" "[I", .methodLink RX1 37 yX1_isRow, .instanceMethod yX1_isRow, .selects RX1 yX1_isRow yX1_isRow, .code yX1_isRow cX1_isRow 2 (some .boolean), .fieldLink RX1 24 "GroupDesk$Rows" "made" "I"] ++ wsX00 ++ wsX10)
def wsX0_moveSaved : List Cond := .code yX0_moveSaved cX0_moveSaved 3 none :: ([.fieldLink RX0 18 "GroupDesk$Places" "savedPlaces" "[I", .fieldLink RX0 21 "GroupDesk$Places" "savedGroups" "[I", .fieldLink RX0 24 "GroupDesk$Places" "savedKinds" "[I", .fieldLink RX0 27 "GroupDesk$Places" "savedValues" "[I"] ++ wsX00)
def wsX0_forgetSaved_r1 : List Cond := [Cond.fieldLink RX0 30 "GroupDesk$Places" "savedCount" "I", Cond.fieldLink RX0 18 "GroupDesk$Places" "savedPlaces" "[I", Cond.fieldLink RX0 24 "GroupDesk$Places" "savedKinds" "[I", Cond.fieldLink RX0 27 "GroupDesk$Places" "savedValues" "[I", Cond.methodLink RX0 62 yX0_untell, Cond.instanceMethod yX0_untell, Cond.selects RX0 yX0_untell yX0_untell, Cond.initialized RX0, Cond.code yX0_untell cX0_untell 3 none, Cond.fieldLink RX0 37 "GroupDesk$Places" "rows" "LGroupDesk$Rows;", Cond.methodLink RX0 73 yX1_dropTeller, Cond.instanceMethod yX1_dropTeller, Cond.selects RX1 yX1_dropTeller yX1_dropTeller, Cond.initialized RX1, Cond.code yX1_dropTeller cX1_dropTeller 2 none, Cond.fieldLink RX1 21 "GroupDesk$Rows" "tellers" "[I", Cond.fieldLink RX1 34 "GroupDesk$Rows" "keptNumbers" "I", Cond.fieldLink RX1 18 "GroupDesk$Rows" "lengths" "[I", Cond.methodLink RX1 37 yX1_isRow, Cond.instanceMethod yX1_isRow, Cond.selects RX1 yX1_isRow yX1_isRow, Cond.code yX1_isRow cX1_isRow 2 (some .boolean), Cond.fieldLink RX1 24 "GroupDesk$Rows" "made" "I", Cond.methodLink RX0 65 yX0_moveSaved]
def wsX0_forgetSaved_r2 : List Cond := [Cond.instanceMethod yX0_moveSaved, Cond.selects RX0 yX0_moveSaved yX0_moveSaved, Cond.code yX0_moveSaved cX0_moveSaved 3 none, Cond.fieldLink RX0 21 "GroupDesk$Places" "savedGroups" "[I"]
def wsX0_forgetSaved : List Cond := .code yX0_forgetSaved cX0_forgetSaved 4 none :: ((wsX0_forgetSaved_r1 ++ wsX0_forgetSaved_r2) ++ wsX00 ++ wsX10)
def wsX0_mustSave : List Cond := .code yX0_mustSave cX0_mustSave 3 (some .boolean) :: ([.fieldLink RX0 34 "GroupDesk$Places" "openGroups" "I", .fieldLink RX0 30 "GroupDesk$Places" "savedCount" "I", .fieldLink RX0 18 "GroupDesk$Places" "savedPlaces" "[I", .fieldLink RX0 21 "GroupDesk$Places" "savedGroups" "[I"] ++ wsX00)
def wsX0_save : List Cond := .code yX0_save cX0_save 2 none :: ([.fieldLink RX0 18 "GroupDesk$Places" "savedPlaces" "[I", .fieldLink RX0 30 "GroupDesk$Places" "savedCount" "I", .fieldLink RX0 21 "GroupDesk$Places" "savedGroups" "[I", .fieldLink RX0 34 "GroupDesk$Places" "openGroups" "I", .fieldLink RX0 24 "GroupDesk$Places" "savedKinds" "[I", .fieldLink RX0 9 "GroupDesk$Places" "kinds" "[I", .fieldLink RX0 27 "GroupDesk$Places" "savedValues" "[I", .fieldLink RX0 15 "GroupDesk$Places" "values" "[I"] ++ wsX00)
def wsX0_assign_r1 : List Cond := [Cond.fieldLink RX0 9 "GroupDesk$Places" "kinds" "[I", Cond.fieldLink RX0 15 "GroupDesk$Places" "values" "[I", Cond.methodLink RX0 41 yX0_isPlace, Cond.static yX0_isPlace, Cond.initialized RX0, Cond.code yX0_isPlace cX0_isPlace 1 (some .boolean), Cond.methodLink RX0 49 yX0_tell, Cond.instanceMethod yX0_tell, Cond.selects RX0 yX0_tell yX0_tell, Cond.code yX0_tell cX0_tell 3 none, Cond.fieldLink RX0 37 "GroupDesk$Places" "rows" "LGroupDesk$Rows;", Cond.methodLink RX0 68 yX1_addTeller, Cond.instanceMethod yX1_addTeller, Cond.selects RX1 yX1_addTeller yX1_addTeller, Cond.initialized RX1, Cond.code yX1_addTeller cX1_addTeller 2 none, Cond.fieldLink RX1 21 "GroupDesk$Rows" "tellers" "[I", Cond.fieldLink RX1 34 "GroupDesk$Rows" "keptNumbers" "I", Cond.fieldLink RX1 18 "GroupDesk$Rows" "lengths" "[I", Cond.methodLink RX1 37 yX1_isRow, Cond.instanceMethod yX1_isRow, Cond.selects RX1 yX1_isRow yX1_isRow, Cond.code yX1_isRow cX1_isRow 2 (some .boolean), Cond.fieldLink RX1 24 "GroupDesk$Rows" "made" "I"]
def wsX0_assign_r2 : List Cond := [Cond.methodLink RX0 53 yX0_forgetSaved, Cond.instanceMethod yX0_forgetSaved, Cond.selects RX0 yX0_forgetSaved yX0_forgetSaved, Cond.code yX0_forgetSaved cX0_forgetSaved 4 none, Cond.fieldLink RX0 30 "GroupDesk$Places" "savedCount" "I", Cond.fieldLink RX0 18 "GroupDesk$Places" "savedPlaces" "[I", Cond.fieldLink RX0 24 "GroupDesk$Places" "savedKinds" "[I", Cond.fieldLink RX0 27 "GroupDesk$Places" "savedValues" "[I", Cond.methodLink RX0 62 yX0_untell, Cond.instanceMethod yX0_untell, Cond.selects RX0 yX0_untell yX0_untell, Cond.code yX0_untell cX0_untell 3 none, Cond.methodLink RX0 73 yX1_dropTeller, Cond.instanceMethod yX1_dropTeller, Cond.selects RX1 yX1_dropTeller yX1_dropTeller, Cond.code yX1_dropTeller cX1_dropTeller 2 none, Cond.methodLink RX0 65 yX0_moveSaved, Cond.instanceMethod yX0_moveSaved, Cond.selects RX0 yX0_moveSaved yX0_moveSaved, Cond.code yX0_moveSaved cX0_moveSaved 3 none, Cond.fieldLink RX0 21 "GroupDesk$Places" "savedGroups" "[I", Cond.methodLink RX0 56 yX0_mustSave, Cond.instanceMethod yX0_mustSave, Cond.selects RX0 yX0_mustSave yX0_mustSave]
def wsX0_assign_r3 : List Cond := [Cond.code yX0_mustSave cX0_mustSave 3 (some .boolean), Cond.fieldLink RX0 34 "GroupDesk$Places" "openGroups" "I", Cond.methodLink RX0 59 yX0_save, Cond.instanceMethod yX0_save, Cond.selects RX0 yX0_save yX0_save, Cond.code yX0_save cX0_save 2 none]
def wsX0_assign : List Cond := .code yX0_assign cX0_assign 5 none :: ((wsX0_assign_r1 ++ (wsX0_assign_r2 ++ wsX0_assign_r3)) ++ wsX00 ++ wsX10)
def wsX1_init : List Cond := .code yX1_init cX1_init 1 none :: ([.methodLink RX1 3 objectInit, .instanceMethod objectInit, .code objectInit ⟨#[0xb1]⟩ 1 none, .arrayClass .int, .fieldLink RX1 9 "GroupDesk$Rows" "numbers" "[I", .fieldLink RX1 15 "GroupDesk$Rows" "starts" "[I", .fieldLink RX1 18 "GroupDesk$Rows" "lengths" "[I", .fieldLink RX1 21 "GroupDesk$Rows" "tellers" "[I", .fieldLink RX1 24 "GroupDesk$Rows" "made" "I", .fieldLink RX1 28 "GroupDesk$Rows" "draftStart" "I", .fieldLink RX1 31 "GroupDesk$Rows" "draftLength" "I", .fieldLink RX1 34 "GroupDesk$Rows" "keptNumbers" "I"] ++ wsX10)
def wsX1_join : List Cond := .code yX1_join cX1_join 3 (some .boolean) :: ([.fieldLink RX1 28 "GroupDesk$Rows" "draftStart" "I", .fieldLink RX1 31 "GroupDesk$Rows" "draftLength" "I", .fieldLink RX1 9 "GroupDesk$Rows" "numbers" "[I"] ++ wsX10)
def wsX1_takeDraft : List Cond := .code yX1_takeDraft cX1_takeDraft 2 (some .int) :: ([.fieldLink RX1 31 "GroupDesk$Rows" "draftLength" "I", .fieldLink RX1 24 "GroupDesk$Rows" "made" "I", .fieldLink RX1 15 "GroupDesk$Rows" "starts" "[I", .fieldLink RX1 28 "GroupDesk$Rows" "draftStart" "I", .fieldLink RX1 18 "GroupDesk$Rows" "lengths" "[I"] ++ wsX10)
def wsX1_drafted : List Cond := .code yX1_drafted cX1_drafted 1 (some .int) :: ([.fieldLink RX1 31 "GroupDesk$Rows" "draftLength" "I"] ++ wsX10)
def wsX1_kept : List Cond := .code yX1_kept cX1_kept 1 (some .int) :: ([.fieldLink RX1 34 "GroupDesk$Rows" "keptNumbers" "I"] ++ wsX10)
def wsX1_lengthOf : List Cond := .code yX1_lengthOf cX1_lengthOf 2 (some .int) :: ([.fieldLink RX1 18 "GroupDesk$Rows" "lengths" "[I", .methodLink RX1 37 yX1_isRow, .instanceMethod yX1_isRow, .selects RX1 yX1_isRow yX1_isRow, .initialized RX1, .code yX1_isRow cX1_isRow 2 (some .boolean), .fieldLink RX1 24 "GroupDesk$Rows" "made" "I"] ++ wsX10)
def wsX1_has : List Cond := .code yX1_has cX1_has 3 (some .boolean) :: ([.methodLink RX1 41 yX1_lengthOf, .instanceMethod yX1_lengthOf, .selects RX1 yX1_lengthOf yX1_lengthOf, .initialized RX1, .code yX1_lengthOf cX1_lengthOf 2 (some .int), .fieldLink RX1 18 "GroupDesk$Rows" "lengths" "[I", .methodLink RX1 37 yX1_isRow, .instanceMethod yX1_isRow, .selects RX1 yX1_isRow yX1_isRow, .code yX1_isRow cX1_isRow 2 (some .boolean), .fieldLink RX1 24 "GroupDesk$Rows" "made" "I"] ++ wsX10)
def wsX1_numberAt : List Cond := .code yX1_numberAt cX1_numberAt 3 (some .int) :: ([.fieldLink RX1 9 "GroupDesk$Rows" "numbers" "[I", .fieldLink RX1 15 "GroupDesk$Rows" "starts" "[I", .methodLink RX1 45 yX1_has, .instanceMethod yX1_has, .selects RX1 yX1_has yX1_has, .initialized RX1, .code yX1_has cX1_has 3 (some .boolean), .methodLink RX1 41 yX1_lengthOf, .instanceMethod yX1_lengthOf, .selects RX1 yX1_lengthOf yX1_lengthOf, .code yX1_lengthOf cX1_lengthOf 2 (some .int), .fieldLink RX1 18 "GroupDesk$Rows" "lengths" "[I", .methodLink RX1 37 yX1_isRow, .instanceMethod yX1_isRow, .selects RX1 yX1_isRow yX1_isRow, .code yX1_isRow cX1_isRow 2 (some .boolean), .fieldLink RX1 24 "GroupDesk$Rows" "made" "I"] ++ wsX10)
def wsX2_init_r1 : List Cond := [Cond.methodLink RX2 3 objectInit, Cond.instanceMethod objectInit, Cond.code objectInit ⟨#[0xb1]⟩ 1 none, Cond.classLink RX2 9 RX1, Cond.instantiable RX1 8, Cond.initialized RX1, Cond.fieldLink RX2 12 "GroupDesk" "rows" "LGroupDesk$Rows;", Cond.classLink RX2 16 RX0, Cond.instantiable RX0 9, Cond.initialized RX0, Cond.fieldLink RX2 21 "GroupDesk" "places" "LGroupDesk$Places;", Cond.instanceMethod yX1_init, Cond.code yX1_init cX1_init 1 none, Cond.methodLink RX1 3 objectInit, Cond.arrayClass .int, Cond.fieldLink RX1 9 "GroupDesk$Rows" "numbers" "[I", Cond.fieldLink RX1 15 "GroupDesk$Rows" "starts" "[I", Cond.fieldLink RX1 18 "GroupDesk$Rows" "lengths" "[I", Cond.fieldLink RX1 21 "GroupDesk$Rows" "tellers" "[I", Cond.fieldLink RX1 24 "GroupDesk$Rows" "made" "I", Cond.fieldLink RX1 28 "GroupDesk$Rows" "draftStart" "I", Cond.fieldLink RX1 31 "GroupDesk$Rows" "draftLength" "I", Cond.fieldLink RX1 34 "GroupDesk$Rows" "keptNumbers" "I", Cond.methodLink RX2 18 yX0_init]
def wsX2_init_r2 : List Cond := [Cond.instanceMethod yX0_init, Cond.code yX0_init cX0_init 2 none, Cond.methodLink RX0 3 objectInit, Cond.fieldLink RX0 9 "GroupDesk$Places" "kinds" "[I", Cond.fieldLink RX0 15 "GroupDesk$Places" "values" "[I", Cond.fieldLink RX0 18 "GroupDesk$Places" "savedPlaces" "[I", Cond.fieldLink RX0 21 "GroupDesk$Places" "savedGroups" "[I", Cond.fieldLink RX0 24 "GroupDesk$Places" "savedKinds" "[I", Cond.fieldLink RX0 27 "GroupDesk$Places" "savedValues" "[I", Cond.fieldLink RX0 30 "GroupDesk$Places" "savedCount" "I", Cond.fieldLink RX0 34 "GroupDesk$Places" "openGroups" "I", Cond.fieldLink RX0 37 "GroupDesk$Places" "rows" "LGroupDesk$Rows;"]
def wsX2_init : List Cond := .code yX2_init cX2_init 1 none :: ((wsX2_init_r1 ++ wsX2_init_r2) ++ wsX10 ++ wsX20 ++ wsX00)
def wsX2_open : List Cond := .code yX2_open cX2_open 1 (some .boolean) :: ([.fieldLink RX2 21 "GroupDesk" "places" "LGroupDesk$Places;", .methodLink RX2 25 yX0_enter, .instanceMethod yX0_enter, .selects RX0 yX0_enter yX0_enter, .initialized RX0, .code yX0_enter cX0_enter 1 (some .boolean), .fieldLink RX0 34 "GroupDesk$Places" "openGroups" "I"] ++ wsX20 ++ wsX00)
def wsX2_close_r1 : List Cond := [Cond.fieldLink RX2 21 "GroupDesk" "places" "LGroupDesk$Places;", Cond.methodLink RX2 29 yX0_leave, Cond.instanceMethod yX0_leave, Cond.selects RX0 yX0_leave yX0_leave, Cond.initialized RX0, Cond.code yX0_leave cX0_leave 2 (some .boolean), Cond.fieldLink RX0 34 "GroupDesk$Places" "openGroups" "I", Cond.fieldLink RX0 30 "GroupDesk$Places" "savedCount" "I", Cond.fieldLink RX0 21 "GroupDesk$Places" "savedGroups" "[I", Cond.methodLink RX0 45 yX0_putBack, Cond.instanceMethod yX0_putBack, Cond.selects RX0 yX0_putBack yX0_putBack, Cond.code yX0_putBack cX0_putBack 3 none, Cond.fieldLink RX0 18 "GroupDesk$Places" "savedPlaces" "[I", Cond.fieldLink RX0 9 "GroupDesk$Places" "kinds" "[I", Cond.fieldLink RX0 15 "GroupDesk$Places" "values" "[I", Cond.fieldLink RX0 24 "GroupDesk$Places" "savedKinds" "[I", Cond.fieldLink RX0 27 "GroupDesk$Places" "savedValues" "[I", Cond.methodLink RX0 62 yX0_untell, Cond.instanceMethod yX0_untell, Cond.selects RX0 yX0_untell yX0_untell, Cond.code yX0_untell cX0_untell 3 none, Cond.fieldLink RX0 37 "GroupDesk$Places" "rows" "LGroupDesk$Rows;", Cond.methodLink RX0 73 yX1_dropTeller]
def wsX2_close_r2 : List Cond := [Cond.instanceMethod yX1_dropTeller, Cond.selects RX1 yX1_dropTeller yX1_dropTeller, Cond.initialized RX1, Cond.code yX1_dropTeller cX1_dropTeller 2 none, Cond.fieldLink RX1 21 "GroupDesk$Rows" "tellers" "[I", Cond.fieldLink RX1 34 "GroupDesk$Rows" "keptNumbers" "I", Cond.fieldLink RX1 18 "GroupDesk$Rows" "lengths" "[I", Cond.methodLink RX1 37 yX1_isRow, Cond.instanceMethod yX1_isRow, Cond.selects RX1 yX1_isRow yX1_isRow, Cond.code yX1_isRow cX1_isRow 2 (some .boolean), Cond.fieldLink RX1 24 "GroupDesk$Rows" "made" "I"]
def wsX2_close : List Cond := .code yX2_close cX2_close 1 (some .boolean) :: ((wsX2_close_r1 ++ wsX2_close_r2) ++ wsX20 ++ wsX00 ++ wsX10)
def wsX2_isCell : List Cond := .code yX2_isCell cX2_isCell 1 (some .boolean) :: ([])
def wsX2_set_r1 : List Cond := [Cond.fieldLink RX2 21 "GroupDesk" "places" "LGroupDesk$Places;", Cond.methodLink RX2 32 yX2_isCell, Cond.static yX2_isCell, Cond.initialized RX2, Cond.code yX2_isCell cX2_isCell 1 (some .boolean), Cond.methodLink RX2 36 yX0_assign, Cond.instanceMethod yX0_assign, Cond.selects RX0 yX0_assign yX0_assign, Cond.initialized RX0, Cond.code yX0_assign cX0_assign 5 none, Cond.fieldLink RX0 9 "GroupDesk$Places" "kinds" "[I", Cond.fieldLink RX0 15 "GroupDesk$Places" "values" "[I", Cond.methodLink RX0 41 yX0_isPlace, Cond.static yX0_isPlace, Cond.code yX0_isPlace cX0_isPlace 1 (some .boolean), Cond.methodLink RX0 49 yX0_tell, Cond.instanceMethod yX0_tell, Cond.selects RX0 yX0_tell yX0_tell, Cond.code yX0_tell cX0_tell 3 none, Cond.fieldLink RX0 37 "GroupDesk$Places" "rows" "LGroupDesk$Rows;", Cond.methodLink RX0 68 yX1_addTeller, Cond.instanceMethod yX1_addTeller, Cond.selects RX1 yX1_addTeller yX1_addTeller, Cond.initialized RX1]
def wsX2_set_r2 : List Cond := [Cond.code yX1_addTeller cX1_addTeller 2 none, Cond.fieldLink RX1 21 "GroupDesk$Rows" "tellers" "[I", Cond.fieldLink RX1 34 "GroupDesk$Rows" "keptNumbers" "I", Cond.fieldLink RX1 18 "GroupDesk$Rows" "lengths" "[I", Cond.methodLink RX1 37 yX1_isRow, Cond.instanceMethod yX1_isRow, Cond.selects RX1 yX1_isRow yX1_isRow, Cond.code yX1_isRow cX1_isRow 2 (some .boolean), Cond.fieldLink RX1 24 "GroupDesk$Rows" "made" "I", Cond.methodLink RX0 53 yX0_forgetSaved, Cond.instanceMethod yX0_forgetSaved, Cond.selects RX0 yX0_forgetSaved yX0_forgetSaved, Cond.code yX0_forgetSaved cX0_forgetSaved 4 none, Cond.fieldLink RX0 30 "GroupDesk$Places" "savedCount" "I", Cond.fieldLink RX0 18 "GroupDesk$Places" "savedPlaces" "[I", Cond.fieldLink RX0 24 "GroupDesk$Places" "savedKinds" "[I", Cond.fieldLink RX0 27 "GroupDesk$Places" "savedValues" "[I", Cond.methodLink RX0 62 yX0_untell, Cond.instanceMethod yX0_untell, Cond.selects RX0 yX0_untell yX0_untell, Cond.code yX0_untell cX0_untell 3 none, Cond.methodLink RX0 73 yX1_dropTeller, Cond.instanceMethod yX1_dropTeller, Cond.selects RX1 yX1_dropTeller yX1_dropTeller]
def wsX2_set_r3 : List Cond := [Cond.code yX1_dropTeller cX1_dropTeller 2 none, Cond.methodLink RX0 65 yX0_moveSaved, Cond.instanceMethod yX0_moveSaved, Cond.selects RX0 yX0_moveSaved yX0_moveSaved, Cond.code yX0_moveSaved cX0_moveSaved 3 none, Cond.fieldLink RX0 21 "GroupDesk$Places" "savedGroups" "[I", Cond.methodLink RX0 56 yX0_mustSave, Cond.instanceMethod yX0_mustSave, Cond.selects RX0 yX0_mustSave yX0_mustSave, Cond.code yX0_mustSave cX0_mustSave 3 (some .boolean), Cond.fieldLink RX0 34 "GroupDesk$Places" "openGroups" "I", Cond.methodLink RX0 59 yX0_save, Cond.instanceMethod yX0_save, Cond.selects RX0 yX0_save yX0_save, Cond.code yX0_save cX0_save 2 none]
def wsX2_set : List Cond := .code yX2_set cX2_set 4 (some .boolean) :: ((wsX2_set_r1 ++ (wsX2_set_r2 ++ wsX2_set_r3)) ++ wsX20 ++ wsX00 ++ wsX10)
def wsX2_isName : List Cond := .code yX2_isName cX2_isName 1 (some .boolean) :: ([])
def wsX2_isKindWithInt : List Cond := .code yX2_isKindWithInt cX2_isKindWithInt 1 (some .boolean) :: ([])
def wsX2_mean_r1 : List Cond := [Cond.fieldLink RX2 21 "GroupDesk" "places" "LGroupDesk$Places;", Cond.methodLink RX2 40 yX2_isName, Cond.static yX2_isName, Cond.initialized RX2, Cond.code yX2_isName cX2_isName 1 (some .boolean), Cond.methodLink RX2 43 yX2_isKindWithInt, Cond.static yX2_isKindWithInt, Cond.code yX2_isKindWithInt cX2_isKindWithInt 1 (some .boolean), Cond.methodLink RX2 36 yX0_assign, Cond.instanceMethod yX0_assign, Cond.selects RX0 yX0_assign yX0_assign, Cond.initialized RX0, Cond.code yX0_assign cX0_assign 5 none, Cond.fieldLink RX0 9 "GroupDesk$Places" "kinds" "[I", Cond.fieldLink RX0 15 "GroupDesk$Places" "values" "[I", Cond.methodLink RX0 41 yX0_isPlace, Cond.static yX0_isPlace, Cond.code yX0_isPlace cX0_isPlace 1 (some .boolean), Cond.methodLink RX0 49 yX0_tell, Cond.instanceMethod yX0_tell, Cond.selects RX0 yX0_tell yX0_tell, Cond.code yX0_tell cX0_tell 3 none, Cond.fieldLink RX0 37 "GroupDesk$Places" "rows" "LGroupDesk$Rows;", Cond.methodLink RX0 68 yX1_addTeller]
def wsX2_mean_r2 : List Cond := [Cond.instanceMethod yX1_addTeller, Cond.selects RX1 yX1_addTeller yX1_addTeller, Cond.initialized RX1, Cond.code yX1_addTeller cX1_addTeller 2 none, Cond.fieldLink RX1 21 "GroupDesk$Rows" "tellers" "[I", Cond.fieldLink RX1 34 "GroupDesk$Rows" "keptNumbers" "I", Cond.fieldLink RX1 18 "GroupDesk$Rows" "lengths" "[I", Cond.methodLink RX1 37 yX1_isRow, Cond.instanceMethod yX1_isRow, Cond.selects RX1 yX1_isRow yX1_isRow, Cond.code yX1_isRow cX1_isRow 2 (some .boolean), Cond.fieldLink RX1 24 "GroupDesk$Rows" "made" "I", Cond.methodLink RX0 53 yX0_forgetSaved, Cond.instanceMethod yX0_forgetSaved, Cond.selects RX0 yX0_forgetSaved yX0_forgetSaved, Cond.code yX0_forgetSaved cX0_forgetSaved 4 none, Cond.fieldLink RX0 30 "GroupDesk$Places" "savedCount" "I", Cond.fieldLink RX0 18 "GroupDesk$Places" "savedPlaces" "[I", Cond.fieldLink RX0 24 "GroupDesk$Places" "savedKinds" "[I", Cond.fieldLink RX0 27 "GroupDesk$Places" "savedValues" "[I", Cond.methodLink RX0 62 yX0_untell, Cond.instanceMethod yX0_untell, Cond.selects RX0 yX0_untell yX0_untell, Cond.code yX0_untell cX0_untell 3 none]
def wsX2_mean_r3 : List Cond := [Cond.methodLink RX0 73 yX1_dropTeller, Cond.instanceMethod yX1_dropTeller, Cond.selects RX1 yX1_dropTeller yX1_dropTeller, Cond.code yX1_dropTeller cX1_dropTeller 2 none, Cond.methodLink RX0 65 yX0_moveSaved, Cond.instanceMethod yX0_moveSaved, Cond.selects RX0 yX0_moveSaved yX0_moveSaved, Cond.code yX0_moveSaved cX0_moveSaved 3 none, Cond.fieldLink RX0 21 "GroupDesk$Places" "savedGroups" "[I", Cond.methodLink RX0 56 yX0_mustSave, Cond.instanceMethod yX0_mustSave, Cond.selects RX0 yX0_mustSave yX0_mustSave, Cond.code yX0_mustSave cX0_mustSave 3 (some .boolean), Cond.fieldLink RX0 34 "GroupDesk$Places" "openGroups" "I", Cond.methodLink RX0 59 yX0_save, Cond.instanceMethod yX0_save, Cond.selects RX0 yX0_save yX0_save, Cond.code yX0_save cX0_save 2 none]
def wsX2_mean : List Cond := .code yX2_mean cX2_mean 5 (some .boolean) :: ((wsX2_mean_r1 ++ (wsX2_mean_r2 ++ wsX2_mean_r3)) ++ wsX20 ++ wsX00 ++ wsX10)
def wsX2_draft : List Cond := .code yX2_draft cX2_draft 2 (some .boolean) :: ([.fieldLink RX2 12 "GroupDesk" "rows" "LGroupDesk$Rows;", .methodLink RX2 46 yX1_join, .instanceMethod yX1_join, .selects RX1 yX1_join yX1_join, .initialized RX1, .code yX1_join cX1_join 3 (some .boolean), .fieldLink RX1 28 "GroupDesk$Rows" "draftStart" "I", .fieldLink RX1 31 "GroupDesk$Rows" "draftLength" "I", .fieldLink RX1 9 "GroupDesk$Rows" "numbers" "[I"] ++ wsX20 ++ wsX10)
def wsX2_define_r1 : List Cond := [Cond.classLink RX2 49 "java/lang/IndexOutOfBoundsException", Cond.initialized "java/lang/IndexOutOfBoundsException", Cond.fieldLink RX2 12 "GroupDesk" "rows" "LGroupDesk$Rows;", Cond.fieldLink RX2 21 "GroupDesk" "places" "LGroupDesk$Places;", Cond.methodLink RX2 40 yX2_isName, Cond.static yX2_isName, Cond.initialized RX2, Cond.code yX2_isName cX2_isName 1 (some .boolean), Cond.methodLink RX2 56 yX1_takeDraft, Cond.instanceMethod yX1_takeDraft, Cond.selects RX1 yX1_takeDraft yX1_takeDraft, Cond.initialized RX1, Cond.code yX1_takeDraft cX1_takeDraft 2 (some .int), Cond.fieldLink RX1 31 "GroupDesk$Rows" "draftLength" "I", Cond.fieldLink RX1 24 "GroupDesk$Rows" "made" "I", Cond.fieldLink RX1 15 "GroupDesk$Rows" "starts" "[I", Cond.fieldLink RX1 28 "GroupDesk$Rows" "draftStart" "I", Cond.fieldLink RX1 18 "GroupDesk$Rows" "lengths" "[I", Cond.methodLink RX2 36 yX0_assign, Cond.instanceMethod yX0_assign, Cond.selects RX0 yX0_assign yX0_assign, Cond.initialized RX0, Cond.code yX0_assign cX0_assign 5 none, Cond.fieldLink RX0 9 "GroupDesk$Places" "kinds" "[I"]
def wsX2_define_r2 : List Cond := [Cond.fieldLink RX0 15 "GroupDesk$Places" "values" "[I", Cond.methodLink RX0 41 yX0_isPlace, Cond.static yX0_isPlace, Cond.code yX0_isPlace cX0_isPlace 1 (some .boolean), Cond.methodLink RX0 49 yX0_tell, Cond.instanceMethod yX0_tell, Cond.selects RX0 yX0_tell yX0_tell, Cond.code yX0_tell cX0_tell 3 none, Cond.fieldLink RX0 37 "GroupDesk$Places" "rows" "LGroupDesk$Rows;", Cond.methodLink RX0 68 yX1_addTeller, Cond.instanceMethod yX1_addTeller, Cond.selects RX1 yX1_addTeller yX1_addTeller, Cond.code yX1_addTeller cX1_addTeller 2 none, Cond.fieldLink RX1 21 "GroupDesk$Rows" "tellers" "[I", Cond.fieldLink RX1 34 "GroupDesk$Rows" "keptNumbers" "I", Cond.methodLink RX1 37 yX1_isRow, Cond.instanceMethod yX1_isRow, Cond.selects RX1 yX1_isRow yX1_isRow, Cond.code yX1_isRow cX1_isRow 2 (some .boolean), Cond.methodLink RX0 53 yX0_forgetSaved, Cond.instanceMethod yX0_forgetSaved, Cond.selects RX0 yX0_forgetSaved yX0_forgetSaved, Cond.code yX0_forgetSaved cX0_forgetSaved 4 none, Cond.fieldLink RX0 30 "GroupDesk$Places" "savedCount" "I"]
def wsX2_define_r3 : List Cond := [Cond.fieldLink RX0 18 "GroupDesk$Places" "savedPlaces" "[I", Cond.fieldLink RX0 24 "GroupDesk$Places" "savedKinds" "[I", Cond.fieldLink RX0 27 "GroupDesk$Places" "savedValues" "[I", Cond.methodLink RX0 62 yX0_untell, Cond.instanceMethod yX0_untell, Cond.selects RX0 yX0_untell yX0_untell, Cond.code yX0_untell cX0_untell 3 none, Cond.methodLink RX0 73 yX1_dropTeller, Cond.instanceMethod yX1_dropTeller, Cond.selects RX1 yX1_dropTeller yX1_dropTeller, Cond.code yX1_dropTeller cX1_dropTeller 2 none, Cond.methodLink RX0 65 yX0_moveSaved, Cond.instanceMethod yX0_moveSaved, Cond.selects RX0 yX0_moveSaved yX0_moveSaved, Cond.code yX0_moveSaved cX0_moveSaved 3 none, Cond.fieldLink RX0 21 "GroupDesk$Places" "savedGroups" "[I", Cond.methodLink RX0 56 yX0_mustSave, Cond.instanceMethod yX0_mustSave, Cond.selects RX0 yX0_mustSave yX0_mustSave, Cond.code yX0_mustSave cX0_mustSave 3 (some .boolean), Cond.fieldLink RX0 34 "GroupDesk$Places" "openGroups" "I", Cond.methodLink RX0 59 yX0_save, Cond.instanceMethod yX0_save, Cond.selects RX0 yX0_save yX0_save]
def wsX2_define_r4 : List Cond := [Cond.code yX0_save cX0_save 2 none, Cond.methodLink RX2 60 yX1_lengthOf, Cond.instanceMethod yX1_lengthOf, Cond.selects RX1 yX1_lengthOf yX1_lengthOf, Cond.code yX1_lengthOf cX1_lengthOf 2 (some .int)]
def wsX2_define : List Cond := .code yX2_define cX2_define 4 (some .int) :: ((wsX2_define_r1 ++ (wsX2_define_r2 ++ (wsX2_define_r3 ++ wsX2_define_r4))) ++ wsX20 ++ wsX10 ++ wsX00 ++ (vx_atS RX2 53 "java/lang/IndexOutOfBoundsException" ["java/lang/RuntimeException", "java/lang/Exception"]).filter goodWord)
def wsX2_let_r1 : List Cond := [Cond.fieldLink RX2 21 "GroupDesk" "places" "LGroupDesk$Places;", Cond.methodLink RX2 40 yX2_isName, Cond.static yX2_isName, Cond.initialized RX2, Cond.code yX2_isName cX2_isName 1 (some .boolean), Cond.methodLink RX2 64 yX0_kindAt, Cond.instanceMethod yX0_kindAt, Cond.selects RX0 yX0_kindAt yX0_kindAt, Cond.initialized RX0, Cond.code yX0_kindAt cX0_kindAt 2 (some .int), Cond.fieldLink RX0 9 "GroupDesk$Places" "kinds" "[I", Cond.methodLink RX0 41 yX0_isPlace, Cond.static yX0_isPlace, Cond.code yX0_isPlace cX0_isPlace 1 (some .boolean), Cond.methodLink RX2 67 yX0_valueAt, Cond.instanceMethod yX0_valueAt, Cond.selects RX0 yX0_valueAt yX0_valueAt, Cond.code yX0_valueAt cX0_valueAt 2 (some .int), Cond.fieldLink RX0 15 "GroupDesk$Places" "values" "[I", Cond.methodLink RX2 36 yX0_assign, Cond.instanceMethod yX0_assign, Cond.selects RX0 yX0_assign yX0_assign, Cond.code yX0_assign cX0_assign 5 none, Cond.methodLink RX0 49 yX0_tell]
def wsX2_let_r2 : List Cond := [Cond.instanceMethod yX0_tell, Cond.selects RX0 yX0_tell yX0_tell, Cond.code yX0_tell cX0_tell 3 none, Cond.fieldLink RX0 37 "GroupDesk$Places" "rows" "LGroupDesk$Rows;", Cond.methodLink RX0 68 yX1_addTeller, Cond.instanceMethod yX1_addTeller, Cond.selects RX1 yX1_addTeller yX1_addTeller, Cond.initialized RX1, Cond.code yX1_addTeller cX1_addTeller 2 none, Cond.fieldLink RX1 21 "GroupDesk$Rows" "tellers" "[I", Cond.fieldLink RX1 34 "GroupDesk$Rows" "keptNumbers" "I", Cond.fieldLink RX1 18 "GroupDesk$Rows" "lengths" "[I", Cond.methodLink RX1 37 yX1_isRow, Cond.instanceMethod yX1_isRow, Cond.selects RX1 yX1_isRow yX1_isRow, Cond.code yX1_isRow cX1_isRow 2 (some .boolean), Cond.fieldLink RX1 24 "GroupDesk$Rows" "made" "I", Cond.methodLink RX0 53 yX0_forgetSaved, Cond.instanceMethod yX0_forgetSaved, Cond.selects RX0 yX0_forgetSaved yX0_forgetSaved, Cond.code yX0_forgetSaved cX0_forgetSaved 4 none, Cond.fieldLink RX0 30 "GroupDesk$Places" "savedCount" "I", Cond.fieldLink RX0 18 "GroupDesk$Places" "savedPlaces" "[I", Cond.fieldLink RX0 24 "GroupDesk$Places" "savedKinds" "[I"]
def wsX2_let_r3 : List Cond := [Cond.fieldLink RX0 27 "GroupDesk$Places" "savedValues" "[I", Cond.methodLink RX0 62 yX0_untell, Cond.instanceMethod yX0_untell, Cond.selects RX0 yX0_untell yX0_untell, Cond.code yX0_untell cX0_untell 3 none, Cond.methodLink RX0 73 yX1_dropTeller, Cond.instanceMethod yX1_dropTeller, Cond.selects RX1 yX1_dropTeller yX1_dropTeller, Cond.code yX1_dropTeller cX1_dropTeller 2 none, Cond.methodLink RX0 65 yX0_moveSaved, Cond.instanceMethod yX0_moveSaved, Cond.selects RX0 yX0_moveSaved yX0_moveSaved, Cond.code yX0_moveSaved cX0_moveSaved 3 none, Cond.fieldLink RX0 21 "GroupDesk$Places" "savedGroups" "[I", Cond.methodLink RX0 56 yX0_mustSave, Cond.instanceMethod yX0_mustSave, Cond.selects RX0 yX0_mustSave yX0_mustSave, Cond.code yX0_mustSave cX0_mustSave 3 (some .boolean), Cond.fieldLink RX0 34 "GroupDesk$Places" "openGroups" "I", Cond.methodLink RX0 59 yX0_save, Cond.instanceMethod yX0_save, Cond.selects RX0 yX0_save yX0_save, Cond.code yX0_save cX0_save 2 none]
def wsX2_let : List Cond := .code yX2_let cX2_let 5 (some .boolean) :: ((wsX2_let_r1 ++ (wsX2_let_r2 ++ wsX2_let_r3)) ++ wsX20 ++ wsX00 ++ wsX10)
def wsX2_shape_r1 : List Cond := [Cond.fieldLink RX2 12 "GroupDesk" "rows" "LGroupDesk$Rows;", Cond.fieldLink RX2 21 "GroupDesk" "places" "LGroupDesk$Places;", Cond.methodLink RX2 56 yX1_takeDraft, Cond.instanceMethod yX1_takeDraft, Cond.selects RX1 yX1_takeDraft yX1_takeDraft, Cond.initialized RX1, Cond.code yX1_takeDraft cX1_takeDraft 2 (some .int), Cond.fieldLink RX1 31 "GroupDesk$Rows" "draftLength" "I", Cond.fieldLink RX1 24 "GroupDesk$Rows" "made" "I", Cond.fieldLink RX1 15 "GroupDesk$Rows" "starts" "[I", Cond.fieldLink RX1 28 "GroupDesk$Rows" "draftStart" "I", Cond.fieldLink RX1 18 "GroupDesk$Rows" "lengths" "[I", Cond.methodLink RX2 36 yX0_assign, Cond.instanceMethod yX0_assign, Cond.selects RX0 yX0_assign yX0_assign, Cond.initialized RX0, Cond.code yX0_assign cX0_assign 5 none, Cond.fieldLink RX0 9 "GroupDesk$Places" "kinds" "[I", Cond.fieldLink RX0 15 "GroupDesk$Places" "values" "[I", Cond.methodLink RX0 41 yX0_isPlace, Cond.static yX0_isPlace, Cond.code yX0_isPlace cX0_isPlace 1 (some .boolean), Cond.methodLink RX0 49 yX0_tell, Cond.instanceMethod yX0_tell]
def wsX2_shape_r2 : List Cond := [Cond.selects RX0 yX0_tell yX0_tell, Cond.code yX0_tell cX0_tell 3 none, Cond.fieldLink RX0 37 "GroupDesk$Places" "rows" "LGroupDesk$Rows;", Cond.methodLink RX0 68 yX1_addTeller, Cond.instanceMethod yX1_addTeller, Cond.selects RX1 yX1_addTeller yX1_addTeller, Cond.code yX1_addTeller cX1_addTeller 2 none, Cond.fieldLink RX1 21 "GroupDesk$Rows" "tellers" "[I", Cond.fieldLink RX1 34 "GroupDesk$Rows" "keptNumbers" "I", Cond.methodLink RX1 37 yX1_isRow, Cond.instanceMethod yX1_isRow, Cond.selects RX1 yX1_isRow yX1_isRow, Cond.code yX1_isRow cX1_isRow 2 (some .boolean), Cond.methodLink RX0 53 yX0_forgetSaved, Cond.instanceMethod yX0_forgetSaved, Cond.selects RX0 yX0_forgetSaved yX0_forgetSaved, Cond.code yX0_forgetSaved cX0_forgetSaved 4 none, Cond.fieldLink RX0 30 "GroupDesk$Places" "savedCount" "I", Cond.fieldLink RX0 18 "GroupDesk$Places" "savedPlaces" "[I", Cond.fieldLink RX0 24 "GroupDesk$Places" "savedKinds" "[I", Cond.fieldLink RX0 27 "GroupDesk$Places" "savedValues" "[I", Cond.methodLink RX0 62 yX0_untell, Cond.instanceMethod yX0_untell, Cond.selects RX0 yX0_untell yX0_untell]
def wsX2_shape_r3 : List Cond := [Cond.code yX0_untell cX0_untell 3 none, Cond.methodLink RX0 73 yX1_dropTeller, Cond.instanceMethod yX1_dropTeller, Cond.selects RX1 yX1_dropTeller yX1_dropTeller, Cond.code yX1_dropTeller cX1_dropTeller 2 none, Cond.methodLink RX0 65 yX0_moveSaved, Cond.instanceMethod yX0_moveSaved, Cond.selects RX0 yX0_moveSaved yX0_moveSaved, Cond.code yX0_moveSaved cX0_moveSaved 3 none, Cond.fieldLink RX0 21 "GroupDesk$Places" "savedGroups" "[I", Cond.methodLink RX0 56 yX0_mustSave, Cond.instanceMethod yX0_mustSave, Cond.selects RX0 yX0_mustSave yX0_mustSave, Cond.code yX0_mustSave cX0_mustSave 3 (some .boolean), Cond.fieldLink RX0 34 "GroupDesk$Places" "openGroups" "I", Cond.methodLink RX0 59 yX0_save, Cond.instanceMethod yX0_save, Cond.selects RX0 yX0_save yX0_save, Cond.code yX0_save cX0_save 2 none, Cond.methodLink RX2 60 yX1_lengthOf, Cond.instanceMethod yX1_lengthOf, Cond.selects RX1 yX1_lengthOf yX1_lengthOf, Cond.code yX1_lengthOf cX1_lengthOf 2 (some .int)]
def wsX2_shape : List Cond := .code yX2_shape cX2_shape 3 (some .int) :: ((wsX2_shape_r1 ++ (wsX2_shape_r2 ++ wsX2_shape_r3)) ++ wsX20 ++ wsX10 ++ wsX00)
def wsX2_get : List Cond := .code yX2_get cX2_get 2 (some .int) :: ([.classLink RX2 49 "java/lang/IndexOutOfBoundsException", .initialized "java/lang/IndexOutOfBoundsException", .fieldLink RX2 21 "GroupDesk" "places" "LGroupDesk$Places;", .methodLink RX2 32 yX2_isCell, .static yX2_isCell, .initialized RX2, .code yX2_isCell cX2_isCell 1 (some .boolean), .methodLink RX2 67 yX0_valueAt, .instanceMethod yX0_valueAt, .selects RX0 yX0_valueAt yX0_valueAt, .initialized RX0, .code yX0_valueAt cX0_valueAt 2 (some .int), .fieldLink RX0 15 "GroupDesk$Places" "values" "[I", .methodLink RX0 41 yX0_isPlace, .static yX0_isPlace, .code yX0_isPlace cX0_isPlace 1 (some .boolean)] ++ wsX20 ++ wsX00 ++ (vx_atS RX2 53 "java/lang/IndexOutOfBoundsException" ["java/lang/RuntimeException", "java/lang/Exception"]).filter goodWord)
def wsX2_about_r1 : List Cond := [Cond.classLink RX2 49 "java/lang/IndexOutOfBoundsException", Cond.initialized "java/lang/IndexOutOfBoundsException", Cond.fieldLink RX2 21 "GroupDesk" "places" "LGroupDesk$Places;", Cond.fieldLink RX2 12 "GroupDesk" "rows" "LGroupDesk$Rows;", Cond.methodLink RX2 40 yX2_isName, Cond.static yX2_isName, Cond.initialized RX2, Cond.code yX2_isName cX2_isName 1 (some .boolean), Cond.methodLink RX2 64 yX0_kindAt, Cond.instanceMethod yX0_kindAt, Cond.selects RX0 yX0_kindAt yX0_kindAt, Cond.initialized RX0, Cond.code yX0_kindAt cX0_kindAt 2 (some .int), Cond.fieldLink RX0 9 "GroupDesk$Places" "kinds" "[I", Cond.methodLink RX0 41 yX0_isPlace, Cond.static yX0_isPlace, Cond.code yX0_isPlace cX0_isPlace 1 (some .boolean), Cond.methodLink RX2 67 yX0_valueAt, Cond.instanceMethod yX0_valueAt, Cond.selects RX0 yX0_valueAt yX0_valueAt, Cond.code yX0_valueAt cX0_valueAt 2 (some .int), Cond.fieldLink RX0 15 "GroupDesk$Places" "values" "[I", Cond.methodLink RX2 60 yX1_lengthOf, Cond.instanceMethod yX1_lengthOf]
def wsX2_about_r2 : List Cond := [Cond.selects RX1 yX1_lengthOf yX1_lengthOf, Cond.initialized RX1, Cond.code yX1_lengthOf cX1_lengthOf 2 (some .int), Cond.fieldLink RX1 18 "GroupDesk$Rows" "lengths" "[I", Cond.methodLink RX1 37 yX1_isRow, Cond.instanceMethod yX1_isRow, Cond.selects RX1 yX1_isRow yX1_isRow, Cond.code yX1_isRow cX1_isRow 2 (some .boolean), Cond.fieldLink RX1 24 "GroupDesk$Rows" "made" "I"]
def wsX2_about : List Cond := .code yX2_about cX2_about 5 (some .int) :: ((wsX2_about_r1 ++ wsX2_about_r2) ++ wsX20 ++ wsX00 ++ wsX10 ++ (vx_atS RX2 53 "java/lang/IndexOutOfBoundsException" ["java/lang/RuntimeException", "java/lang/Exception"]).filter goodWord)
def wsX2_rowOf : List Cond := .code yX2_rowOf cX2_rowOf 2 (some .int) :: ([.fieldLink RX2 21 "GroupDesk" "places" "LGroupDesk$Places;", .methodLink RX2 67 yX0_valueAt, .instanceMethod yX0_valueAt, .selects RX0 yX0_valueAt yX0_valueAt, .initialized RX0, .code yX0_valueAt cX0_valueAt 2 (some .int), .fieldLink RX0 15 "GroupDesk$Places" "values" "[I", .methodLink RX0 41 yX0_isPlace, .static yX0_isPlace, .code yX0_isPlace cX0_isPlace 1 (some .boolean), .methodLink RX2 40 yX2_isName, .static yX2_isName, .initialized RX2, .code yX2_isName cX2_isName 1 (some .boolean), .methodLink RX2 64 yX0_kindAt, .instanceMethod yX0_kindAt, .selects RX0 yX0_kindAt yX0_kindAt, .code yX0_kindAt cX0_kindAt 2 (some .int), .fieldLink RX0 9 "GroupDesk$Places" "kinds" "[I"] ++ wsX20 ++ wsX00)
def wsX2_number_r1 : List Cond := [Cond.classLink RX2 49 "java/lang/IndexOutOfBoundsException", Cond.initialized "java/lang/IndexOutOfBoundsException", Cond.fieldLink RX2 12 "GroupDesk" "rows" "LGroupDesk$Rows;", Cond.methodLink RX2 74 yX2_rowOf, Cond.instanceMethod yX2_rowOf, Cond.selects RX2 yX2_rowOf yX2_rowOf, Cond.initialized RX2, Cond.code yX2_rowOf cX2_rowOf 2 (some .int), Cond.fieldLink RX2 21 "GroupDesk" "places" "LGroupDesk$Places;", Cond.methodLink RX2 67 yX0_valueAt, Cond.instanceMethod yX0_valueAt, Cond.selects RX0 yX0_valueAt yX0_valueAt, Cond.initialized RX0, Cond.code yX0_valueAt cX0_valueAt 2 (some .int), Cond.fieldLink RX0 15 "GroupDesk$Places" "values" "[I", Cond.methodLink RX0 41 yX0_isPlace, Cond.static yX0_isPlace, Cond.code yX0_isPlace cX0_isPlace 1 (some .boolean), Cond.methodLink RX2 40 yX2_isName, Cond.static yX2_isName, Cond.code yX2_isName cX2_isName 1 (some .boolean), Cond.methodLink RX2 64 yX0_kindAt, Cond.instanceMethod yX0_kindAt, Cond.selects RX0 yX0_kindAt yX0_kindAt]
def wsX2_number_r2 : List Cond := [Cond.code yX0_kindAt cX0_kindAt 2 (some .int), Cond.fieldLink RX0 9 "GroupDesk$Places" "kinds" "[I", Cond.methodLink RX2 60 yX1_lengthOf, Cond.instanceMethod yX1_lengthOf, Cond.selects RX1 yX1_lengthOf yX1_lengthOf, Cond.initialized RX1, Cond.code yX1_lengthOf cX1_lengthOf 2 (some .int), Cond.fieldLink RX1 18 "GroupDesk$Rows" "lengths" "[I", Cond.methodLink RX1 37 yX1_isRow, Cond.instanceMethod yX1_isRow, Cond.selects RX1 yX1_isRow yX1_isRow, Cond.code yX1_isRow cX1_isRow 2 (some .boolean), Cond.fieldLink RX1 24 "GroupDesk$Rows" "made" "I", Cond.methodLink RX2 77 yX1_has, Cond.instanceMethod yX1_has, Cond.selects RX1 yX1_has yX1_has, Cond.code yX1_has cX1_has 3 (some .boolean), Cond.methodLink RX1 41 yX1_lengthOf, Cond.methodLink RX2 83 yX1_numberAt, Cond.instanceMethod yX1_numberAt, Cond.selects RX1 yX1_numberAt yX1_numberAt, Cond.code yX1_numberAt cX1_numberAt 3 (some .int), Cond.fieldLink RX1 9 "GroupDesk$Rows" "numbers" "[I", Cond.fieldLink RX1 15 "GroupDesk$Rows" "starts" "[I"]
def wsX2_number_r3 : List Cond := [Cond.methodLink RX1 45 yX1_has]
def wsX2_number : List Cond := .code yX2_number cX2_number 4 (some .int) :: ((wsX2_number_r1 ++ (wsX2_number_r2 ++ wsX2_number_r3)) ++ wsX20 ++ wsX00 ++ wsX10 ++ (vx_atS RX2 53 "java/lang/IndexOutOfBoundsException" ["java/lang/RuntimeException", "java/lang/Exception"]).filter goodWord)
def wsX2_count : List Cond := .code yX2_count cX2_count 2 (some .int) :: ([.fieldLink RX2 21 "GroupDesk" "places" "LGroupDesk$Places;", .fieldLink RX2 12 "GroupDesk" "rows" "LGroupDesk$Rows;", .methodLink RX2 87 yX0_depth, .instanceMethod yX0_depth, .selects RX0 yX0_depth yX0_depth, .initialized RX0, .code yX0_depth cX0_depth 1 (some .int), .fieldLink RX0 34 "GroupDesk$Places" "openGroups" "I", .methodLink RX2 90 yX1_drafted, .instanceMethod yX1_drafted, .selects RX1 yX1_drafted yX1_drafted, .initialized RX1, .code yX1_drafted cX1_drafted 1 (some .int), .fieldLink RX1 31 "GroupDesk$Rows" "draftLength" "I", .methodLink RX2 93 yX1_kept, .instanceMethod yX1_kept, .selects RX1 yX1_kept yX1_kept, .code yX1_kept cX1_kept 1 (some .int), .fieldLink RX1 34 "GroupDesk$Rows" "keptNumbers" "I"] ++ wsX20 ++ wsX00 ++ wsX10)
def wsX3_init : List Cond := .code yX3_init cX3_init 1 none :: ([.methodLink RX3 1 objectInit, .instanceMethod objectInit, .code objectInit ⟨#[0xb1]⟩ 1 none, .arrayClass .int, .fieldLink RX3 7 "GroupDeskModel" "of" "[I", .fieldLink RX3 13 "GroupDeskModel" "group" "[I", .fieldLink RX3 16 "GroupDeskModel" "kind" "[I", .fieldLink RX3 19 "GroupDeskModel" "value" "[I", .fieldLink RX3 22 "GroupDeskModel" "rows" "I", .fieldLink RX3 26 "GroupDeskModel" "from" "[I", .fieldLink RX3 29 "GroupDeskModel" "numbers" "[I"] ++ wsX30)
def wsX3_thrown : List Cond := .code yX3_thrown cX3_thrown 1 (some .int) :: ([.fieldLink RX3 32 "GroupDeskModel" "thrown" "I"] ++ wsX30)
def wsX3_fails : List Cond := .code yX3_fails cX3_fails 1 (some .int) :: ([.fieldLink RX3 32 "GroupDeskModel" "thrown" "I"] ++ wsX30)
def wsX3_isCell : List Cond := .code yX3_isCell cX3_isCell 1 (some .boolean) :: ([])
def wsX3_isName : List Cond := .code yX3_isName cX3_isName 1 (some .boolean) :: ([])
def wsX3_open : List Cond := .code yX3_open cX3_open 1 (some .boolean) :: ([.fieldLink RX3 32 "GroupDeskModel" "thrown" "I", .fieldLink RX3 35 "GroupDeskModel" "groups" "I"] ++ wsX30)
def wsX3_drop : List Cond := .code yX3_drop cX3_drop 5 none :: ([.fieldLink RX3 38 "GroupDeskModel" "count" "I", .fieldLink RX3 7 "GroupDeskModel" "of" "[I", .fieldLink RX3 13 "GroupDeskModel" "group" "[I", .fieldLink RX3 16 "GroupDeskModel" "kind" "[I", .fieldLink RX3 19 "GroupDeskModel" "value" "[I"] ++ wsX30)
def wsX3_close : List Cond := .code yX3_close cX3_close 1 (some .boolean) :: ([.fieldLink RX3 32 "GroupDeskModel" "thrown" "I", .fieldLink RX3 35 "GroupDeskModel" "groups" "I", .methodLink RX3 41 yX3_drop, .instanceMethod yX3_drop, .selects RX3 yX3_drop yX3_drop, .initialized RX3, .code yX3_drop cX3_drop 5 none, .fieldLink RX3 38 "GroupDeskModel" "count" "I", .fieldLink RX3 7 "GroupDeskModel" "of" "[I", .fieldLink RX3 13 "GroupDeskModel" "group" "[I", .fieldLink RX3 16 "GroupDeskModel" "kind" "[I", .fieldLink RX3 19 "GroupDeskModel" "value" "[I"] ++ wsX30)
def wsX3_assign : List Cond := .code yX3_assign cX3_assign 6 none :: ([.fieldLink RX3 35 "GroupDeskModel" "groups" "I", .fieldLink RX3 7 "GroupDeskModel" "of" "[I", .fieldLink RX3 38 "GroupDeskModel" "count" "I", .fieldLink RX3 13 "GroupDeskModel" "group" "[I", .fieldLink RX3 16 "GroupDeskModel" "kind" "[I", .fieldLink RX3 19 "GroupDeskModel" "value" "[I", .methodLink RX3 41 yX3_drop, .instanceMethod yX3_drop, .selects RX3 yX3_drop yX3_drop, .initialized RX3, .code yX3_drop cX3_drop 5 none] ++ wsX30)
def wsX3_last : List Cond := .code yX3_last cX3_last 4 (some .int) :: ([.fieldLink RX3 38 "GroupDeskModel" "count" "I", .fieldLink RX3 7 "GroupDeskModel" "of" "[I"] ++ wsX30)
def wsX3_kindOf : List Cond := .code yX3_kindOf cX3_kindOf 3 (some .int) :: ([.fieldLink RX3 16 "GroupDeskModel" "kind" "[I", .methodLink RX3 45 yX3_last, .instanceMethod yX3_last, .selects RX3 yX3_last yX3_last, .initialized RX3, .code yX3_last cX3_last 4 (some .int), .fieldLink RX3 38 "GroupDeskModel" "count" "I", .fieldLink RX3 7 "GroupDeskModel" "of" "[I"] ++ wsX30)
def wsX3_valueOf : List Cond := .code yX3_valueOf cX3_valueOf 3 (some .int) :: ([.fieldLink RX3 19 "GroupDeskModel" "value" "[I", .methodLink RX3 45 yX3_last, .instanceMethod yX3_last, .selects RX3 yX3_last yX3_last, .initialized RX3, .code yX3_last cX3_last 4 (some .int), .fieldLink RX3 38 "GroupDeskModel" "count" "I", .fieldLink RX3 7 "GroupDeskModel" "of" "[I"] ++ wsX30)
def wsX3_size : List Cond := .code yX3_size cX3_size 2 (some .int) :: ([.fieldLink RX3 26 "GroupDeskModel" "from" "[I"] ++ wsX30)
def wsX3_set : List Cond := .code yX3_set cX3_set 4 (some .boolean) :: ([.fieldLink RX3 32 "GroupDeskModel" "thrown" "I", .methodLink RX3 49 yX3_isCell, .static yX3_isCell, .initialized RX3, .code yX3_isCell cX3_isCell 1 (some .boolean), .methodLink RX3 53 yX3_assign, .instanceMethod yX3_assign, .selects RX3 yX3_assign yX3_assign, .code yX3_assign cX3_assign 6 none, .fieldLink RX3 35 "GroupDeskModel" "groups" "I", .fieldLink RX3 7 "GroupDeskModel" "of" "[I", .fieldLink RX3 38 "GroupDeskModel" "count" "I", .fieldLink RX3 13 "GroupDeskModel" "group" "[I", .fieldLink RX3 16 "GroupDeskModel" "kind" "[I", .fieldLink RX3 19 "GroupDeskModel" "value" "[I", .methodLink RX3 41 yX3_drop, .instanceMethod yX3_drop, .selects RX3 yX3_drop yX3_drop, .code yX3_drop cX3_drop 5 none] ++ wsX30)
def wsX3_mean : List Cond := .code yX3_mean cX3_mean 5 (some .boolean) :: ([.fieldLink RX3 32 "GroupDeskModel" "thrown" "I", .methodLink RX3 57 yX3_isName, .static yX3_isName, .initialized RX3, .code yX3_isName cX3_isName 1 (some .boolean), .methodLink RX3 53 yX3_assign, .instanceMethod yX3_assign, .selects RX3 yX3_assign yX3_assign, .code yX3_assign cX3_assign 6 none, .fieldLink RX3 35 "GroupDeskModel" "groups" "I", .fieldLink RX3 7 "GroupDeskModel" "of" "[I", .fieldLink RX3 38 "GroupDeskModel" "count" "I", .fieldLink RX3 13 "GroupDeskModel" "group" "[I", .fieldLink RX3 16 "GroupDeskModel" "kind" "[I", .fieldLink RX3 19 "GroupDeskModel" "value" "[I", .methodLink RX3 41 yX3_drop, .instanceMethod yX3_drop, .selects RX3 yX3_drop yX3_drop, .code yX3_drop cX3_drop 5 none] ++ wsX30)
def wsX3_draft : List Cond := .code yX3_draft cX3_draft 2 (some .boolean) :: ([.fieldLink RX3 32 "GroupDeskModel" "thrown" "I", .fieldLink RX3 60 "GroupDeskModel" "drafted" "I", .fieldLink RX3 29 "GroupDeskModel" "numbers" "[I", .fieldLink RX3 26 "GroupDeskModel" "from" "[I", .fieldLink RX3 22 "GroupDeskModel" "rows" "I"] ++ wsX30)
def wsX3_taken : List Cond := .code yX3_taken cX3_taken 2 (some .int) :: ([.fieldLink RX3 22 "GroupDeskModel" "rows" "I", .fieldLink RX3 26 "GroupDeskModel" "from" "[I", .fieldLink RX3 60 "GroupDeskModel" "drafted" "I"] ++ wsX30)
def wsX3_define_r1 : List Cond := [Cond.fieldLink RX3 32 "GroupDeskModel" "thrown" "I", Cond.methodLink RX3 57 yX3_isName, Cond.static yX3_isName, Cond.initialized RX3, Cond.code yX3_isName cX3_isName 1 (some .boolean), Cond.methodLink RX3 63 yX3_fails, Cond.instanceMethod yX3_fails, Cond.selects RX3 yX3_fails yX3_fails, Cond.code yX3_fails cX3_fails 1 (some .int), Cond.methodLink RX3 67 yX3_taken, Cond.instanceMethod yX3_taken, Cond.selects RX3 yX3_taken yX3_taken, Cond.code yX3_taken cX3_taken 2 (some .int), Cond.fieldLink RX3 22 "GroupDeskModel" "rows" "I", Cond.fieldLink RX3 26 "GroupDeskModel" "from" "[I", Cond.fieldLink RX3 60 "GroupDeskModel" "drafted" "I", Cond.methodLink RX3 53 yX3_assign, Cond.instanceMethod yX3_assign, Cond.selects RX3 yX3_assign yX3_assign, Cond.code yX3_assign cX3_assign 6 none, Cond.fieldLink RX3 35 "GroupDeskModel" "groups" "I", Cond.fieldLink RX3 7 "GroupDeskModel" "of" "[I", Cond.fieldLink RX3 38 "GroupDeskModel" "count" "I", Cond.fieldLink RX3 13 "GroupDeskModel" "group" "[I"]
def wsX3_define_r2 : List Cond := [Cond.fieldLink RX3 16 "GroupDeskModel" "kind" "[I", Cond.fieldLink RX3 19 "GroupDeskModel" "value" "[I", Cond.methodLink RX3 41 yX3_drop, Cond.instanceMethod yX3_drop, Cond.selects RX3 yX3_drop yX3_drop, Cond.code yX3_drop cX3_drop 5 none, Cond.methodLink RX3 70 yX3_size, Cond.instanceMethod yX3_size, Cond.selects RX3 yX3_size yX3_size, Cond.code yX3_size cX3_size 2 (some .int)]
def wsX3_define : List Cond := .code yX3_define cX3_define 4 (some .int) :: ((wsX3_define_r1 ++ wsX3_define_r2) ++ wsX30)
def wsX3_let_r1 : List Cond := [Cond.fieldLink RX3 32 "GroupDeskModel" "thrown" "I", Cond.methodLink RX3 57 yX3_isName, Cond.static yX3_isName, Cond.initialized RX3, Cond.code yX3_isName cX3_isName 1 (some .boolean), Cond.methodLink RX3 73 yX3_kindOf, Cond.instanceMethod yX3_kindOf, Cond.selects RX3 yX3_kindOf yX3_kindOf, Cond.code yX3_kindOf cX3_kindOf 3 (some .int), Cond.fieldLink RX3 16 "GroupDeskModel" "kind" "[I", Cond.methodLink RX3 45 yX3_last, Cond.instanceMethod yX3_last, Cond.selects RX3 yX3_last yX3_last, Cond.code yX3_last cX3_last 4 (some .int), Cond.fieldLink RX3 38 "GroupDeskModel" "count" "I", Cond.fieldLink RX3 7 "GroupDeskModel" "of" "[I", Cond.methodLink RX3 76 yX3_valueOf, Cond.instanceMethod yX3_valueOf, Cond.selects RX3 yX3_valueOf yX3_valueOf, Cond.code yX3_valueOf cX3_valueOf 3 (some .int), Cond.fieldLink RX3 19 "GroupDeskModel" "value" "[I", Cond.methodLink RX3 53 yX3_assign, Cond.instanceMethod yX3_assign, Cond.selects RX3 yX3_assign yX3_assign]
def wsX3_let_r2 : List Cond := [Cond.code yX3_assign cX3_assign 6 none, Cond.fieldLink RX3 35 "GroupDeskModel" "groups" "I", Cond.fieldLink RX3 13 "GroupDeskModel" "group" "[I", Cond.methodLink RX3 41 yX3_drop, Cond.instanceMethod yX3_drop, Cond.selects RX3 yX3_drop yX3_drop, Cond.code yX3_drop cX3_drop 5 none]
def wsX3_let : List Cond := .code yX3_let cX3_let 4 (some .boolean) :: ((wsX3_let_r1 ++ wsX3_let_r2) ++ wsX30)
def wsX3_shape_r1 : List Cond := [Cond.fieldLink RX3 32 "GroupDeskModel" "thrown" "I", Cond.methodLink RX3 67 yX3_taken, Cond.instanceMethod yX3_taken, Cond.selects RX3 yX3_taken yX3_taken, Cond.initialized RX3, Cond.code yX3_taken cX3_taken 2 (some .int), Cond.fieldLink RX3 22 "GroupDeskModel" "rows" "I", Cond.fieldLink RX3 26 "GroupDeskModel" "from" "[I", Cond.fieldLink RX3 60 "GroupDeskModel" "drafted" "I", Cond.methodLink RX3 53 yX3_assign, Cond.instanceMethod yX3_assign, Cond.selects RX3 yX3_assign yX3_assign, Cond.code yX3_assign cX3_assign 6 none, Cond.fieldLink RX3 35 "GroupDeskModel" "groups" "I", Cond.fieldLink RX3 7 "GroupDeskModel" "of" "[I", Cond.fieldLink RX3 38 "GroupDeskModel" "count" "I", Cond.fieldLink RX3 13 "GroupDeskModel" "group" "[I", Cond.fieldLink RX3 16 "GroupDeskModel" "kind" "[I", Cond.fieldLink RX3 19 "GroupDeskModel" "value" "[I", Cond.methodLink RX3 41 yX3_drop, Cond.instanceMethod yX3_drop, Cond.selects RX3 yX3_drop yX3_drop, Cond.code yX3_drop cX3_drop 5 none, Cond.methodLink RX3 70 yX3_size]
def wsX3_shape_r2 : List Cond := [Cond.instanceMethod yX3_size, Cond.selects RX3 yX3_size yX3_size, Cond.code yX3_size cX3_size 2 (some .int)]
def wsX3_shape : List Cond := .code yX3_shape cX3_shape 3 (some .int) :: ((wsX3_shape_r1 ++ wsX3_shape_r2) ++ wsX30)
def wsX3_get : List Cond := .code yX3_get cX3_get 2 (some .int) :: ([.fieldLink RX3 32 "GroupDeskModel" "thrown" "I", .methodLink RX3 49 yX3_isCell, .static yX3_isCell, .initialized RX3, .code yX3_isCell cX3_isCell 1 (some .boolean), .methodLink RX3 63 yX3_fails, .instanceMethod yX3_fails, .selects RX3 yX3_fails yX3_fails, .code yX3_fails cX3_fails 1 (some .int), .methodLink RX3 76 yX3_valueOf, .instanceMethod yX3_valueOf, .selects RX3 yX3_valueOf yX3_valueOf, .code yX3_valueOf cX3_valueOf 3 (some .int), .fieldLink RX3 19 "GroupDeskModel" "value" "[I", .methodLink RX3 45 yX3_last, .instanceMethod yX3_last, .selects RX3 yX3_last yX3_last, .code yX3_last cX3_last 4 (some .int), .fieldLink RX3 38 "GroupDeskModel" "count" "I", .fieldLink RX3 7 "GroupDeskModel" "of" "[I"] ++ wsX30)
def wsX3_about_r1 : List Cond := [Cond.fieldLink RX3 32 "GroupDeskModel" "thrown" "I", Cond.methodLink RX3 57 yX3_isName, Cond.static yX3_isName, Cond.initialized RX3, Cond.code yX3_isName cX3_isName 1 (some .boolean), Cond.methodLink RX3 63 yX3_fails, Cond.instanceMethod yX3_fails, Cond.selects RX3 yX3_fails yX3_fails, Cond.code yX3_fails cX3_fails 1 (some .int), Cond.methodLink RX3 73 yX3_kindOf, Cond.instanceMethod yX3_kindOf, Cond.selects RX3 yX3_kindOf yX3_kindOf, Cond.code yX3_kindOf cX3_kindOf 3 (some .int), Cond.fieldLink RX3 16 "GroupDeskModel" "kind" "[I", Cond.methodLink RX3 45 yX3_last, Cond.instanceMethod yX3_last, Cond.selects RX3 yX3_last yX3_last, Cond.code yX3_last cX3_last 4 (some .int), Cond.fieldLink RX3 38 "GroupDeskModel" "count" "I", Cond.fieldLink RX3 7 "GroupDeskModel" "of" "[I", Cond.methodLink RX3 76 yX3_valueOf, Cond.instanceMethod yX3_valueOf, Cond.selects RX3 yX3_valueOf yX3_valueOf, Cond.code yX3_valueOf cX3_valueOf 3 (some .int)]
def wsX3_about_r2 : List Cond := [Cond.fieldLink RX3 19 "GroupDeskModel" "value" "[I", Cond.methodLink RX3 70 yX3_size, Cond.instanceMethod yX3_size, Cond.selects RX3 yX3_size yX3_size, Cond.code yX3_size cX3_size 2 (some .int), Cond.fieldLink RX3 26 "GroupDeskModel" "from" "[I"]
def wsX3_about : List Cond := .code yX3_about cX3_about 4 (some .int) :: ((wsX3_about_r1 ++ wsX3_about_r2) ++ wsX30)
def wsX3_number_r1 : List Cond := [Cond.fieldLink RX3 32 "GroupDeskModel" "thrown" "I", Cond.fieldLink RX3 29 "GroupDeskModel" "numbers" "[I", Cond.fieldLink RX3 26 "GroupDeskModel" "from" "[I", Cond.methodLink RX3 76 yX3_valueOf, Cond.instanceMethod yX3_valueOf, Cond.selects RX3 yX3_valueOf yX3_valueOf, Cond.initialized RX3, Cond.code yX3_valueOf cX3_valueOf 3 (some .int), Cond.fieldLink RX3 19 "GroupDeskModel" "value" "[I", Cond.methodLink RX3 45 yX3_last, Cond.instanceMethod yX3_last, Cond.selects RX3 yX3_last yX3_last, Cond.code yX3_last cX3_last 4 (some .int), Cond.fieldLink RX3 38 "GroupDeskModel" "count" "I", Cond.fieldLink RX3 7 "GroupDeskModel" "of" "[I", Cond.methodLink RX3 70 yX3_size, Cond.instanceMethod yX3_size, Cond.selects RX3 yX3_size yX3_size, Cond.code yX3_size cX3_size 2 (some .int), Cond.methodLink RX3 57 yX3_isName, Cond.static yX3_isName, Cond.code yX3_isName cX3_isName 1 (some .boolean), Cond.methodLink RX3 73 yX3_kindOf, Cond.instanceMethod yX3_kindOf]
def wsX3_number_r2 : List Cond := [Cond.selects RX3 yX3_kindOf yX3_kindOf, Cond.code yX3_kindOf cX3_kindOf 3 (some .int), Cond.fieldLink RX3 16 "GroupDeskModel" "kind" "[I", Cond.methodLink RX3 63 yX3_fails, Cond.instanceMethod yX3_fails, Cond.selects RX3 yX3_fails yX3_fails, Cond.code yX3_fails cX3_fails 1 (some .int)]
def wsX3_number : List Cond := .code yX3_number cX3_number 5 (some .int) :: ((wsX3_number_r1 ++ wsX3_number_r2) ++ wsX30)
def wsX3_kept : List Cond := .code yX3_kept cX3_kept 5 (some .int) :: ([.fieldLink RX3 22 "GroupDeskModel" "rows" "I", .fieldLink RX3 38 "GroupDeskModel" "count" "I", .fieldLink RX3 7 "GroupDeskModel" "of" "[I", .fieldLink RX3 16 "GroupDeskModel" "kind" "[I", .fieldLink RX3 19 "GroupDeskModel" "value" "[I", .methodLink RX3 70 yX3_size, .instanceMethod yX3_size, .selects RX3 yX3_size yX3_size, .initialized RX3, .code yX3_size cX3_size 2 (some .int), .fieldLink RX3 26 "GroupDeskModel" "from" "[I"] ++ wsX30)
def wsX3_count : List Cond := .code yX3_count cX3_count 2 (some .int) :: ([.fieldLink RX3 32 "GroupDeskModel" "thrown" "I", .fieldLink RX3 35 "GroupDeskModel" "groups" "I", .fieldLink RX3 60 "GroupDeskModel" "drafted" "I", .methodLink RX3 79 yX3_kept, .instanceMethod yX3_kept, .selects RX3 yX3_kept yX3_kept, .initialized RX3, .code yX3_kept cX3_kept 5 (some .int), .fieldLink RX3 22 "GroupDeskModel" "rows" "I", .fieldLink RX3 38 "GroupDeskModel" "count" "I", .fieldLink RX3 7 "GroupDeskModel" "of" "[I", .fieldLink RX3 16 "GroupDeskModel" "kind" "[I", .fieldLink RX3 19 "GroupDeskModel" "value" "[I", .methodLink RX3 70 yX3_size, .instanceMethod yX3_size, .selects RX3 yX3_size yX3_size, .code yX3_size cX3_size 2 (some .int), .fieldLink RX3 26 "GroupDeskModel" "from" "[I"] ++ wsX30)
def wsL_define_r1 : List Cond := [Cond.classLink RL 13 "java/lang/IndexOutOfBoundsException", Cond.methodLink RL 7 yX2_define, Cond.instanceMethod yX2_define, Cond.selects RX2 yX2_define yX2_define, Cond.initialized RX2, Cond.code yX2_define cX2_define 4 (some .int), Cond.classLink RX2 49 "java/lang/IndexOutOfBoundsException", Cond.initialized "java/lang/IndexOutOfBoundsException", Cond.fieldLink RX2 12 "GroupDesk" "rows" "LGroupDesk$Rows;", Cond.fieldLink RX2 21 "GroupDesk" "places" "LGroupDesk$Places;", Cond.methodLink RX2 40 yX2_isName, Cond.static yX2_isName, Cond.code yX2_isName cX2_isName 1 (some .boolean), Cond.methodLink RX2 56 yX1_takeDraft, Cond.instanceMethod yX1_takeDraft, Cond.selects RX1 yX1_takeDraft yX1_takeDraft, Cond.initialized RX1, Cond.code yX1_takeDraft cX1_takeDraft 2 (some .int), Cond.fieldLink RX1 31 "GroupDesk$Rows" "draftLength" "I", Cond.fieldLink RX1 24 "GroupDesk$Rows" "made" "I", Cond.fieldLink RX1 15 "GroupDesk$Rows" "starts" "[I", Cond.fieldLink RX1 28 "GroupDesk$Rows" "draftStart" "I", Cond.fieldLink RX1 18 "GroupDesk$Rows" "lengths" "[I", Cond.methodLink RX2 36 yX0_assign]
def wsL_define_r2 : List Cond := [Cond.instanceMethod yX0_assign, Cond.selects RX0 yX0_assign yX0_assign, Cond.initialized RX0, Cond.code yX0_assign cX0_assign 5 none, Cond.fieldLink RX0 9 "GroupDesk$Places" "kinds" "[I", Cond.fieldLink RX0 15 "GroupDesk$Places" "values" "[I", Cond.methodLink RX0 41 yX0_isPlace, Cond.static yX0_isPlace, Cond.code yX0_isPlace cX0_isPlace 1 (some .boolean), Cond.methodLink RX0 49 yX0_tell, Cond.instanceMethod yX0_tell, Cond.selects RX0 yX0_tell yX0_tell, Cond.code yX0_tell cX0_tell 3 none, Cond.fieldLink RX0 37 "GroupDesk$Places" "rows" "LGroupDesk$Rows;", Cond.methodLink RX0 68 yX1_addTeller, Cond.instanceMethod yX1_addTeller, Cond.selects RX1 yX1_addTeller yX1_addTeller, Cond.code yX1_addTeller cX1_addTeller 2 none, Cond.fieldLink RX1 21 "GroupDesk$Rows" "tellers" "[I", Cond.fieldLink RX1 34 "GroupDesk$Rows" "keptNumbers" "I", Cond.methodLink RX1 37 yX1_isRow, Cond.instanceMethod yX1_isRow, Cond.selects RX1 yX1_isRow yX1_isRow, Cond.code yX1_isRow cX1_isRow 2 (some .boolean)]
def wsL_define_r3 : List Cond := [Cond.methodLink RX0 53 yX0_forgetSaved, Cond.instanceMethod yX0_forgetSaved, Cond.selects RX0 yX0_forgetSaved yX0_forgetSaved, Cond.code yX0_forgetSaved cX0_forgetSaved 4 none, Cond.fieldLink RX0 30 "GroupDesk$Places" "savedCount" "I", Cond.fieldLink RX0 18 "GroupDesk$Places" "savedPlaces" "[I", Cond.fieldLink RX0 24 "GroupDesk$Places" "savedKinds" "[I", Cond.fieldLink RX0 27 "GroupDesk$Places" "savedValues" "[I", Cond.methodLink RX0 62 yX0_untell, Cond.instanceMethod yX0_untell, Cond.selects RX0 yX0_untell yX0_untell, Cond.code yX0_untell cX0_untell 3 none, Cond.methodLink RX0 73 yX1_dropTeller, Cond.instanceMethod yX1_dropTeller, Cond.selects RX1 yX1_dropTeller yX1_dropTeller, Cond.code yX1_dropTeller cX1_dropTeller 2 none, Cond.methodLink RX0 65 yX0_moveSaved, Cond.instanceMethod yX0_moveSaved, Cond.selects RX0 yX0_moveSaved yX0_moveSaved, Cond.code yX0_moveSaved cX0_moveSaved 3 none, Cond.fieldLink RX0 21 "GroupDesk$Places" "savedGroups" "[I", Cond.methodLink RX0 56 yX0_mustSave, Cond.instanceMethod yX0_mustSave, Cond.selects RX0 yX0_mustSave yX0_mustSave]
def wsL_define_r4 : List Cond := [Cond.code yX0_mustSave cX0_mustSave 3 (some .boolean), Cond.fieldLink RX0 34 "GroupDesk$Places" "openGroups" "I", Cond.methodLink RX0 59 yX0_save, Cond.instanceMethod yX0_save, Cond.selects RX0 yX0_save yX0_save, Cond.code yX0_save cX0_save 2 none, Cond.methodLink RX2 60 yX1_lengthOf, Cond.instanceMethod yX1_lengthOf, Cond.selects RX1 yX1_lengthOf yX1_lengthOf, Cond.code yX1_lengthOf cX1_lengthOf 2 (some .int)]
def wsL_define : List Cond := .codeWith yL_define cL_define 5 (some .int) [(0, 10, 13, 13)] :: ((wsL_define_r1 ++ (wsL_define_r2 ++ (wsL_define_r3 ++ wsL_define_r4))) ++ wsX20 ++ wsX10 ++ wsX00 ++ (vx_atS RX2 53 "java/lang/IndexOutOfBoundsException" ["java/lang/RuntimeException", "java/lang/Exception"]).filter goodWord)
def wsL_get : List Cond := .codeWith yL_get cL_get 4 (some .int) [(0, 9, 12, 13)] :: ([.classLink RL 13 "java/lang/IndexOutOfBoundsException", .methodLink RL 15 yX2_get, .instanceMethod yX2_get, .selects RX2 yX2_get yX2_get, .initialized RX2, .code yX2_get cX2_get 2 (some .int), .classLink RX2 49 "java/lang/IndexOutOfBoundsException", .initialized "java/lang/IndexOutOfBoundsException", .fieldLink RX2 21 "GroupDesk" "places" "LGroupDesk$Places;", .methodLink RX2 32 yX2_isCell, .static yX2_isCell, .code yX2_isCell cX2_isCell 1 (some .boolean), .methodLink RX2 67 yX0_valueAt, .instanceMethod yX0_valueAt, .selects RX0 yX0_valueAt yX0_valueAt, .initialized RX0, .code yX0_valueAt cX0_valueAt 2 (some .int), .fieldLink RX0 15 "GroupDesk$Places" "values" "[I", .methodLink RX0 41 yX0_isPlace, .static yX0_isPlace, .code yX0_isPlace cX0_isPlace 1 (some .boolean)] ++ wsX20 ++ wsX00 ++ (vx_atS RX2 53 "java/lang/IndexOutOfBoundsException" ["java/lang/RuntimeException", "java/lang/Exception"]).filter goodWord)
def wsL_about_r1 : List Cond := [Cond.classLink RL 13 "java/lang/IndexOutOfBoundsException", Cond.methodLink RL 19 yX2_about, Cond.instanceMethod yX2_about, Cond.selects RX2 yX2_about yX2_about, Cond.initialized RX2, Cond.code yX2_about cX2_about 5 (some .int), Cond.classLink RX2 49 "java/lang/IndexOutOfBoundsException", Cond.initialized "java/lang/IndexOutOfBoundsException", Cond.fieldLink RX2 21 "GroupDesk" "places" "LGroupDesk$Places;", Cond.fieldLink RX2 12 "GroupDesk" "rows" "LGroupDesk$Rows;", Cond.methodLink RX2 40 yX2_isName, Cond.static yX2_isName, Cond.code yX2_isName cX2_isName 1 (some .boolean), Cond.methodLink RX2 64 yX0_kindAt, Cond.instanceMethod yX0_kindAt, Cond.selects RX0 yX0_kindAt yX0_kindAt, Cond.initialized RX0, Cond.code yX0_kindAt cX0_kindAt 2 (some .int), Cond.fieldLink RX0 9 "GroupDesk$Places" "kinds" "[I", Cond.methodLink RX0 41 yX0_isPlace, Cond.static yX0_isPlace, Cond.code yX0_isPlace cX0_isPlace 1 (some .boolean), Cond.methodLink RX2 67 yX0_valueAt, Cond.instanceMethod yX0_valueAt]
def wsL_about_r2 : List Cond := [Cond.selects RX0 yX0_valueAt yX0_valueAt, Cond.code yX0_valueAt cX0_valueAt 2 (some .int), Cond.fieldLink RX0 15 "GroupDesk$Places" "values" "[I", Cond.methodLink RX2 60 yX1_lengthOf, Cond.instanceMethod yX1_lengthOf, Cond.selects RX1 yX1_lengthOf yX1_lengthOf, Cond.initialized RX1, Cond.code yX1_lengthOf cX1_lengthOf 2 (some .int), Cond.fieldLink RX1 18 "GroupDesk$Rows" "lengths" "[I", Cond.methodLink RX1 37 yX1_isRow, Cond.instanceMethod yX1_isRow, Cond.selects RX1 yX1_isRow yX1_isRow, Cond.code yX1_isRow cX1_isRow 2 (some .boolean), Cond.fieldLink RX1 24 "GroupDesk$Rows" "made" "I"]
def wsL_about : List Cond := .codeWith yL_about cL_about 5 (some .int) [(0, 10, 13, 13)] :: ((wsL_about_r1 ++ wsL_about_r2) ++ wsX20 ++ wsX00 ++ wsX10 ++ (vx_atS RX2 53 "java/lang/IndexOutOfBoundsException" ["java/lang/RuntimeException", "java/lang/Exception"]).filter goodWord)
def wsL_number_r1 : List Cond := [Cond.classLink RL 13 "java/lang/IndexOutOfBoundsException", Cond.methodLink RL 23 yX2_number, Cond.instanceMethod yX2_number, Cond.selects RX2 yX2_number yX2_number, Cond.initialized RX2, Cond.code yX2_number cX2_number 4 (some .int), Cond.classLink RX2 49 "java/lang/IndexOutOfBoundsException", Cond.initialized "java/lang/IndexOutOfBoundsException", Cond.fieldLink RX2 12 "GroupDesk" "rows" "LGroupDesk$Rows;", Cond.methodLink RX2 74 yX2_rowOf, Cond.instanceMethod yX2_rowOf, Cond.selects RX2 yX2_rowOf yX2_rowOf, Cond.code yX2_rowOf cX2_rowOf 2 (some .int), Cond.fieldLink RX2 21 "GroupDesk" "places" "LGroupDesk$Places;", Cond.methodLink RX2 67 yX0_valueAt, Cond.instanceMethod yX0_valueAt, Cond.selects RX0 yX0_valueAt yX0_valueAt, Cond.initialized RX0, Cond.code yX0_valueAt cX0_valueAt 2 (some .int), Cond.fieldLink RX0 15 "GroupDesk$Places" "values" "[I", Cond.methodLink RX0 41 yX0_isPlace, Cond.static yX0_isPlace, Cond.code yX0_isPlace cX0_isPlace 1 (some .boolean), Cond.methodLink RX2 40 yX2_isName]
def wsL_number_r2 : List Cond := [Cond.static yX2_isName, Cond.code yX2_isName cX2_isName 1 (some .boolean), Cond.methodLink RX2 64 yX0_kindAt, Cond.instanceMethod yX0_kindAt, Cond.selects RX0 yX0_kindAt yX0_kindAt, Cond.code yX0_kindAt cX0_kindAt 2 (some .int), Cond.fieldLink RX0 9 "GroupDesk$Places" "kinds" "[I", Cond.methodLink RX2 60 yX1_lengthOf, Cond.instanceMethod yX1_lengthOf, Cond.selects RX1 yX1_lengthOf yX1_lengthOf, Cond.initialized RX1, Cond.code yX1_lengthOf cX1_lengthOf 2 (some .int), Cond.fieldLink RX1 18 "GroupDesk$Rows" "lengths" "[I", Cond.methodLink RX1 37 yX1_isRow, Cond.instanceMethod yX1_isRow, Cond.selects RX1 yX1_isRow yX1_isRow, Cond.code yX1_isRow cX1_isRow 2 (some .boolean), Cond.fieldLink RX1 24 "GroupDesk$Rows" "made" "I", Cond.methodLink RX2 77 yX1_has, Cond.instanceMethod yX1_has, Cond.selects RX1 yX1_has yX1_has, Cond.code yX1_has cX1_has 3 (some .boolean), Cond.methodLink RX1 41 yX1_lengthOf, Cond.methodLink RX2 83 yX1_numberAt]
def wsL_number_r3 : List Cond := [Cond.instanceMethod yX1_numberAt, Cond.selects RX1 yX1_numberAt yX1_numberAt, Cond.code yX1_numberAt cX1_numberAt 3 (some .int), Cond.fieldLink RX1 9 "GroupDesk$Rows" "numbers" "[I", Cond.fieldLink RX1 15 "GroupDesk$Rows" "starts" "[I", Cond.methodLink RX1 45 yX1_has]
def wsL_number : List Cond := .codeWith yL_number cL_number 5 (some .int) [(0, 10, 13, 13)] :: ((wsL_number_r1 ++ (wsL_number_r2 ++ wsL_number_r3)) ++ wsX20 ++ wsX00 ++ wsX10 ++ (vx_atS RX2 53 "java/lang/IndexOutOfBoundsException" ["java/lang/RuntimeException", "java/lang/Exception"]).filter goodWord)
def wsL_law0_r1 : List Cond := [Cond.classLink RL 8 RX2, Cond.instantiable RX2 2, Cond.initialized RX2, Cond.classLink RL 27 RX3, Cond.instantiable RX3 11, Cond.initialized RX3, Cond.arrayClass .long, Cond.methodLink RL 26 yX2_init, Cond.instanceMethod yX2_init, Cond.code yX2_init cX2_init 1 none, Cond.methodLink RX2 3 objectInit, Cond.instanceMethod objectInit, Cond.code objectInit ⟨#[0xb1]⟩ 1 none, Cond.classLink RX2 9 RX1, Cond.instantiable RX1 8, Cond.initialized RX1, Cond.fieldLink RX2 12 "GroupDesk" "rows" "LGroupDesk$Rows;", Cond.classLink RX2 16 RX0, Cond.instantiable RX0 9, Cond.initialized RX0, Cond.fieldLink RX2 21 "GroupDesk" "places" "LGroupDesk$Places;", Cond.instanceMethod yX1_init, Cond.code yX1_init cX1_init 1 none, Cond.methodLink RX1 3 objectInit]
def wsL_law0_r2 : List Cond := [Cond.arrayClass .int, Cond.fieldLink RX1 9 "GroupDesk$Rows" "numbers" "[I", Cond.fieldLink RX1 15 "GroupDesk$Rows" "starts" "[I", Cond.fieldLink RX1 18 "GroupDesk$Rows" "lengths" "[I", Cond.fieldLink RX1 21 "GroupDesk$Rows" "tellers" "[I", Cond.fieldLink RX1 24 "GroupDesk$Rows" "made" "I", Cond.fieldLink RX1 28 "GroupDesk$Rows" "draftStart" "I", Cond.fieldLink RX1 31 "GroupDesk$Rows" "draftLength" "I", Cond.fieldLink RX1 34 "GroupDesk$Rows" "keptNumbers" "I", Cond.methodLink RX2 18 yX0_init, Cond.instanceMethod yX0_init, Cond.code yX0_init cX0_init 2 none, Cond.methodLink RX0 3 objectInit, Cond.fieldLink RX0 9 "GroupDesk$Places" "kinds" "[I", Cond.fieldLink RX0 15 "GroupDesk$Places" "values" "[I", Cond.fieldLink RX0 18 "GroupDesk$Places" "savedPlaces" "[I", Cond.fieldLink RX0 21 "GroupDesk$Places" "savedGroups" "[I", Cond.fieldLink RX0 24 "GroupDesk$Places" "savedKinds" "[I", Cond.fieldLink RX0 27 "GroupDesk$Places" "savedValues" "[I", Cond.fieldLink RX0 30 "GroupDesk$Places" "savedCount" "I", Cond.fieldLink RX0 34 "GroupDesk$Places" "openGroups" "I", Cond.fieldLink RX0 37 "GroupDesk$Places" "rows" "LGroupDesk$Rows;", Cond.methodLink RL 29 yX3_init, Cond.instanceMethod yX3_init]
def wsL_law0_r3 : List Cond := [Cond.code yX3_init cX3_init 1 none, Cond.methodLink RX3 1 objectInit, Cond.fieldLink RX3 7 "GroupDeskModel" "of" "[I", Cond.fieldLink RX3 13 "GroupDeskModel" "group" "[I", Cond.fieldLink RX3 16 "GroupDeskModel" "kind" "[I", Cond.fieldLink RX3 19 "GroupDeskModel" "value" "[I", Cond.fieldLink RX3 22 "GroupDeskModel" "rows" "I", Cond.fieldLink RX3 26 "GroupDeskModel" "from" "[I", Cond.fieldLink RX3 29 "GroupDeskModel" "numbers" "[I", Cond.methodLink RL 30 yX2_open, Cond.instanceMethod yX2_open, Cond.selects RX2 yX2_open yX2_open, Cond.code yX2_open cX2_open 1 (some .boolean), Cond.methodLink RX2 25 yX0_enter, Cond.instanceMethod yX0_enter, Cond.selects RX0 yX0_enter yX0_enter, Cond.code yX0_enter cX0_enter 1 (some .boolean), Cond.methodLink RL 34 yX3_open, Cond.instanceMethod yX3_open, Cond.selects RX3 yX3_open yX3_open, Cond.code yX3_open cX3_open 1 (some .boolean), Cond.fieldLink RX3 32 "GroupDeskModel" "thrown" "I", Cond.fieldLink RX3 35 "GroupDeskModel" "groups" "I", Cond.methodLink RL 35 yX2_close]
def wsL_law0_r4 : List Cond := [Cond.instanceMethod yX2_close, Cond.selects RX2 yX2_close yX2_close, Cond.code yX2_close cX2_close 1 (some .boolean), Cond.methodLink RX2 29 yX0_leave, Cond.instanceMethod yX0_leave, Cond.selects RX0 yX0_leave yX0_leave, Cond.code yX0_leave cX0_leave 2 (some .boolean), Cond.methodLink RX0 45 yX0_putBack, Cond.instanceMethod yX0_putBack, Cond.selects RX0 yX0_putBack yX0_putBack, Cond.code yX0_putBack cX0_putBack 3 none, Cond.methodLink RX0 62 yX0_untell, Cond.instanceMethod yX0_untell, Cond.selects RX0 yX0_untell yX0_untell, Cond.code yX0_untell cX0_untell 3 none, Cond.methodLink RX0 73 yX1_dropTeller, Cond.instanceMethod yX1_dropTeller, Cond.selects RX1 yX1_dropTeller yX1_dropTeller, Cond.code yX1_dropTeller cX1_dropTeller 2 none, Cond.methodLink RX1 37 yX1_isRow, Cond.instanceMethod yX1_isRow, Cond.selects RX1 yX1_isRow yX1_isRow, Cond.code yX1_isRow cX1_isRow 2 (some .boolean), Cond.methodLink RL 38 yX3_close]
def wsL_law0_r5 : List Cond := [Cond.instanceMethod yX3_close, Cond.selects RX3 yX3_close yX3_close, Cond.code yX3_close cX3_close 1 (some .boolean), Cond.methodLink RX3 41 yX3_drop, Cond.instanceMethod yX3_drop, Cond.selects RX3 yX3_drop yX3_drop, Cond.code yX3_drop cX3_drop 5 none, Cond.fieldLink RX3 38 "GroupDeskModel" "count" "I", Cond.methodLink RL 39 yX2_set, Cond.instanceMethod yX2_set, Cond.selects RX2 yX2_set yX2_set, Cond.code yX2_set cX2_set 4 (some .boolean), Cond.methodLink RX2 32 yX2_isCell, Cond.static yX2_isCell, Cond.code yX2_isCell cX2_isCell 1 (some .boolean), Cond.methodLink RX2 36 yX0_assign, Cond.instanceMethod yX0_assign, Cond.selects RX0 yX0_assign yX0_assign, Cond.code yX0_assign cX0_assign 5 none, Cond.methodLink RX0 41 yX0_isPlace, Cond.static yX0_isPlace, Cond.code yX0_isPlace cX0_isPlace 1 (some .boolean), Cond.methodLink RX0 49 yX0_tell, Cond.instanceMethod yX0_tell]
def wsL_law0_r6 : List Cond := [Cond.selects RX0 yX0_tell yX0_tell, Cond.code yX0_tell cX0_tell 3 none, Cond.methodLink RX0 68 yX1_addTeller, Cond.instanceMethod yX1_addTeller, Cond.selects RX1 yX1_addTeller yX1_addTeller, Cond.code yX1_addTeller cX1_addTeller 2 none, Cond.methodLink RX0 53 yX0_forgetSaved, Cond.instanceMethod yX0_forgetSaved, Cond.selects RX0 yX0_forgetSaved yX0_forgetSaved, Cond.code yX0_forgetSaved cX0_forgetSaved 4 none, Cond.methodLink RX0 65 yX0_moveSaved, Cond.instanceMethod yX0_moveSaved, Cond.selects RX0 yX0_moveSaved yX0_moveSaved, Cond.code yX0_moveSaved cX0_moveSaved 3 none, Cond.methodLink RX0 56 yX0_mustSave, Cond.instanceMethod yX0_mustSave, Cond.selects RX0 yX0_mustSave yX0_mustSave, Cond.code yX0_mustSave cX0_mustSave 3 (some .boolean), Cond.methodLink RX0 59 yX0_save, Cond.instanceMethod yX0_save, Cond.selects RX0 yX0_save yX0_save, Cond.code yX0_save cX0_save 2 none, Cond.methodLink RL 43 yX3_set, Cond.instanceMethod yX3_set]
def wsL_law0_r7 : List Cond := [Cond.selects RX3 yX3_set yX3_set, Cond.code yX3_set cX3_set 4 (some .boolean), Cond.methodLink RX3 49 yX3_isCell, Cond.static yX3_isCell, Cond.code yX3_isCell cX3_isCell 1 (some .boolean), Cond.methodLink RX3 53 yX3_assign, Cond.instanceMethod yX3_assign, Cond.selects RX3 yX3_assign yX3_assign, Cond.code yX3_assign cX3_assign 6 none, Cond.methodLink RL 44 yX2_mean, Cond.instanceMethod yX2_mean, Cond.selects RX2 yX2_mean yX2_mean, Cond.code yX2_mean cX2_mean 5 (some .boolean), Cond.methodLink RX2 40 yX2_isName, Cond.static yX2_isName, Cond.code yX2_isName cX2_isName 1 (some .boolean), Cond.methodLink RX2 43 yX2_isKindWithInt, Cond.static yX2_isKindWithInt, Cond.code yX2_isKindWithInt cX2_isKindWithInt 1 (some .boolean), Cond.methodLink RL 48 yX3_mean, Cond.instanceMethod yX3_mean, Cond.selects RX3 yX3_mean yX3_mean, Cond.code yX3_mean cX3_mean 5 (some .boolean), Cond.methodLink RX3 57 yX3_isName]
def wsL_law0_r8 : List Cond := [Cond.static yX3_isName, Cond.code yX3_isName cX3_isName 1 (some .boolean), Cond.methodLink RL 49 yX2_draft, Cond.instanceMethod yX2_draft, Cond.selects RX2 yX2_draft yX2_draft, Cond.code yX2_draft cX2_draft 2 (some .boolean), Cond.methodLink RX2 46 yX1_join, Cond.instanceMethod yX1_join, Cond.selects RX1 yX1_join yX1_join, Cond.code yX1_join cX1_join 3 (some .boolean), Cond.methodLink RL 53 yX3_draft, Cond.instanceMethod yX3_draft, Cond.selects RX3 yX3_draft yX3_draft, Cond.code yX3_draft cX3_draft 2 (some .boolean), Cond.fieldLink RX3 60 "GroupDeskModel" "drafted" "I", Cond.methodLink RL 54 yL_define, Cond.static yL_define, Cond.initialized RL, Cond.codeWith yL_define cL_define 5 (some .int) [(0, 10, 13, 13)], Cond.classLink RL 13 "java/lang/IndexOutOfBoundsException", Cond.methodLink RL 7 yX2_define, Cond.instanceMethod yX2_define, Cond.selects RX2 yX2_define yX2_define, Cond.code yX2_define cX2_define 4 (some .int)]
def wsL_law0_r9 : List Cond := [Cond.classLink RX2 49 "java/lang/IndexOutOfBoundsException", Cond.initialized "java/lang/IndexOutOfBoundsException", Cond.methodLink RX2 56 yX1_takeDraft, Cond.instanceMethod yX1_takeDraft, Cond.selects RX1 yX1_takeDraft yX1_takeDraft, Cond.code yX1_takeDraft cX1_takeDraft 2 (some .int), Cond.methodLink RX2 60 yX1_lengthOf, Cond.instanceMethod yX1_lengthOf, Cond.selects RX1 yX1_lengthOf yX1_lengthOf, Cond.code yX1_lengthOf cX1_lengthOf 2 (some .int), Cond.methodLink RL 59 yX3_define, Cond.instanceMethod yX3_define, Cond.selects RX3 yX3_define yX3_define, Cond.code yX3_define cX3_define 4 (some .int), Cond.methodLink RX3 63 yX3_fails, Cond.instanceMethod yX3_fails, Cond.selects RX3 yX3_fails yX3_fails, Cond.code yX3_fails cX3_fails 1 (some .int), Cond.methodLink RX3 67 yX3_taken, Cond.instanceMethod yX3_taken, Cond.selects RX3 yX3_taken yX3_taken, Cond.code yX3_taken cX3_taken 2 (some .int), Cond.methodLink RX3 70 yX3_size, Cond.instanceMethod yX3_size]
def wsL_law0_r10 : List Cond := [Cond.selects RX3 yX3_size yX3_size, Cond.code yX3_size cX3_size 2 (some .int), Cond.methodLink RL 60 yX3_thrown, Cond.instanceMethod yX3_thrown, Cond.selects RX3 yX3_thrown yX3_thrown, Cond.code yX3_thrown cX3_thrown 1 (some .int), Cond.methodLink RL 64 yX2_let, Cond.instanceMethod yX2_let, Cond.selects RX2 yX2_let yX2_let, Cond.code yX2_let cX2_let 5 (some .boolean), Cond.methodLink RX2 64 yX0_kindAt, Cond.instanceMethod yX0_kindAt, Cond.selects RX0 yX0_kindAt yX0_kindAt, Cond.code yX0_kindAt cX0_kindAt 2 (some .int), Cond.methodLink RX2 67 yX0_valueAt, Cond.instanceMethod yX0_valueAt, Cond.selects RX0 yX0_valueAt yX0_valueAt, Cond.code yX0_valueAt cX0_valueAt 2 (some .int), Cond.methodLink RL 67 yX3_let, Cond.instanceMethod yX3_let, Cond.selects RX3 yX3_let yX3_let, Cond.code yX3_let cX3_let 4 (some .boolean), Cond.methodLink RX3 73 yX3_kindOf, Cond.instanceMethod yX3_kindOf]
def wsL_law0_r11 : List Cond := [Cond.selects RX3 yX3_kindOf yX3_kindOf, Cond.code yX3_kindOf cX3_kindOf 3 (some .int), Cond.methodLink RX3 45 yX3_last, Cond.instanceMethod yX3_last, Cond.selects RX3 yX3_last yX3_last, Cond.code yX3_last cX3_last 4 (some .int), Cond.methodLink RX3 76 yX3_valueOf, Cond.instanceMethod yX3_valueOf, Cond.selects RX3 yX3_valueOf yX3_valueOf, Cond.code yX3_valueOf cX3_valueOf 3 (some .int), Cond.methodLink RL 68 yX2_shape, Cond.instanceMethod yX2_shape, Cond.selects RX2 yX2_shape yX2_shape, Cond.code yX2_shape cX2_shape 3 (some .int), Cond.methodLink RL 72 yX3_shape, Cond.instanceMethod yX3_shape, Cond.selects RX3 yX3_shape yX3_shape, Cond.code yX3_shape cX3_shape 3 (some .int), Cond.methodLink RL 73 yL_get, Cond.static yL_get, Cond.codeWith yL_get cL_get 4 (some .int) [(0, 9, 12, 13)], Cond.methodLink RL 15 yX2_get, Cond.instanceMethod yX2_get, Cond.selects RX2 yX2_get yX2_get]
def wsL_law0_r12 : List Cond := [Cond.code yX2_get cX2_get 2 (some .int), Cond.methodLink RL 76 yX3_get, Cond.instanceMethod yX3_get, Cond.selects RX3 yX3_get yX3_get, Cond.code yX3_get cX3_get 2 (some .int), Cond.methodLink RL 77 yL_about, Cond.static yL_about, Cond.codeWith yL_about cL_about 5 (some .int) [(0, 10, 13, 13)], Cond.methodLink RL 19 yX2_about, Cond.instanceMethod yX2_about, Cond.selects RX2 yX2_about yX2_about, Cond.code yX2_about cX2_about 5 (some .int), Cond.methodLink RL 80 yX3_about, Cond.instanceMethod yX3_about, Cond.selects RX3 yX3_about yX3_about, Cond.code yX3_about cX3_about 4 (some .int), Cond.methodLink RL 81 yL_number, Cond.static yL_number, Cond.codeWith yL_number cL_number 5 (some .int) [(0, 10, 13, 13)], Cond.methodLink RL 23 yX2_number, Cond.instanceMethod yX2_number, Cond.selects RX2 yX2_number yX2_number, Cond.code yX2_number cX2_number 4 (some .int), Cond.methodLink RX2 74 yX2_rowOf]
def wsL_law0_r13 : List Cond := [Cond.instanceMethod yX2_rowOf, Cond.selects RX2 yX2_rowOf yX2_rowOf, Cond.code yX2_rowOf cX2_rowOf 2 (some .int), Cond.methodLink RX2 77 yX1_has, Cond.instanceMethod yX1_has, Cond.selects RX1 yX1_has yX1_has, Cond.code yX1_has cX1_has 3 (some .boolean), Cond.methodLink RX1 41 yX1_lengthOf, Cond.methodLink RX2 83 yX1_numberAt, Cond.instanceMethod yX1_numberAt, Cond.selects RX1 yX1_numberAt yX1_numberAt, Cond.code yX1_numberAt cX1_numberAt 3 (some .int), Cond.methodLink RX1 45 yX1_has, Cond.methodLink RL 83 yX3_number, Cond.instanceMethod yX3_number, Cond.selects RX3 yX3_number yX3_number, Cond.code yX3_number cX3_number 5 (some .int), Cond.methodLink RL 84 yX2_count, Cond.instanceMethod yX2_count, Cond.selects RX2 yX2_count yX2_count, Cond.code yX2_count cX2_count 2 (some .int), Cond.methodLink RX2 87 yX0_depth, Cond.instanceMethod yX0_depth, Cond.selects RX0 yX0_depth yX0_depth]
def wsL_law0_r14 : List Cond := [Cond.code yX0_depth cX0_depth 1 (some .int), Cond.methodLink RX2 90 yX1_drafted, Cond.instanceMethod yX1_drafted, Cond.selects RX1 yX1_drafted yX1_drafted, Cond.code yX1_drafted cX1_drafted 1 (some .int), Cond.methodLink RX2 93 yX1_kept, Cond.instanceMethod yX1_kept, Cond.selects RX1 yX1_kept yX1_kept, Cond.code yX1_kept cX1_kept 1 (some .int), Cond.methodLink RL 87 yX3_count, Cond.instanceMethod yX3_count, Cond.selects RX3 yX3_count yX3_count, Cond.code yX3_count cX3_count 2 (some .int), Cond.methodLink RX3 79 yX3_kept, Cond.instanceMethod yX3_kept, Cond.selects RX3 yX3_kept yX3_kept, Cond.code yX3_kept cX3_kept 5 (some .int)]
def wsL_law0 : List Cond := (wsL_law0_r1 ++ (wsL_law0_r2 ++ (wsL_law0_r3 ++ (wsL_law0_r4 ++ (wsL_law0_r5 ++ (wsL_law0_r6 ++ (wsL_law0_r7 ++ (wsL_law0_r8 ++ (wsL_law0_r9 ++ (wsL_law0_r10 ++ (wsL_law0_r11 ++ (wsL_law0_r12 ++ (wsL_law0_r13 ++ wsL_law0_r14))))))))))))) ++ wsX20 ++ wsX30 ++ wsX10 ++ wsX00 ++ ([] : List Cond)
def wsL_law : List Cond := wsL_law0 ++ (vx_atS RX2 53 "java/lang/IndexOutOfBoundsException" ["java/lang/RuntimeException", "java/lang/Exception"]).filter goodWord
set_option maxRecDepth 20000 in
theorem wsL_law_in0 : ∀ w ∈ wsL_law0, w ∈ lw_tbl := fun w h => (goodIn_p wsL_law0 [32, 35, 40, 72, 353, 112, 116, 396, 120, 124, 128, 132, 136, 140, 400, 404, 144, 147, 151, 154, 158, 162, 166, 170, 174, 178, 408, 411, 415, 182, 185, 188, 419, 422, 192, 196, 426, 244, 216, 220, 430, 434, 438, 442, 392, 200, 204, 208, 446, 450, 454, 458, 212, 462, 317, 466, 325, 470, 333, 337, 341, 347, 474, 224, 228, 232, 236, 478, 482] (by decide +kernel) (by decide +kernel) w h).1
theorem wsL_law_x0 : ∀ w ∈ (vx_atS RX2 53 "java/lang/IndexOutOfBoundsException" ["java/lang/RuntimeException", "java/lang/Exception"]).filter goodWord, w ∈ lw_tbl := by decide +kernel
theorem wsL_law_in : ∀ w ∈ wsL_law, w ∈ lw_tbl := fun w h => (List.mem_append.mp h).elim (fun h => wsL_law_in0 w h) (fun h => wsL_law_x0 w h)
theorem inlX0 : ∀ w ∈ wsX00, w ∈ wsL_law := fun _ h => List.mem_append_left _ (List.mem_append_left _ (List.mem_append_right _ h))
theorem inX0 : ∀ w ∈ wsX00, w ∈ lw_tbl := fun w h => wsL_law_in w (inlX0 w h)
theorem inlX1 : ∀ w ∈ wsX10, w ∈ wsL_law := fun _ h => List.mem_append_left _ (List.mem_append_left _ (List.mem_append_left _ (List.mem_append_right _ h)))
theorem inX1 : ∀ w ∈ wsX10, w ∈ lw_tbl := fun w h => wsL_law_in w (inlX1 w h)
theorem inlX2 : ∀ w ∈ wsX20, w ∈ wsL_law := fun _ h => List.mem_append_left _ (List.mem_append_left _ (List.mem_append_left _ (List.mem_append_left _ (List.mem_append_left _ (List.mem_append_right _ h)))))
theorem inX2 : ∀ w ∈ wsX20, w ∈ lw_tbl := fun w h => wsL_law_in w (inlX2 w h)
theorem inlX3 : ∀ w ∈ wsX30, w ∈ wsL_law := fun _ h => List.mem_append_left _ (List.mem_append_left _ (List.mem_append_left _ (List.mem_append_left _ (List.mem_append_right _ h))))
theorem inX3 : ∀ w ∈ wsX30, w ∈ lw_tbl := fun w h => wsL_law_in w (inlX3 w h)
theorem inJ0 : ∀ w ∈ wsJ00, w ∈ lw_tbl := by decide +kernel
end
section
theorem dX0_init_0 : decode cX0_init 0 = .ok (.aload_n 0, 1) := by decide +kernel
theorem dX0_init_1 : decode cX0_init 1 = .ok (.invokespecial 3, 3) := by decide +kernel
theorem dX0_init_4 : decode cX0_init 4 = .ok (.aload_n 0, 1) := by decide +kernel
theorem dX0_init_5 : decode cX0_init 5 = .ok (.sipush 3367, 3) := by decide +kernel
theorem dX0_init_8 : decode cX0_init 8 = .ok (.newarray .int, 2) := by decide +kernel
theorem dX0_init_10 : decode cX0_init 10 = .ok (.putfield 9, 3) := by decide +kernel
theorem dX0_init_13 : decode cX0_init 13 = .ok (.aload_n 0, 1) := by decide +kernel
theorem dX0_init_14 : decode cX0_init 14 = .ok (.sipush 3367, 3) := by decide +kernel
theorem dX0_init_17 : decode cX0_init 17 = .ok (.newarray .int, 2) := by decide +kernel
theorem dX0_init_19 : decode cX0_init 19 = .ok (.putfield 15, 3) := by decide +kernel
theorem dX0_init_22 : decode cX0_init 22 = .ok (.aload_n 0, 1) := by decide +kernel
theorem dX0_init_23 : decode cX0_init 23 = .ok (.sipush 512, 3) := by decide +kernel
theorem dX0_init_26 : decode cX0_init 26 = .ok (.newarray .int, 2) := by decide +kernel
theorem dX0_init_28 : decode cX0_init 28 = .ok (.putfield 18, 3) := by decide +kernel
theorem dX0_init_31 : decode cX0_init 31 = .ok (.aload_n 0, 1) := by decide +kernel
theorem dX0_init_32 : decode cX0_init 32 = .ok (.sipush 512, 3) := by decide +kernel
theorem dX0_init_35 : decode cX0_init 35 = .ok (.newarray .int, 2) := by decide +kernel
theorem dX0_init_37 : decode cX0_init 37 = .ok (.putfield 21, 3) := by decide +kernel
theorem dX0_init_40 : decode cX0_init 40 = .ok (.aload_n 0, 1) := by decide +kernel
theorem dX0_init_41 : decode cX0_init 41 = .ok (.sipush 512, 3) := by decide +kernel
theorem dX0_init_44 : decode cX0_init 44 = .ok (.newarray .int, 2) := by decide +kernel
theorem dX0_init_46 : decode cX0_init 46 = .ok (.putfield 24, 3) := by decide +kernel
theorem dX0_init_49 : decode cX0_init 49 = .ok (.aload_n 0, 1) := by decide +kernel
theorem dX0_init_50 : decode cX0_init 50 = .ok (.sipush 512, 3) := by decide +kernel
theorem dX0_init_53 : decode cX0_init 53 = .ok (.newarray .int, 2) := by decide +kernel
theorem dX0_init_55 : decode cX0_init 55 = .ok (.putfield 27, 3) := by decide +kernel
theorem dX0_init_58 : decode cX0_init 58 = .ok (.aload_n 0, 1) := by decide +kernel
theorem dX0_init_59 : decode cX0_init 59 = .ok (.iconst 0, 1) := by decide +kernel
theorem dX0_init_60 : decode cX0_init 60 = .ok (.putfield 30, 3) := by decide +kernel
theorem dX0_init_63 : decode cX0_init 63 = .ok (.aload_n 0, 1) := by decide +kernel
theorem dX0_init_64 : decode cX0_init 64 = .ok (.iconst 0, 1) := by decide +kernel
theorem dX0_init_65 : decode cX0_init 65 = .ok (.putfield 34, 3) := by decide +kernel
theorem dX0_init_68 : decode cX0_init 68 = .ok (.aload_n 0, 1) := by decide +kernel
theorem dX0_init_69 : decode cX0_init 69 = .ok (.aload_n 1, 1) := by decide +kernel
theorem dX0_init_70 : decode cX0_init 70 = .ok (.putfield 37, 3) := by decide +kernel
theorem dX0_init_73 : decode cX0_init 73 = .ok (.return_, 1) := by decide +kernel
theorem dX0_depth_0 : decode cX0_depth 0 = .ok (.aload_n 0, 1) := by decide +kernel
theorem dX0_depth_1 : decode cX0_depth 1 = .ok (.getfield 34, 3) := by decide +kernel
theorem dX0_depth_4 : decode cX0_depth 4 = .ok (.ireturn, 1) := by decide +kernel
set_option maxRecDepth 20000 in
theorem ggX0_kindAt_X0_isPlace : GoodIn wsX0_kindAt wsX0_isPlace := goodIn_r _ [5] (by decide +kernel) (by decide +kernel)
set_option maxRecDepth 20000 in
theorem gX0_kindAt_X0_isPlace : GoodIn wsX0_kindAt (va_wsS RX0 41 yX0_isPlace wsX0_isPlace) := goodIn_app (goodIn_of _ (by decide +kernel)) ggX0_kindAt_X0_isPlace
theorem dX0_kindAt_0 : decode cX0_kindAt 0 = .ok (.iload_n 1, 1) := by decide +kernel
theorem dX0_kindAt_1 : decode cX0_kindAt 1 = .ok (.invokestatic 41, 3) := by decide +kernel
theorem dX0_kindAt_4 : decode cX0_kindAt 4 = .ok (.ifCond .eq 12, 3) := by decide +kernel
theorem dX0_kindAt_7 : decode cX0_kindAt 7 = .ok (.aload_n 0, 1) := by decide +kernel
theorem dX0_kindAt_8 : decode cX0_kindAt 8 = .ok (.getfield 9, 3) := by decide +kernel
theorem dX0_kindAt_11 : decode cX0_kindAt 11 = .ok (.iload_n 1, 1) := by decide +kernel
theorem dX0_kindAt_12 : decode cX0_kindAt 12 = .ok (.iaload, 1) := by decide +kernel
theorem dX0_kindAt_13 : decode cX0_kindAt 13 = .ok (.goto 4, 3) := by decide +kernel
theorem dX0_kindAt_16 : decode cX0_kindAt 16 = .ok (.iconst 0, 1) := by decide +kernel
theorem dX0_kindAt_17 : decode cX0_kindAt 17 = .ok (.ireturn, 1) := by decide +kernel
set_option maxRecDepth 20000 in
theorem ggX0_valueAt_X0_isPlace : GoodIn wsX0_valueAt wsX0_isPlace := goodIn_r _ [5] (by decide +kernel) (by decide +kernel)
set_option maxRecDepth 20000 in
theorem gX0_valueAt_X0_isPlace : GoodIn wsX0_valueAt (va_wsS RX0 41 yX0_isPlace wsX0_isPlace) := goodIn_app (goodIn_of _ (by decide +kernel)) ggX0_valueAt_X0_isPlace
theorem dX0_valueAt_0 : decode cX0_valueAt 0 = .ok (.iload_n 1, 1) := by decide +kernel
theorem dX0_valueAt_1 : decode cX0_valueAt 1 = .ok (.invokestatic 41, 3) := by decide +kernel
theorem dX0_valueAt_4 : decode cX0_valueAt 4 = .ok (.ifCond .eq 12, 3) := by decide +kernel
theorem dX0_valueAt_7 : decode cX0_valueAt 7 = .ok (.aload_n 0, 1) := by decide +kernel
theorem dX0_valueAt_8 : decode cX0_valueAt 8 = .ok (.getfield 15, 3) := by decide +kernel
theorem dX0_valueAt_11 : decode cX0_valueAt 11 = .ok (.iload_n 1, 1) := by decide +kernel
theorem dX0_valueAt_12 : decode cX0_valueAt 12 = .ok (.iaload, 1) := by decide +kernel
theorem dX0_valueAt_13 : decode cX0_valueAt 13 = .ok (.goto 4, 3) := by decide +kernel
theorem dX0_valueAt_16 : decode cX0_valueAt 16 = .ok (.iconst 0, 1) := by decide +kernel
theorem dX0_valueAt_17 : decode cX0_valueAt 17 = .ok (.ireturn, 1) := by decide +kernel
theorem dX0_enter_0 : decode cX0_enter 0 = .ok (.aload_n 0, 1) := by decide +kernel
theorem dX0_enter_1 : decode cX0_enter 1 = .ok (.getfield 34, 3) := by decide +kernel
theorem dX0_enter_4 : decode cX0_enter 4 = .ok (.sipush 200, 3) := by decide +kernel
theorem dX0_enter_7 : decode cX0_enter 7 = .ok (.if_icmp .lt 5, 3) := by decide +kernel
theorem dX0_enter_10 : decode cX0_enter 10 = .ok (.iconst 0, 1) := by decide +kernel
theorem dX0_enter_11 : decode cX0_enter 11 = .ok (.ireturn, 1) := by decide +kernel
theorem dX0_enter_12 : decode cX0_enter 12 = .ok (.aload_n 0, 1) := by decide +kernel
theorem dX0_enter_13 : decode cX0_enter 13 = .ok (.dup, 1) := by decide +kernel
theorem dX0_enter_14 : decode cX0_enter 14 = .ok (.getfield 34, 3) := by decide +kernel
theorem dX0_enter_17 : decode cX0_enter 17 = .ok (.iconst 1, 1) := by decide +kernel
theorem dX0_enter_18 : decode cX0_enter 18 = .ok (.iadd, 1) := by decide +kernel
theorem dX0_enter_19 : decode cX0_enter 19 = .ok (.putfield 34, 3) := by decide +kernel
theorem dX0_enter_22 : decode cX0_enter 22 = .ok (.iconst 1, 1) := by decide +kernel
theorem dX0_enter_23 : decode cX0_enter 23 = .ok (.ireturn, 1) := by decide +kernel
set_option maxRecDepth 20000 in
theorem ggX0_leave_X0_putBack : GoodIn wsX0_leave wsX0_putBack := goodIn_r _ [8, 9, 10, 11, 12, 13, 14, 15, 16, 7, 17, 18, 19, 20, 21, 22, 23, 24, 25, 26, 27, 28, 29, 30, 31, 32, 33, 34, 35, 36, 37, 38, 39, 40, 41, 42, 43, 44, 45, 46, 47, 48] (by decide +kernel) (by decide +kernel)
set_option maxRecDepth 20000 in
theorem gX0_leave_X0_putBack : GoodIn wsX0_leave (wsV RX0 45 RX0 yX0_putBack wsX0_putBack) := goodIn_app (goodIn_of _ (by decide +kernel)) ggX0_leave_X0_putBack
theorem dX0_leave_0 : decode cX0_leave 0 = .ok (.aload_n 0, 1) := by decide +kernel
theorem dX0_leave_1 : decode cX0_leave 1 = .ok (.getfield 34, 3) := by decide +kernel
theorem dX0_leave_4 : decode cX0_leave 4 = .ok (.ifCond .ne 5, 3) := by decide +kernel
theorem dX0_leave_7 : decode cX0_leave 7 = .ok (.iconst 0, 1) := by decide +kernel
theorem dX0_leave_8 : decode cX0_leave 8 = .ok (.ireturn, 1) := by decide +kernel
theorem dX0_leave_9 : decode cX0_leave 9 = .ok (.aload_n 0, 1) := by decide +kernel
theorem dX0_leave_10 : decode cX0_leave 10 = .ok (.getfield 30, 3) := by decide +kernel
theorem dX0_leave_13 : decode cX0_leave 13 = .ok (.istore_n 1, 1) := by decide +kernel
theorem dX0_leave_14 : decode cX0_leave 14 = .ok (.iload_n 1, 1) := by decide +kernel
theorem dX0_leave_15 : decode cX0_leave 15 = .ok (.ifCond .le 31, 3) := by decide +kernel
theorem dX0_leave_18 : decode cX0_leave 18 = .ok (.aload_n 0, 1) := by decide +kernel
theorem dX0_leave_19 : decode cX0_leave 19 = .ok (.getfield 21, 3) := by decide +kernel
theorem dX0_leave_22 : decode cX0_leave 22 = .ok (.iload_n 1, 1) := by decide +kernel
theorem dX0_leave_23 : decode cX0_leave 23 = .ok (.iconst 1, 1) := by decide +kernel
theorem dX0_leave_24 : decode cX0_leave 24 = .ok (.isub, 1) := by decide +kernel
theorem dX0_leave_25 : decode cX0_leave 25 = .ok (.iaload, 1) := by decide +kernel
theorem dX0_leave_26 : decode cX0_leave 26 = .ok (.aload_n 0, 1) := by decide +kernel
theorem dX0_leave_27 : decode cX0_leave 27 = .ok (.getfield 34, 3) := by decide +kernel
theorem dX0_leave_30 : decode cX0_leave 30 = .ok (.if_icmp .ne 16, 3) := by decide +kernel
theorem dX0_leave_33 : decode cX0_leave 33 = .ok (.aload_n 0, 1) := by decide +kernel
theorem dX0_leave_34 : decode cX0_leave 34 = .ok (.iload_n 1, 1) := by decide +kernel
theorem dX0_leave_35 : decode cX0_leave 35 = .ok (.iconst 1, 1) := by decide +kernel
theorem dX0_leave_36 : decode cX0_leave 36 = .ok (.isub, 1) := by decide +kernel
theorem dX0_leave_37 : decode cX0_leave 37 = .ok (.invokevirtual 45, 3) := by decide +kernel
theorem dX0_leave_40 : decode cX0_leave 40 = .ok (.iinc 1 (-1), 3) := by decide +kernel
theorem dX0_leave_43 : decode cX0_leave 43 = .ok (.goto (-29), 3) := by decide +kernel
theorem dX0_leave_46 : decode cX0_leave 46 = .ok (.aload_n 0, 1) := by decide +kernel
theorem dX0_leave_47 : decode cX0_leave 47 = .ok (.iload_n 1, 1) := by decide +kernel
theorem dX0_leave_48 : decode cX0_leave 48 = .ok (.putfield 30, 3) := by decide +kernel
theorem dX0_leave_51 : decode cX0_leave 51 = .ok (.aload_n 0, 1) := by decide +kernel
theorem dX0_leave_52 : decode cX0_leave 52 = .ok (.dup, 1) := by decide +kernel
theorem dX0_leave_53 : decode cX0_leave 53 = .ok (.getfield 34, 3) := by decide +kernel
theorem dX0_leave_56 : decode cX0_leave 56 = .ok (.iconst 1, 1) := by decide +kernel
theorem dX0_leave_57 : decode cX0_leave 57 = .ok (.isub, 1) := by decide +kernel
theorem dX0_leave_58 : decode cX0_leave 58 = .ok (.putfield 34, 3) := by decide +kernel
theorem dX0_leave_61 : decode cX0_leave 61 = .ok (.iconst 1, 1) := by decide +kernel
theorem dX0_leave_62 : decode cX0_leave 62 = .ok (.ireturn, 1) := by decide +kernel
set_option maxRecDepth 20000 in
theorem ggX0_assign_X0_isPlace : GoodIn wsX0_assign wsX0_isPlace := goodIn_r _ [6] (by decide +kernel) (by decide +kernel)
set_option maxRecDepth 20000 in
theorem gX0_assign_X0_isPlace : GoodIn wsX0_assign (va_wsS RX0 41 yX0_isPlace wsX0_isPlace) := goodIn_app (goodIn_of _ (by decide +kernel)) ggX0_assign_X0_isPlace
set_option maxRecDepth 20000 in
theorem ggX0_assign_X0_tell : GoodIn wsX0_assign wsX0_tell := goodIn_r _ [10, 11, 12, 13, 14, 15, 16, 17, 18, 19, 20, 21, 22, 23, 24, 55, 56, 57, 58, 59, 60, 61, 62, 63, 64, 65, 66, 67, 68, 69, 70, 71] (by decide +kernel) (by decide +kernel)
set_option maxRecDepth 20000 in
theorem gX0_assign_X0_tell : GoodIn wsX0_assign (wsV RX0 49 RX0 yX0_tell wsX0_tell) := goodIn_app (goodIn_of _ (by decide +kernel)) ggX0_assign_X0_tell
set_option maxRecDepth 20000 in
theorem ggX0_assign_X0_forgetSaved : GoodIn wsX0_assign wsX0_forgetSaved := goodIn_r _ [28, 29, 30, 31, 32, 33, 34, 35, 5, 36, 11, 37, 38, 39, 15, 40, 17, 18, 19, 20, 21, 22, 23, 24, 41, 42, 43, 44, 45, 55, 56, 57, 58, 59, 60, 61, 62, 63, 64, 65, 66, 67, 68, 69, 70, 71] (by decide +kernel) (by decide +kernel)
set_option maxRecDepth 20000 in
theorem gX0_assign_X0_forgetSaved : GoodIn wsX0_assign (wsV RX0 53 RX0 yX0_forgetSaved wsX0_forgetSaved) := goodIn_app (goodIn_of _ (by decide +kernel)) ggX0_assign_X0_forgetSaved
set_option maxRecDepth 20000 in
theorem ggX0_assign_X0_mustSave : GoodIn wsX0_assign wsX0_mustSave := goodIn_r _ [49, 50, 29, 30, 45, 55, 56, 57, 58, 59, 60, 61, 62, 63] (by decide +kernel) (by decide +kernel)
set_option maxRecDepth 20000 in
theorem gX0_assign_X0_mustSave : GoodIn wsX0_assign (wsV RX0 56 RX0 yX0_mustSave wsX0_mustSave) := goodIn_app (goodIn_of _ (by decide +kernel)) ggX0_assign_X0_mustSave
set_option maxRecDepth 20000 in
theorem ggX0_assign_X0_save : GoodIn wsX0_assign wsX0_save := goodIn_r _ [54, 30, 29, 45, 50, 31, 1, 32, 2, 55, 56, 57, 58, 59, 60, 61, 62, 63] (by decide +kernel) (by decide +kernel)
set_option maxRecDepth 20000 in
theorem gX0_assign_X0_save : GoodIn wsX0_assign (wsV RX0 59 RX0 yX0_save wsX0_save) := goodIn_app (goodIn_of _ (by decide +kernel)) ggX0_assign_X0_save
set_option maxRecDepth 20000 in
theorem ggX0_assign_X0_untell : GoodIn wsX0_assign wsX0_untell := goodIn_r _ [36, 11, 37, 38, 39, 15, 40, 17, 18, 19, 20, 21, 22, 23, 24, 55, 56, 57, 58, 59, 60, 61, 62, 63, 64, 65, 66, 67, 68, 69, 70, 71] (by decide +kernel) (by decide +kernel)
set_option maxRecDepth 20000 in
theorem gX0_assign_X0_untell : GoodIn wsX0_assign (wsV RX0 62 RX0 yX0_untell wsX0_untell) := goodIn_app (goodIn_of _ (by decide +kernel)) ggX0_assign_X0_untell
theorem dX0_assign_0 : decode cX0_assign 0 = .ok (.iload_n 1, 1) := by decide +kernel
theorem dX0_assign_1 : decode cX0_assign 1 = .ok (.invokestatic 41, 3) := by decide +kernel
theorem dX0_assign_4 : decode cX0_assign 4 = .ok (.ifCond .ne 4, 3) := by decide +kernel
theorem dX0_assign_7 : decode cX0_assign 7 = .ok (.return_, 1) := by decide +kernel
theorem dX0_assign_8 : decode cX0_assign 8 = .ok (.aload_n 0, 1) := by decide +kernel
theorem dX0_assign_9 : decode cX0_assign 9 = .ok (.iload_n 2, 1) := by decide +kernel
theorem dX0_assign_10 : decode cX0_assign 10 = .ok (.iload_n 3, 1) := by decide +kernel
theorem dX0_assign_11 : decode cX0_assign 11 = .ok (.invokevirtual 49, 3) := by decide +kernel
theorem dX0_assign_14 : decode cX0_assign 14 = .ok (.iload 4, 2) := by decide +kernel
theorem dX0_assign_16 : decode cX0_assign 16 = .ok (.ifCond .eq 8, 3) := by decide +kernel
theorem dX0_assign_19 : decode cX0_assign 19 = .ok (.aload_n 0, 1) := by decide +kernel
theorem dX0_assign_20 : decode cX0_assign 20 = .ok (.iload_n 1, 1) := by decide +kernel
theorem dX0_assign_21 : decode cX0_assign 21 = .ok (.invokevirtual 53, 3) := by decide +kernel
theorem dX0_assign_24 : decode cX0_assign 24 = .ok (.iload 4, 2) := by decide +kernel
theorem dX0_assign_26 : decode cX0_assign 26 = .ok (.ifCond .ne 19, 3) := by decide +kernel
theorem dX0_assign_29 : decode cX0_assign 29 = .ok (.aload_n 0, 1) := by decide +kernel
theorem dX0_assign_30 : decode cX0_assign 30 = .ok (.iload_n 1, 1) := by decide +kernel
theorem dX0_assign_31 : decode cX0_assign 31 = .ok (.invokevirtual 56, 3) := by decide +kernel
theorem dX0_assign_34 : decode cX0_assign 34 = .ok (.ifCond .eq 11, 3) := by decide +kernel
theorem dX0_assign_37 : decode cX0_assign 37 = .ok (.aload_n 0, 1) := by decide +kernel
theorem dX0_assign_38 : decode cX0_assign 38 = .ok (.iload_n 1, 1) := by decide +kernel
theorem dX0_assign_39 : decode cX0_assign 39 = .ok (.invokevirtual 59, 3) := by decide +kernel
theorem dX0_assign_42 : decode cX0_assign 42 = .ok (.goto 19, 3) := by decide +kernel
theorem dX0_assign_45 : decode cX0_assign 45 = .ok (.aload_n 0, 1) := by decide +kernel
theorem dX0_assign_46 : decode cX0_assign 46 = .ok (.aload_n 0, 1) := by decide +kernel
theorem dX0_assign_47 : decode cX0_assign 47 = .ok (.getfield 9, 3) := by decide +kernel
theorem dX0_assign_50 : decode cX0_assign 50 = .ok (.iload_n 1, 1) := by decide +kernel
theorem dX0_assign_51 : decode cX0_assign 51 = .ok (.iaload, 1) := by decide +kernel
theorem dX0_assign_52 : decode cX0_assign 52 = .ok (.aload_n 0, 1) := by decide +kernel
theorem dX0_assign_53 : decode cX0_assign 53 = .ok (.getfield 15, 3) := by decide +kernel
theorem dX0_assign_56 : decode cX0_assign 56 = .ok (.iload_n 1, 1) := by decide +kernel
theorem dX0_assign_57 : decode cX0_assign 57 = .ok (.iaload, 1) := by decide +kernel
theorem dX0_assign_58 : decode cX0_assign 58 = .ok (.invokevirtual 62, 3) := by decide +kernel
theorem dX0_assign_61 : decode cX0_assign 61 = .ok (.aload_n 0, 1) := by decide +kernel
theorem dX0_assign_62 : decode cX0_assign 62 = .ok (.getfield 9, 3) := by decide +kernel
theorem dX0_assign_65 : decode cX0_assign 65 = .ok (.iload_n 1, 1) := by decide +kernel
theorem dX0_assign_66 : decode cX0_assign 66 = .ok (.iload_n 2, 1) := by decide +kernel
theorem dX0_assign_67 : decode cX0_assign 67 = .ok (.iastore, 1) := by decide +kernel
theorem dX0_assign_68 : decode cX0_assign 68 = .ok (.aload_n 0, 1) := by decide +kernel
theorem dX0_assign_69 : decode cX0_assign 69 = .ok (.getfield 15, 3) := by decide +kernel
theorem dX0_assign_72 : decode cX0_assign 72 = .ok (.iload_n 1, 1) := by decide +kernel
theorem dX0_assign_73 : decode cX0_assign 73 = .ok (.iload_n 3, 1) := by decide +kernel
theorem dX0_assign_74 : decode cX0_assign 74 = .ok (.iastore, 1) := by decide +kernel
theorem dX0_assign_75 : decode cX0_assign 75 = .ok (.return_, 1) := by decide +kernel
theorem dX0_isPlace_0 : decode cX0_isPlace 0 = .ok (.iload_n 0, 1) := by decide +kernel
theorem dX0_isPlace_1 : decode cX0_isPlace 1 = .ok (.ifCond .lt 14, 3) := by decide +kernel
theorem dX0_isPlace_4 : decode cX0_isPlace 4 = .ok (.iload_n 0, 1) := by decide +kernel
theorem dX0_isPlace_5 : decode cX0_isPlace 5 = .ok (.sipush 3367, 3) := by decide +kernel
theorem dX0_isPlace_8 : decode cX0_isPlace 8 = .ok (.if_icmp .ge 7, 3) := by decide +kernel
theorem dX0_isPlace_11 : decode cX0_isPlace 11 = .ok (.iconst 1, 1) := by decide +kernel
theorem dX0_isPlace_12 : decode cX0_isPlace 12 = .ok (.goto 4, 3) := by decide +kernel
theorem dX0_isPlace_15 : decode cX0_isPlace 15 = .ok (.iconst 0, 1) := by decide +kernel
theorem dX0_isPlace_16 : decode cX0_isPlace 16 = .ok (.ireturn, 1) := by decide +kernel
theorem dX0_mustSave_0 : decode cX0_mustSave 0 = .ok (.aload_n 0, 1) := by decide +kernel
theorem dX0_mustSave_1 : decode cX0_mustSave 1 = .ok (.getfield 34, 3) := by decide +kernel
theorem dX0_mustSave_4 : decode cX0_mustSave 4 = .ok (.ifCond .eq 15, 3) := by decide +kernel
theorem dX0_mustSave_7 : decode cX0_mustSave 7 = .ok (.aload_n 0, 1) := by decide +kernel
theorem dX0_mustSave_8 : decode cX0_mustSave 8 = .ok (.getfield 30, 3) := by decide +kernel
theorem dX0_mustSave_11 : decode cX0_mustSave 11 = .ok (.aload_n 0, 1) := by decide +kernel
theorem dX0_mustSave_12 : decode cX0_mustSave 12 = .ok (.getfield 18, 3) := by decide +kernel
theorem dX0_mustSave_15 : decode cX0_mustSave 15 = .ok (.arraylength, 1) := by decide +kernel
theorem dX0_mustSave_16 : decode cX0_mustSave 16 = .ok (.if_icmp .lt 5, 3) := by decide +kernel
theorem dX0_mustSave_19 : decode cX0_mustSave 19 = .ok (.iconst 0, 1) := by decide +kernel
theorem dX0_mustSave_20 : decode cX0_mustSave 20 = .ok (.ireturn, 1) := by decide +kernel
theorem dX0_mustSave_21 : decode cX0_mustSave 21 = .ok (.aload_n 0, 1) := by decide +kernel
theorem dX0_mustSave_22 : decode cX0_mustSave 22 = .ok (.getfield 30, 3) := by decide +kernel
theorem dX0_mustSave_25 : decode cX0_mustSave 25 = .ok (.iconst 1, 1) := by decide +kernel
theorem dX0_mustSave_26 : decode cX0_mustSave 26 = .ok (.isub, 1) := by decide +kernel
theorem dX0_mustSave_27 : decode cX0_mustSave 27 = .ok (.istore_n 2, 1) := by decide +kernel
theorem dX0_mustSave_28 : decode cX0_mustSave 28 = .ok (.iload_n 2, 1) := by decide +kernel
theorem dX0_mustSave_29 : decode cX0_mustSave 29 = .ok (.ifCond .lt 34, 3) := by decide +kernel
theorem dX0_mustSave_32 : decode cX0_mustSave 32 = .ok (.aload_n 0, 1) := by decide +kernel
theorem dX0_mustSave_33 : decode cX0_mustSave 33 = .ok (.getfield 21, 3) := by decide +kernel
theorem dX0_mustSave_36 : decode cX0_mustSave 36 = .ok (.iload_n 2, 1) := by decide +kernel
theorem dX0_mustSave_37 : decode cX0_mustSave 37 = .ok (.iaload, 1) := by decide +kernel
theorem dX0_mustSave_38 : decode cX0_mustSave 38 = .ok (.aload_n 0, 1) := by decide +kernel
theorem dX0_mustSave_39 : decode cX0_mustSave 39 = .ok (.getfield 34, 3) := by decide +kernel
theorem dX0_mustSave_42 : decode cX0_mustSave 42 = .ok (.if_icmp .ne 21, 3) := by decide +kernel
theorem dX0_mustSave_45 : decode cX0_mustSave 45 = .ok (.aload_n 0, 1) := by decide +kernel
theorem dX0_mustSave_46 : decode cX0_mustSave 46 = .ok (.getfield 18, 3) := by decide +kernel
theorem dX0_mustSave_49 : decode cX0_mustSave 49 = .ok (.iload_n 2, 1) := by decide +kernel
theorem dX0_mustSave_50 : decode cX0_mustSave 50 = .ok (.iaload, 1) := by decide +kernel
theorem dX0_mustSave_51 : decode cX0_mustSave 51 = .ok (.iload_n 1, 1) := by decide +kernel
theorem dX0_mustSave_52 : decode cX0_mustSave 52 = .ok (.if_icmp .ne 5, 3) := by decide +kernel
theorem dX0_mustSave_55 : decode cX0_mustSave 55 = .ok (.iconst 0, 1) := by decide +kernel
theorem dX0_mustSave_56 : decode cX0_mustSave 56 = .ok (.ireturn, 1) := by decide +kernel
theorem dX0_mustSave_57 : decode cX0_mustSave 57 = .ok (.iinc 2 (-1), 3) := by decide +kernel
theorem dX0_mustSave_60 : decode cX0_mustSave 60 = .ok (.goto (-32), 3) := by decide +kernel
theorem dX0_mustSave_63 : decode cX0_mustSave 63 = .ok (.iconst 1, 1) := by decide +kernel
theorem dX0_mustSave_64 : decode cX0_mustSave 64 = .ok (.ireturn, 1) := by decide +kernel
theorem dX0_save_0 : decode cX0_save 0 = .ok (.aload_n 0, 1) := by decide +kernel
theorem dX0_save_1 : decode cX0_save 1 = .ok (.getfield 18, 3) := by decide +kernel
theorem dX0_save_4 : decode cX0_save 4 = .ok (.aload_n 0, 1) := by decide +kernel
theorem dX0_save_5 : decode cX0_save 5 = .ok (.getfield 30, 3) := by decide +kernel
theorem dX0_save_8 : decode cX0_save 8 = .ok (.iload_n 1, 1) := by decide +kernel
theorem dX0_save_9 : decode cX0_save 9 = .ok (.iastore, 1) := by decide +kernel
theorem dX0_save_10 : decode cX0_save 10 = .ok (.aload_n 0, 1) := by decide +kernel
theorem dX0_save_11 : decode cX0_save 11 = .ok (.getfield 21, 3) := by decide +kernel
theorem dX0_save_14 : decode cX0_save 14 = .ok (.aload_n 0, 1) := by decide +kernel
theorem dX0_save_15 : decode cX0_save 15 = .ok (.getfield 30, 3) := by decide +kernel
theorem dX0_save_18 : decode cX0_save 18 = .ok (.aload_n 0, 1) := by decide +kernel
theorem dX0_save_19 : decode cX0_save 19 = .ok (.getfield 34, 3) := by decide +kernel
theorem dX0_save_22 : decode cX0_save 22 = .ok (.iastore, 1) := by decide +kernel
theorem dX0_save_23 : decode cX0_save 23 = .ok (.aload_n 0, 1) := by decide +kernel
theorem dX0_save_24 : decode cX0_save 24 = .ok (.getfield 24, 3) := by decide +kernel
theorem dX0_save_27 : decode cX0_save 27 = .ok (.aload_n 0, 1) := by decide +kernel
theorem dX0_save_28 : decode cX0_save 28 = .ok (.getfield 30, 3) := by decide +kernel
theorem dX0_save_31 : decode cX0_save 31 = .ok (.aload_n 0, 1) := by decide +kernel
theorem dX0_save_32 : decode cX0_save 32 = .ok (.getfield 9, 3) := by decide +kernel
theorem dX0_save_35 : decode cX0_save 35 = .ok (.iload_n 1, 1) := by decide +kernel
theorem dX0_save_36 : decode cX0_save 36 = .ok (.iaload, 1) := by decide +kernel
theorem dX0_save_37 : decode cX0_save 37 = .ok (.iastore, 1) := by decide +kernel
theorem dX0_save_38 : decode cX0_save 38 = .ok (.aload_n 0, 1) := by decide +kernel
theorem dX0_save_39 : decode cX0_save 39 = .ok (.getfield 27, 3) := by decide +kernel
theorem dX0_save_42 : decode cX0_save 42 = .ok (.aload_n 0, 1) := by decide +kernel
theorem dX0_save_43 : decode cX0_save 43 = .ok (.getfield 30, 3) := by decide +kernel
theorem dX0_save_46 : decode cX0_save 46 = .ok (.aload_n 0, 1) := by decide +kernel
theorem dX0_save_47 : decode cX0_save 47 = .ok (.getfield 15, 3) := by decide +kernel
theorem dX0_save_50 : decode cX0_save 50 = .ok (.iload_n 1, 1) := by decide +kernel
theorem dX0_save_51 : decode cX0_save 51 = .ok (.iaload, 1) := by decide +kernel
theorem dX0_save_52 : decode cX0_save 52 = .ok (.iastore, 1) := by decide +kernel
theorem dX0_save_53 : decode cX0_save 53 = .ok (.aload_n 0, 1) := by decide +kernel
theorem dX0_save_54 : decode cX0_save 54 = .ok (.dup, 1) := by decide +kernel
theorem dX0_save_55 : decode cX0_save 55 = .ok (.getfield 30, 3) := by decide +kernel
theorem dX0_save_58 : decode cX0_save 58 = .ok (.iconst 1, 1) := by decide +kernel
theorem dX0_save_59 : decode cX0_save 59 = .ok (.iadd, 1) := by decide +kernel
theorem dX0_save_60 : decode cX0_save 60 = .ok (.putfield 30, 3) := by decide +kernel
theorem dX0_save_63 : decode cX0_save 63 = .ok (.return_, 1) := by decide +kernel
set_option maxRecDepth 20000 in
theorem ggX0_putBack_X0_untell : GoodIn wsX0_putBack wsX0_untell := goodIn_r _ [10, 11, 12, 13, 14, 15, 16, 17, 18, 19, 20, 21, 22, 23, 24, 25, 26, 27, 28, 29, 30, 31, 32, 33, 34, 35, 36, 37, 38, 39, 40, 41] (by decide +kernel) (by decide +kernel)
set_option maxRecDepth 20000 in
theorem gX0_putBack_X0_untell : GoodIn wsX0_putBack (wsV RX0 62 RX0 yX0_untell wsX0_untell) := goodIn_app (goodIn_of _ (by decide +kernel)) ggX0_putBack_X0_untell
theorem dX0_putBack_0 : decode cX0_putBack 0 = .ok (.aload_n 0, 1) := by decide +kernel
theorem dX0_putBack_1 : decode cX0_putBack 1 = .ok (.getfield 18, 3) := by decide +kernel
theorem dX0_putBack_4 : decode cX0_putBack 4 = .ok (.iload_n 1, 1) := by decide +kernel
theorem dX0_putBack_5 : decode cX0_putBack 5 = .ok (.iaload, 1) := by decide +kernel
theorem dX0_putBack_6 : decode cX0_putBack 6 = .ok (.istore_n 2, 1) := by decide +kernel
theorem dX0_putBack_7 : decode cX0_putBack 7 = .ok (.aload_n 0, 1) := by decide +kernel
theorem dX0_putBack_8 : decode cX0_putBack 8 = .ok (.aload_n 0, 1) := by decide +kernel
theorem dX0_putBack_9 : decode cX0_putBack 9 = .ok (.getfield 9, 3) := by decide +kernel
theorem dX0_putBack_12 : decode cX0_putBack 12 = .ok (.iload_n 2, 1) := by decide +kernel
theorem dX0_putBack_13 : decode cX0_putBack 13 = .ok (.iaload, 1) := by decide +kernel
theorem dX0_putBack_14 : decode cX0_putBack 14 = .ok (.aload_n 0, 1) := by decide +kernel
theorem dX0_putBack_15 : decode cX0_putBack 15 = .ok (.getfield 15, 3) := by decide +kernel
theorem dX0_putBack_18 : decode cX0_putBack 18 = .ok (.iload_n 2, 1) := by decide +kernel
theorem dX0_putBack_19 : decode cX0_putBack 19 = .ok (.iaload, 1) := by decide +kernel
theorem dX0_putBack_20 : decode cX0_putBack 20 = .ok (.invokevirtual 62, 3) := by decide +kernel
theorem dX0_putBack_23 : decode cX0_putBack 23 = .ok (.aload_n 0, 1) := by decide +kernel
theorem dX0_putBack_24 : decode cX0_putBack 24 = .ok (.getfield 9, 3) := by decide +kernel
theorem dX0_putBack_27 : decode cX0_putBack 27 = .ok (.iload_n 2, 1) := by decide +kernel
theorem dX0_putBack_28 : decode cX0_putBack 28 = .ok (.aload_n 0, 1) := by decide +kernel
theorem dX0_putBack_29 : decode cX0_putBack 29 = .ok (.getfield 24, 3) := by decide +kernel
theorem dX0_putBack_32 : decode cX0_putBack 32 = .ok (.iload_n 1, 1) := by decide +kernel
theorem dX0_putBack_33 : decode cX0_putBack 33 = .ok (.iaload, 1) := by decide +kernel
theorem dX0_putBack_34 : decode cX0_putBack 34 = .ok (.iastore, 1) := by decide +kernel
theorem dX0_putBack_35 : decode cX0_putBack 35 = .ok (.aload_n 0, 1) := by decide +kernel
theorem dX0_putBack_36 : decode cX0_putBack 36 = .ok (.getfield 15, 3) := by decide +kernel
theorem dX0_putBack_39 : decode cX0_putBack 39 = .ok (.iload_n 2, 1) := by decide +kernel
theorem dX0_putBack_40 : decode cX0_putBack 40 = .ok (.aload_n 0, 1) := by decide +kernel
theorem dX0_putBack_41 : decode cX0_putBack 41 = .ok (.getfield 27, 3) := by decide +kernel
theorem dX0_putBack_44 : decode cX0_putBack 44 = .ok (.iload_n 1, 1) := by decide +kernel
theorem dX0_putBack_45 : decode cX0_putBack 45 = .ok (.iaload, 1) := by decide +kernel
theorem dX0_putBack_46 : decode cX0_putBack 46 = .ok (.iastore, 1) := by decide +kernel
theorem dX0_putBack_47 : decode cX0_putBack 47 = .ok (.return_, 1) := by decide +kernel
set_option maxRecDepth 20000 in
theorem ggX0_forgetSaved_X0_untell : GoodIn wsX0_forgetSaved wsX0_untell := goodIn_r _ [9, 10, 11, 12, 13, 14, 15, 16, 17, 18, 19, 20, 21, 22, 23, 29, 30, 31, 32, 33, 34, 35, 36, 37, 38, 39, 40, 41, 42, 43, 44, 45] (by decide +kernel) (by decide +kernel)
set_option maxRecDepth 20000 in
theorem gX0_forgetSaved_X0_untell : GoodIn wsX0_forgetSaved (wsV RX0 62 RX0 yX0_untell wsX0_untell) := goodIn_app (goodIn_of _ (by decide +kernel)) ggX0_forgetSaved_X0_untell
set_option maxRecDepth 20000 in
theorem ggX0_forgetSaved_X0_moveSaved : GoodIn wsX0_forgetSaved wsX0_moveSaved := goodIn_r _ [27, 2, 28, 3, 4, 29, 30, 31, 32, 33, 34, 35, 36, 37] (by decide +kernel) (by decide +kernel)
set_option maxRecDepth 20000 in
theorem gX0_forgetSaved_X0_moveSaved : GoodIn wsX0_forgetSaved (wsV RX0 65 RX0 yX0_moveSaved wsX0_moveSaved) := goodIn_app (goodIn_of _ (by decide +kernel)) ggX0_forgetSaved_X0_moveSaved
theorem dX0_forgetSaved_0 : decode cX0_forgetSaved 0 = .ok (.iconst 0, 1) := by decide +kernel
theorem dX0_forgetSaved_1 : decode cX0_forgetSaved 1 = .ok (.istore_n 2, 1) := by decide +kernel
theorem dX0_forgetSaved_2 : decode cX0_forgetSaved 2 = .ok (.iconst 0, 1) := by decide +kernel
theorem dX0_forgetSaved_3 : decode cX0_forgetSaved 3 = .ok (.istore_n 3, 1) := by decide +kernel
theorem dX0_forgetSaved_4 : decode cX0_forgetSaved 4 = .ok (.iload_n 3, 1) := by decide +kernel
theorem dX0_forgetSaved_5 : decode cX0_forgetSaved 5 = .ok (.aload_n 0, 1) := by decide +kernel
theorem dX0_forgetSaved_6 : decode cX0_forgetSaved 6 = .ok (.getfield 30, 3) := by decide +kernel
theorem dX0_forgetSaved_9 : decode cX0_forgetSaved 9 = .ok (.if_icmp .ge 47, 3) := by decide +kernel
theorem dX0_forgetSaved_12 : decode cX0_forgetSaved 12 = .ok (.aload_n 0, 1) := by decide +kernel
theorem dX0_forgetSaved_13 : decode cX0_forgetSaved 13 = .ok (.getfield 18, 3) := by decide +kernel
theorem dX0_forgetSaved_16 : decode cX0_forgetSaved 16 = .ok (.iload_n 3, 1) := by decide +kernel
theorem dX0_forgetSaved_17 : decode cX0_forgetSaved 17 = .ok (.iaload, 1) := by decide +kernel
theorem dX0_forgetSaved_18 : decode cX0_forgetSaved 18 = .ok (.iload_n 1, 1) := by decide +kernel
theorem dX0_forgetSaved_19 : decode cX0_forgetSaved 19 = .ok (.if_icmp .ne 22, 3) := by decide +kernel
theorem dX0_forgetSaved_22 : decode cX0_forgetSaved 22 = .ok (.aload_n 0, 1) := by decide +kernel
theorem dX0_forgetSaved_23 : decode cX0_forgetSaved 23 = .ok (.aload_n 0, 1) := by decide +kernel
theorem dX0_forgetSaved_24 : decode cX0_forgetSaved 24 = .ok (.getfield 24, 3) := by decide +kernel
theorem dX0_forgetSaved_27 : decode cX0_forgetSaved 27 = .ok (.iload_n 3, 1) := by decide +kernel
theorem dX0_forgetSaved_28 : decode cX0_forgetSaved 28 = .ok (.iaload, 1) := by decide +kernel
theorem dX0_forgetSaved_29 : decode cX0_forgetSaved 29 = .ok (.aload_n 0, 1) := by decide +kernel
theorem dX0_forgetSaved_30 : decode cX0_forgetSaved 30 = .ok (.getfield 27, 3) := by decide +kernel
theorem dX0_forgetSaved_33 : decode cX0_forgetSaved 33 = .ok (.iload_n 3, 1) := by decide +kernel
theorem dX0_forgetSaved_34 : decode cX0_forgetSaved 34 = .ok (.iaload, 1) := by decide +kernel
theorem dX0_forgetSaved_35 : decode cX0_forgetSaved 35 = .ok (.invokevirtual 62, 3) := by decide +kernel
theorem dX0_forgetSaved_38 : decode cX0_forgetSaved 38 = .ok (.goto 12, 3) := by decide +kernel
theorem dX0_forgetSaved_41 : decode cX0_forgetSaved 41 = .ok (.aload_n 0, 1) := by decide +kernel
theorem dX0_forgetSaved_42 : decode cX0_forgetSaved 42 = .ok (.iload_n 3, 1) := by decide +kernel
theorem dX0_forgetSaved_43 : decode cX0_forgetSaved 43 = .ok (.iload_n 2, 1) := by decide +kernel
theorem dX0_forgetSaved_44 : decode cX0_forgetSaved 44 = .ok (.invokevirtual 65, 3) := by decide +kernel
theorem dX0_forgetSaved_47 : decode cX0_forgetSaved 47 = .ok (.iinc 2 1, 3) := by decide +kernel
theorem dX0_forgetSaved_50 : decode cX0_forgetSaved 50 = .ok (.iinc 3 1, 3) := by decide +kernel
theorem dX0_forgetSaved_53 : decode cX0_forgetSaved 53 = .ok (.goto (-49), 3) := by decide +kernel
theorem dX0_forgetSaved_56 : decode cX0_forgetSaved 56 = .ok (.aload_n 0, 1) := by decide +kernel
theorem dX0_forgetSaved_57 : decode cX0_forgetSaved 57 = .ok (.iload_n 2, 1) := by decide +kernel
theorem dX0_forgetSaved_58 : decode cX0_forgetSaved 58 = .ok (.putfield 30, 3) := by decide +kernel
theorem dX0_forgetSaved_61 : decode cX0_forgetSaved 61 = .ok (.return_, 1) := by decide +kernel
theorem dX0_moveSaved_0 : decode cX0_moveSaved 0 = .ok (.aload_n 0, 1) := by decide +kernel
theorem dX0_moveSaved_1 : decode cX0_moveSaved 1 = .ok (.getfield 18, 3) := by decide +kernel
theorem dX0_moveSaved_4 : decode cX0_moveSaved 4 = .ok (.iload_n 2, 1) := by decide +kernel
theorem dX0_moveSaved_5 : decode cX0_moveSaved 5 = .ok (.aload_n 0, 1) := by decide +kernel
theorem dX0_moveSaved_6 : decode cX0_moveSaved 6 = .ok (.getfield 18, 3) := by decide +kernel
theorem dX0_moveSaved_9 : decode cX0_moveSaved 9 = .ok (.iload_n 1, 1) := by decide +kernel
theorem dX0_moveSaved_10 : decode cX0_moveSaved 10 = .ok (.iaload, 1) := by decide +kernel
theorem dX0_moveSaved_11 : decode cX0_moveSaved 11 = .ok (.iastore, 1) := by decide +kernel
theorem dX0_moveSaved_12 : decode cX0_moveSaved 12 = .ok (.aload_n 0, 1) := by decide +kernel
theorem dX0_moveSaved_13 : decode cX0_moveSaved 13 = .ok (.getfield 21, 3) := by decide +kernel
theorem dX0_moveSaved_16 : decode cX0_moveSaved 16 = .ok (.iload_n 2, 1) := by decide +kernel
theorem dX0_moveSaved_17 : decode cX0_moveSaved 17 = .ok (.aload_n 0, 1) := by decide +kernel
theorem dX0_moveSaved_18 : decode cX0_moveSaved 18 = .ok (.getfield 21, 3) := by decide +kernel
theorem dX0_moveSaved_21 : decode cX0_moveSaved 21 = .ok (.iload_n 1, 1) := by decide +kernel
theorem dX0_moveSaved_22 : decode cX0_moveSaved 22 = .ok (.iaload, 1) := by decide +kernel
theorem dX0_moveSaved_23 : decode cX0_moveSaved 23 = .ok (.iastore, 1) := by decide +kernel
theorem dX0_moveSaved_24 : decode cX0_moveSaved 24 = .ok (.aload_n 0, 1) := by decide +kernel
theorem dX0_moveSaved_25 : decode cX0_moveSaved 25 = .ok (.getfield 24, 3) := by decide +kernel
theorem dX0_moveSaved_28 : decode cX0_moveSaved 28 = .ok (.iload_n 2, 1) := by decide +kernel
theorem dX0_moveSaved_29 : decode cX0_moveSaved 29 = .ok (.aload_n 0, 1) := by decide +kernel
theorem dX0_moveSaved_30 : decode cX0_moveSaved 30 = .ok (.getfield 24, 3) := by decide +kernel
theorem dX0_moveSaved_33 : decode cX0_moveSaved 33 = .ok (.iload_n 1, 1) := by decide +kernel
theorem dX0_moveSaved_34 : decode cX0_moveSaved 34 = .ok (.iaload, 1) := by decide +kernel
theorem dX0_moveSaved_35 : decode cX0_moveSaved 35 = .ok (.iastore, 1) := by decide +kernel
theorem dX0_moveSaved_36 : decode cX0_moveSaved 36 = .ok (.aload_n 0, 1) := by decide +kernel
theorem dX0_moveSaved_37 : decode cX0_moveSaved 37 = .ok (.getfield 27, 3) := by decide +kernel
theorem dX0_moveSaved_40 : decode cX0_moveSaved 40 = .ok (.iload_n 2, 1) := by decide +kernel
theorem dX0_moveSaved_41 : decode cX0_moveSaved 41 = .ok (.aload_n 0, 1) := by decide +kernel
theorem dX0_moveSaved_42 : decode cX0_moveSaved 42 = .ok (.getfield 27, 3) := by decide +kernel
theorem dX0_moveSaved_45 : decode cX0_moveSaved 45 = .ok (.iload_n 1, 1) := by decide +kernel
theorem dX0_moveSaved_46 : decode cX0_moveSaved 46 = .ok (.iaload, 1) := by decide +kernel
theorem dX0_moveSaved_47 : decode cX0_moveSaved 47 = .ok (.iastore, 1) := by decide +kernel
theorem dX0_moveSaved_48 : decode cX0_moveSaved 48 = .ok (.return_, 1) := by decide +kernel
set_option maxRecDepth 20000 in
theorem ggX0_tell_X1_addTeller : GoodIn wsX0_tell wsX1_addTeller := goodIn_r _ [6, 7, 8, 9, 10, 11, 12, 5, 13, 14, 24, 25, 26, 27, 28, 29, 30, 31] (by decide +kernel) (by decide +kernel)
set_option maxRecDepth 20000 in
theorem gX0_tell_X1_addTeller : GoodIn wsX0_tell (wsV RX0 68 RX1 yX1_addTeller wsX1_addTeller) := goodIn_app (goodIn_of _ (by decide +kernel)) ggX0_tell_X1_addTeller
theorem dX0_tell_0 : decode cX0_tell 0 = .ok (.iload_n 1, 1) := by decide +kernel
theorem dX0_tell_1 : decode cX0_tell 1 = .ok (.iconst 3, 1) := by decide +kernel
theorem dX0_tell_2 : decode cX0_tell 2 = .ok (.if_icmp .ne 11, 3) := by decide +kernel
theorem dX0_tell_5 : decode cX0_tell 5 = .ok (.aload_n 0, 1) := by decide +kernel
theorem dX0_tell_6 : decode cX0_tell 6 = .ok (.getfield 37, 3) := by decide +kernel
theorem dX0_tell_9 : decode cX0_tell 9 = .ok (.iload_n 2, 1) := by decide +kernel
theorem dX0_tell_10 : decode cX0_tell 10 = .ok (.invokevirtual 68, 3) := by decide +kernel
theorem dX0_tell_13 : decode cX0_tell 13 = .ok (.return_, 1) := by decide +kernel
set_option maxRecDepth 20000 in
theorem ggX0_untell_X1_dropTeller : GoodIn wsX0_untell wsX1_dropTeller := goodIn_r _ [6, 7, 8, 9, 10, 11, 12, 5, 13, 14, 24, 25, 26, 27, 28, 29, 30, 31] (by decide +kernel) (by decide +kernel)
set_option maxRecDepth 20000 in
theorem gX0_untell_X1_dropTeller : GoodIn wsX0_untell (wsV RX0 73 RX1 yX1_dropTeller wsX1_dropTeller) := goodIn_app (goodIn_of _ (by decide +kernel)) ggX0_untell_X1_dropTeller
theorem dX0_untell_0 : decode cX0_untell 0 = .ok (.iload_n 1, 1) := by decide +kernel
theorem dX0_untell_1 : decode cX0_untell 1 = .ok (.iconst 3, 1) := by decide +kernel
theorem dX0_untell_2 : decode cX0_untell 2 = .ok (.if_icmp .ne 11, 3) := by decide +kernel
theorem dX0_untell_5 : decode cX0_untell 5 = .ok (.aload_n 0, 1) := by decide +kernel
theorem dX0_untell_6 : decode cX0_untell 6 = .ok (.getfield 37, 3) := by decide +kernel
theorem dX0_untell_9 : decode cX0_untell 9 = .ok (.iload_n 2, 1) := by decide +kernel
theorem dX0_untell_10 : decode cX0_untell 10 = .ok (.invokevirtual 73, 3) := by decide +kernel
theorem dX0_untell_13 : decode cX0_untell 13 = .ok (.return_, 1) := by decide +kernel
theorem dX1_init_0 : decode cX1_init 0 = .ok (.aload_n 0, 1) := by decide +kernel
theorem dX1_init_1 : decode cX1_init 1 = .ok (.invokespecial 3, 3) := by decide +kernel
theorem dX1_init_4 : decode cX1_init 4 = .ok (.aload_n 0, 1) := by decide +kernel
theorem dX1_init_5 : decode cX1_init 5 = .ok (.sipush 512, 3) := by decide +kernel
theorem dX1_init_8 : decode cX1_init 8 = .ok (.newarray .int, 2) := by decide +kernel
theorem dX1_init_10 : decode cX1_init 10 = .ok (.putfield 9, 3) := by decide +kernel
theorem dX1_init_13 : decode cX1_init 13 = .ok (.aload_n 0, 1) := by decide +kernel
theorem dX1_init_14 : decode cX1_init 14 = .ok (.sipush 513, 3) := by decide +kernel
theorem dX1_init_17 : decode cX1_init 17 = .ok (.newarray .int, 2) := by decide +kernel
theorem dX1_init_19 : decode cX1_init 19 = .ok (.putfield 15, 3) := by decide +kernel
theorem dX1_init_22 : decode cX1_init 22 = .ok (.aload_n 0, 1) := by decide +kernel
theorem dX1_init_23 : decode cX1_init 23 = .ok (.sipush 513, 3) := by decide +kernel
theorem dX1_init_26 : decode cX1_init 26 = .ok (.newarray .int, 2) := by decide +kernel
theorem dX1_init_28 : decode cX1_init 28 = .ok (.putfield 18, 3) := by decide +kernel
theorem dX1_init_31 : decode cX1_init 31 = .ok (.aload_n 0, 1) := by decide +kernel
theorem dX1_init_32 : decode cX1_init 32 = .ok (.sipush 513, 3) := by decide +kernel
theorem dX1_init_35 : decode cX1_init 35 = .ok (.newarray .int, 2) := by decide +kernel
theorem dX1_init_37 : decode cX1_init 37 = .ok (.putfield 21, 3) := by decide +kernel
theorem dX1_init_40 : decode cX1_init 40 = .ok (.aload_n 0, 1) := by decide +kernel
theorem dX1_init_41 : decode cX1_init 41 = .ok (.iconst 1, 1) := by decide +kernel
theorem dX1_init_42 : decode cX1_init 42 = .ok (.putfield 24, 3) := by decide +kernel
theorem dX1_init_45 : decode cX1_init 45 = .ok (.aload_n 0, 1) := by decide +kernel
theorem dX1_init_46 : decode cX1_init 46 = .ok (.iconst 0, 1) := by decide +kernel
theorem dX1_init_47 : decode cX1_init 47 = .ok (.putfield 28, 3) := by decide +kernel
theorem dX1_init_50 : decode cX1_init 50 = .ok (.aload_n 0, 1) := by decide +kernel
theorem dX1_init_51 : decode cX1_init 51 = .ok (.iconst 0, 1) := by decide +kernel
theorem dX1_init_52 : decode cX1_init 52 = .ok (.putfield 31, 3) := by decide +kernel
theorem dX1_init_55 : decode cX1_init 55 = .ok (.aload_n 0, 1) := by decide +kernel
theorem dX1_init_56 : decode cX1_init 56 = .ok (.iconst 0, 1) := by decide +kernel
theorem dX1_init_57 : decode cX1_init 57 = .ok (.putfield 34, 3) := by decide +kernel
theorem dX1_init_60 : decode cX1_init 60 = .ok (.return_, 1) := by decide +kernel
theorem dX1_join_0 : decode cX1_join 0 = .ok (.aload_n 0, 1) := by decide +kernel
theorem dX1_join_1 : decode cX1_join 1 = .ok (.getfield 28, 3) := by decide +kernel
theorem dX1_join_4 : decode cX1_join 4 = .ok (.aload_n 0, 1) := by decide +kernel
theorem dX1_join_5 : decode cX1_join 5 = .ok (.getfield 31, 3) := by decide +kernel
theorem dX1_join_8 : decode cX1_join 8 = .ok (.iadd, 1) := by decide +kernel
theorem dX1_join_9 : decode cX1_join 9 = .ok (.istore_n 2, 1) := by decide +kernel
theorem dX1_join_10 : decode cX1_join 10 = .ok (.aload_n 0, 1) := by decide +kernel
theorem dX1_join_11 : decode cX1_join 11 = .ok (.getfield 31, 3) := by decide +kernel
theorem dX1_join_14 : decode cX1_join 14 = .ok (.sipush 200, 3) := by decide +kernel
theorem dX1_join_17 : decode cX1_join 17 = .ok (.if_icmp .ge 12, 3) := by decide +kernel
theorem dX1_join_20 : decode cX1_join 20 = .ok (.iload_n 2, 1) := by decide +kernel
theorem dX1_join_21 : decode cX1_join 21 = .ok (.aload_n 0, 1) := by decide +kernel
theorem dX1_join_22 : decode cX1_join 22 = .ok (.getfield 9, 3) := by decide +kernel
theorem dX1_join_25 : decode cX1_join 25 = .ok (.arraylength, 1) := by decide +kernel
theorem dX1_join_26 : decode cX1_join 26 = .ok (.if_icmp .lt 5, 3) := by decide +kernel
theorem dX1_join_29 : decode cX1_join 29 = .ok (.iconst 0, 1) := by decide +kernel
theorem dX1_join_30 : decode cX1_join 30 = .ok (.ireturn, 1) := by decide +kernel
theorem dX1_join_31 : decode cX1_join 31 = .ok (.aload_n 0, 1) := by decide +kernel
theorem dX1_join_32 : decode cX1_join 32 = .ok (.getfield 9, 3) := by decide +kernel
theorem dX1_join_35 : decode cX1_join 35 = .ok (.iload_n 2, 1) := by decide +kernel
theorem dX1_join_36 : decode cX1_join 36 = .ok (.iload_n 1, 1) := by decide +kernel
theorem dX1_join_37 : decode cX1_join 37 = .ok (.iastore, 1) := by decide +kernel
theorem dX1_join_38 : decode cX1_join 38 = .ok (.aload_n 0, 1) := by decide +kernel
theorem dX1_join_39 : decode cX1_join 39 = .ok (.dup, 1) := by decide +kernel
theorem dX1_join_40 : decode cX1_join 40 = .ok (.getfield 31, 3) := by decide +kernel
theorem dX1_join_43 : decode cX1_join 43 = .ok (.iconst 1, 1) := by decide +kernel
theorem dX1_join_44 : decode cX1_join 44 = .ok (.iadd, 1) := by decide +kernel
theorem dX1_join_45 : decode cX1_join 45 = .ok (.putfield 31, 3) := by decide +kernel
theorem dX1_join_48 : decode cX1_join 48 = .ok (.iconst 1, 1) := by decide +kernel
theorem dX1_join_49 : decode cX1_join 49 = .ok (.ireturn, 1) := by decide +kernel
theorem dX1_takeDraft_0 : decode cX1_takeDraft 0 = .ok (.aload_n 0, 1) := by decide +kernel
theorem dX1_takeDraft_1 : decode cX1_takeDraft 1 = .ok (.getfield 31, 3) := by decide +kernel
theorem dX1_takeDraft_4 : decode cX1_takeDraft 4 = .ok (.ifCond .eq 15, 3) := by decide +kernel
theorem dX1_takeDraft_7 : decode cX1_takeDraft 7 = .ok (.aload_n 0, 1) := by decide +kernel
theorem dX1_takeDraft_8 : decode cX1_takeDraft 8 = .ok (.getfield 24, 3) := by decide +kernel
theorem dX1_takeDraft_11 : decode cX1_takeDraft 11 = .ok (.aload_n 0, 1) := by decide +kernel
theorem dX1_takeDraft_12 : decode cX1_takeDraft 12 = .ok (.getfield 15, 3) := by decide +kernel
theorem dX1_takeDraft_15 : decode cX1_takeDraft 15 = .ok (.arraylength, 1) := by decide +kernel
theorem dX1_takeDraft_16 : decode cX1_takeDraft 16 = .ok (.if_icmp .lt 5, 3) := by decide +kernel
theorem dX1_takeDraft_19 : decode cX1_takeDraft 19 = .ok (.iconst 0, 1) := by decide +kernel
theorem dX1_takeDraft_20 : decode cX1_takeDraft 20 = .ok (.ireturn, 1) := by decide +kernel
theorem dX1_takeDraft_21 : decode cX1_takeDraft 21 = .ok (.aload_n 0, 1) := by decide +kernel
theorem dX1_takeDraft_22 : decode cX1_takeDraft 22 = .ok (.getfield 24, 3) := by decide +kernel
theorem dX1_takeDraft_25 : decode cX1_takeDraft 25 = .ok (.istore_n 1, 1) := by decide +kernel
theorem dX1_takeDraft_26 : decode cX1_takeDraft 26 = .ok (.aload_n 0, 1) := by decide +kernel
theorem dX1_takeDraft_27 : decode cX1_takeDraft 27 = .ok (.getfield 15, 3) := by decide +kernel
theorem dX1_takeDraft_30 : decode cX1_takeDraft 30 = .ok (.iload_n 1, 1) := by decide +kernel
theorem dX1_takeDraft_31 : decode cX1_takeDraft 31 = .ok (.aload_n 0, 1) := by decide +kernel
theorem dX1_takeDraft_32 : decode cX1_takeDraft 32 = .ok (.getfield 28, 3) := by decide +kernel
theorem dX1_takeDraft_35 : decode cX1_takeDraft 35 = .ok (.iastore, 1) := by decide +kernel
theorem dX1_takeDraft_36 : decode cX1_takeDraft 36 = .ok (.aload_n 0, 1) := by decide +kernel
theorem dX1_takeDraft_37 : decode cX1_takeDraft 37 = .ok (.getfield 18, 3) := by decide +kernel
theorem dX1_takeDraft_40 : decode cX1_takeDraft 40 = .ok (.iload_n 1, 1) := by decide +kernel
theorem dX1_takeDraft_41 : decode cX1_takeDraft 41 = .ok (.aload_n 0, 1) := by decide +kernel
theorem dX1_takeDraft_42 : decode cX1_takeDraft 42 = .ok (.getfield 31, 3) := by decide +kernel
theorem dX1_takeDraft_45 : decode cX1_takeDraft 45 = .ok (.iastore, 1) := by decide +kernel
theorem dX1_takeDraft_46 : decode cX1_takeDraft 46 = .ok (.aload_n 0, 1) := by decide +kernel
theorem dX1_takeDraft_47 : decode cX1_takeDraft 47 = .ok (.dup, 1) := by decide +kernel
theorem dX1_takeDraft_48 : decode cX1_takeDraft 48 = .ok (.getfield 24, 3) := by decide +kernel
theorem dX1_takeDraft_51 : decode cX1_takeDraft 51 = .ok (.iconst 1, 1) := by decide +kernel
theorem dX1_takeDraft_52 : decode cX1_takeDraft 52 = .ok (.iadd, 1) := by decide +kernel
theorem dX1_takeDraft_53 : decode cX1_takeDraft 53 = .ok (.putfield 24, 3) := by decide +kernel
theorem dX1_takeDraft_56 : decode cX1_takeDraft 56 = .ok (.aload_n 0, 1) := by decide +kernel
theorem dX1_takeDraft_57 : decode cX1_takeDraft 57 = .ok (.dup, 1) := by decide +kernel
theorem dX1_takeDraft_58 : decode cX1_takeDraft 58 = .ok (.getfield 28, 3) := by decide +kernel
theorem dX1_takeDraft_61 : decode cX1_takeDraft 61 = .ok (.aload_n 0, 1) := by decide +kernel
theorem dX1_takeDraft_62 : decode cX1_takeDraft 62 = .ok (.getfield 31, 3) := by decide +kernel
theorem dX1_takeDraft_65 : decode cX1_takeDraft 65 = .ok (.iadd, 1) := by decide +kernel
theorem dX1_takeDraft_66 : decode cX1_takeDraft 66 = .ok (.putfield 28, 3) := by decide +kernel
theorem dX1_takeDraft_69 : decode cX1_takeDraft 69 = .ok (.aload_n 0, 1) := by decide +kernel
theorem dX1_takeDraft_70 : decode cX1_takeDraft 70 = .ok (.iconst 0, 1) := by decide +kernel
theorem dX1_takeDraft_71 : decode cX1_takeDraft 71 = .ok (.putfield 31, 3) := by decide +kernel
theorem dX1_takeDraft_74 : decode cX1_takeDraft 74 = .ok (.iload_n 1, 1) := by decide +kernel
theorem dX1_takeDraft_75 : decode cX1_takeDraft 75 = .ok (.ireturn, 1) := by decide +kernel
theorem dX1_drafted_0 : decode cX1_drafted 0 = .ok (.aload_n 0, 1) := by decide +kernel
theorem dX1_drafted_1 : decode cX1_drafted 1 = .ok (.getfield 31, 3) := by decide +kernel
theorem dX1_drafted_4 : decode cX1_drafted 4 = .ok (.ireturn, 1) := by decide +kernel
theorem dX1_kept_0 : decode cX1_kept 0 = .ok (.aload_n 0, 1) := by decide +kernel
theorem dX1_kept_1 : decode cX1_kept 1 = .ok (.getfield 34, 3) := by decide +kernel
theorem dX1_kept_4 : decode cX1_kept 4 = .ok (.ireturn, 1) := by decide +kernel
set_option maxRecDepth 20000 in
theorem ggX1_lengthOf_X1_isRow : GoodIn wsX1_lengthOf wsX1_isRow := goodIn_r _ [6, 7, 8, 9, 10, 11, 12, 13, 14, 15] (by decide +kernel) (by decide +kernel)
set_option maxRecDepth 20000 in
theorem gX1_lengthOf_X1_isRow : GoodIn wsX1_lengthOf (wsV RX1 37 RX1 yX1_isRow wsX1_isRow) := goodIn_app (goodIn_of _ (by decide +kernel)) ggX1_lengthOf_X1_isRow
theorem dX1_lengthOf_0 : decode cX1_lengthOf 0 = .ok (.aload_n 0, 1) := by decide +kernel
theorem dX1_lengthOf_1 : decode cX1_lengthOf 1 = .ok (.iload_n 1, 1) := by decide +kernel
theorem dX1_lengthOf_2 : decode cX1_lengthOf 2 = .ok (.invokevirtual 37, 3) := by decide +kernel
theorem dX1_lengthOf_5 : decode cX1_lengthOf 5 = .ok (.ifCond .eq 12, 3) := by decide +kernel
theorem dX1_lengthOf_8 : decode cX1_lengthOf 8 = .ok (.aload_n 0, 1) := by decide +kernel
theorem dX1_lengthOf_9 : decode cX1_lengthOf 9 = .ok (.getfield 18, 3) := by decide +kernel
theorem dX1_lengthOf_12 : decode cX1_lengthOf 12 = .ok (.iload_n 1, 1) := by decide +kernel
theorem dX1_lengthOf_13 : decode cX1_lengthOf 13 = .ok (.iaload, 1) := by decide +kernel
theorem dX1_lengthOf_14 : decode cX1_lengthOf 14 = .ok (.goto 4, 3) := by decide +kernel
theorem dX1_lengthOf_17 : decode cX1_lengthOf 17 = .ok (.iconst 0, 1) := by decide +kernel
theorem dX1_lengthOf_18 : decode cX1_lengthOf 18 = .ok (.ireturn, 1) := by decide +kernel
set_option maxRecDepth 20000 in
theorem ggX1_has_X1_lengthOf : GoodIn wsX1_has wsX1_lengthOf := goodIn_r _ [5, 6, 7, 8, 9, 4, 10, 11, 12, 13, 14, 15, 16, 17, 18, 19] (by decide +kernel) (by decide +kernel)
set_option maxRecDepth 20000 in
theorem gX1_has_X1_lengthOf : GoodIn wsX1_has (wsV RX1 41 RX1 yX1_lengthOf wsX1_lengthOf) := goodIn_app (goodIn_of _ (by decide +kernel)) ggX1_has_X1_lengthOf
theorem dX1_has_0 : decode cX1_has 0 = .ok (.iload_n 2, 1) := by decide +kernel
theorem dX1_has_1 : decode cX1_has 1 = .ok (.ifCond .lt 16, 3) := by decide +kernel
theorem dX1_has_4 : decode cX1_has 4 = .ok (.iload_n 2, 1) := by decide +kernel
theorem dX1_has_5 : decode cX1_has 5 = .ok (.aload_n 0, 1) := by decide +kernel
theorem dX1_has_6 : decode cX1_has 6 = .ok (.iload_n 1, 1) := by decide +kernel
theorem dX1_has_7 : decode cX1_has 7 = .ok (.invokevirtual 41, 3) := by decide +kernel
theorem dX1_has_10 : decode cX1_has 10 = .ok (.if_icmp .ge 7, 3) := by decide +kernel
theorem dX1_has_13 : decode cX1_has 13 = .ok (.iconst 1, 1) := by decide +kernel
theorem dX1_has_14 : decode cX1_has 14 = .ok (.goto 4, 3) := by decide +kernel
theorem dX1_has_17 : decode cX1_has 17 = .ok (.iconst 0, 1) := by decide +kernel
theorem dX1_has_18 : decode cX1_has 18 = .ok (.ireturn, 1) := by decide +kernel
set_option maxRecDepth 20000 in
theorem ggX1_numberAt_X1_has : GoodIn wsX1_numberAt wsX1_has := goodIn_r _ [7, 8, 9, 10, 6, 11, 12, 13, 14, 15, 16, 17, 18, 19, 20, 21, 22, 23, 24, 25] (by decide +kernel) (by decide +kernel)
set_option maxRecDepth 20000 in
theorem gX1_numberAt_X1_has : GoodIn wsX1_numberAt (wsV RX1 45 RX1 yX1_has wsX1_has) := goodIn_app (goodIn_of _ (by decide +kernel)) ggX1_numberAt_X1_has
theorem dX1_numberAt_0 : decode cX1_numberAt 0 = .ok (.aload_n 0, 1) := by decide +kernel
theorem dX1_numberAt_1 : decode cX1_numberAt 1 = .ok (.iload_n 1, 1) := by decide +kernel
theorem dX1_numberAt_2 : decode cX1_numberAt 2 = .ok (.iload_n 2, 1) := by decide +kernel
theorem dX1_numberAt_3 : decode cX1_numberAt 3 = .ok (.invokevirtual 45, 3) := by decide +kernel
theorem dX1_numberAt_6 : decode cX1_numberAt 6 = .ok (.ifCond .eq 19, 3) := by decide +kernel
theorem dX1_numberAt_9 : decode cX1_numberAt 9 = .ok (.aload_n 0, 1) := by decide +kernel
theorem dX1_numberAt_10 : decode cX1_numberAt 10 = .ok (.getfield 9, 3) := by decide +kernel
theorem dX1_numberAt_13 : decode cX1_numberAt 13 = .ok (.aload_n 0, 1) := by decide +kernel
theorem dX1_numberAt_14 : decode cX1_numberAt 14 = .ok (.getfield 15, 3) := by decide +kernel
theorem dX1_numberAt_17 : decode cX1_numberAt 17 = .ok (.iload_n 1, 1) := by decide +kernel
theorem dX1_numberAt_18 : decode cX1_numberAt 18 = .ok (.iaload, 1) := by decide +kernel
theorem dX1_numberAt_19 : decode cX1_numberAt 19 = .ok (.iload_n 2, 1) := by decide +kernel
theorem dX1_numberAt_20 : decode cX1_numberAt 20 = .ok (.iadd, 1) := by decide +kernel
theorem dX1_numberAt_21 : decode cX1_numberAt 21 = .ok (.iaload, 1) := by decide +kernel
theorem dX1_numberAt_22 : decode cX1_numberAt 22 = .ok (.goto 4, 3) := by decide +kernel
theorem dX1_numberAt_25 : decode cX1_numberAt 25 = .ok (.iconst 0, 1) := by decide +kernel
theorem dX1_numberAt_26 : decode cX1_numberAt 26 = .ok (.ireturn, 1) := by decide +kernel
set_option maxRecDepth 20000 in
theorem ggX1_addTeller_X1_isRow : GoodIn wsX1_addTeller wsX1_isRow := goodIn_r _ [8, 9, 10, 11, 12, 13, 14, 15, 16, 17] (by decide +kernel) (by decide +kernel)
set_option maxRecDepth 20000 in
theorem gX1_addTeller_X1_isRow : GoodIn wsX1_addTeller (wsV RX1 37 RX1 yX1_isRow wsX1_isRow) := goodIn_app (goodIn_of _ (by decide +kernel)) ggX1_addTeller_X1_isRow
theorem dX1_addTeller_0 : decode cX1_addTeller 0 = .ok (.aload_n 0, 1) := by decide +kernel
theorem dX1_addTeller_1 : decode cX1_addTeller 1 = .ok (.iload_n 1, 1) := by decide +kernel
theorem dX1_addTeller_2 : decode cX1_addTeller 2 = .ok (.invokevirtual 37, 3) := by decide +kernel
theorem dX1_addTeller_5 : decode cX1_addTeller 5 = .ok (.ifCond .ne 4, 3) := by decide +kernel
theorem dX1_addTeller_8 : decode cX1_addTeller 8 = .ok (.return_, 1) := by decide +kernel
theorem dX1_addTeller_9 : decode cX1_addTeller 9 = .ok (.aload_n 0, 1) := by decide +kernel
theorem dX1_addTeller_10 : decode cX1_addTeller 10 = .ok (.getfield 21, 3) := by decide +kernel
theorem dX1_addTeller_13 : decode cX1_addTeller 13 = .ok (.iload_n 1, 1) := by decide +kernel
theorem dX1_addTeller_14 : decode cX1_addTeller 14 = .ok (.iaload, 1) := by decide +kernel
theorem dX1_addTeller_15 : decode cX1_addTeller 15 = .ok (.ifCond .ne 18, 3) := by decide +kernel
theorem dX1_addTeller_18 : decode cX1_addTeller 18 = .ok (.aload_n 0, 1) := by decide +kernel
theorem dX1_addTeller_19 : decode cX1_addTeller 19 = .ok (.dup, 1) := by decide +kernel
theorem dX1_addTeller_20 : decode cX1_addTeller 20 = .ok (.getfield 34, 3) := by decide +kernel
theorem dX1_addTeller_23 : decode cX1_addTeller 23 = .ok (.aload_n 0, 1) := by decide +kernel
theorem dX1_addTeller_24 : decode cX1_addTeller 24 = .ok (.getfield 18, 3) := by decide +kernel
theorem dX1_addTeller_27 : decode cX1_addTeller 27 = .ok (.iload_n 1, 1) := by decide +kernel
theorem dX1_addTeller_28 : decode cX1_addTeller 28 = .ok (.iaload, 1) := by decide +kernel
theorem dX1_addTeller_29 : decode cX1_addTeller 29 = .ok (.iadd, 1) := by decide +kernel
theorem dX1_addTeller_30 : decode cX1_addTeller 30 = .ok (.putfield 34, 3) := by decide +kernel
theorem dX1_addTeller_33 : decode cX1_addTeller 33 = .ok (.aload_n 0, 1) := by decide +kernel
theorem dX1_addTeller_34 : decode cX1_addTeller 34 = .ok (.getfield 21, 3) := by decide +kernel
theorem dX1_addTeller_37 : decode cX1_addTeller 37 = .ok (.iload_n 1, 1) := by decide +kernel
theorem dX1_addTeller_38 : decode cX1_addTeller 38 = .ok (.dup2, 1) := by decide +kernel
theorem dX1_addTeller_39 : decode cX1_addTeller 39 = .ok (.iaload, 1) := by decide +kernel
theorem dX1_addTeller_40 : decode cX1_addTeller 40 = .ok (.iconst 1, 1) := by decide +kernel
theorem dX1_addTeller_41 : decode cX1_addTeller 41 = .ok (.iadd, 1) := by decide +kernel
theorem dX1_addTeller_42 : decode cX1_addTeller 42 = .ok (.iastore, 1) := by decide +kernel
theorem dX1_addTeller_43 : decode cX1_addTeller 43 = .ok (.return_, 1) := by decide +kernel
set_option maxRecDepth 20000 in
theorem ggX1_dropTeller_X1_isRow : GoodIn wsX1_dropTeller wsX1_isRow := goodIn_r _ [8, 9, 10, 11, 12, 13, 14, 15, 16, 17] (by decide +kernel) (by decide +kernel)
set_option maxRecDepth 20000 in
theorem gX1_dropTeller_X1_isRow : GoodIn wsX1_dropTeller (wsV RX1 37 RX1 yX1_isRow wsX1_isRow) := goodIn_app (goodIn_of _ (by decide +kernel)) ggX1_dropTeller_X1_isRow
theorem dX1_dropTeller_0 : decode cX1_dropTeller 0 = .ok (.aload_n 0, 1) := by decide +kernel
theorem dX1_dropTeller_1 : decode cX1_dropTeller 1 = .ok (.iload_n 1, 1) := by decide +kernel
theorem dX1_dropTeller_2 : decode cX1_dropTeller 2 = .ok (.invokevirtual 37, 3) := by decide +kernel
theorem dX1_dropTeller_5 : decode cX1_dropTeller 5 = .ok (.ifCond .eq 12, 3) := by decide +kernel
theorem dX1_dropTeller_8 : decode cX1_dropTeller 8 = .ok (.aload_n 0, 1) := by decide +kernel
theorem dX1_dropTeller_9 : decode cX1_dropTeller 9 = .ok (.getfield 21, 3) := by decide +kernel
theorem dX1_dropTeller_12 : decode cX1_dropTeller 12 = .ok (.iload_n 1, 1) := by decide +kernel
theorem dX1_dropTeller_13 : decode cX1_dropTeller 13 = .ok (.iaload, 1) := by decide +kernel
theorem dX1_dropTeller_14 : decode cX1_dropTeller 14 = .ok (.ifCond .ne 4, 3) := by decide +kernel
theorem dX1_dropTeller_17 : decode cX1_dropTeller 17 = .ok (.return_, 1) := by decide +kernel
theorem dX1_dropTeller_18 : decode cX1_dropTeller 18 = .ok (.aload_n 0, 1) := by decide +kernel
theorem dX1_dropTeller_19 : decode cX1_dropTeller 19 = .ok (.getfield 21, 3) := by decide +kernel
theorem dX1_dropTeller_22 : decode cX1_dropTeller 22 = .ok (.iload_n 1, 1) := by decide +kernel
theorem dX1_dropTeller_23 : decode cX1_dropTeller 23 = .ok (.dup2, 1) := by decide +kernel
theorem dX1_dropTeller_24 : decode cX1_dropTeller 24 = .ok (.iaload, 1) := by decide +kernel
theorem dX1_dropTeller_25 : decode cX1_dropTeller 25 = .ok (.iconst 1, 1) := by decide +kernel
theorem dX1_dropTeller_26 : decode cX1_dropTeller 26 = .ok (.isub, 1) := by decide +kernel
theorem dX1_dropTeller_27 : decode cX1_dropTeller 27 = .ok (.iastore, 1) := by decide +kernel
theorem dX1_dropTeller_28 : decode cX1_dropTeller 28 = .ok (.aload_n 0, 1) := by decide +kernel
theorem dX1_dropTeller_29 : decode cX1_dropTeller 29 = .ok (.getfield 21, 3) := by decide +kernel
theorem dX1_dropTeller_32 : decode cX1_dropTeller 32 = .ok (.iload_n 1, 1) := by decide +kernel
theorem dX1_dropTeller_33 : decode cX1_dropTeller 33 = .ok (.iaload, 1) := by decide +kernel
theorem dX1_dropTeller_34 : decode cX1_dropTeller 34 = .ok (.ifCond .ne 18, 3) := by decide +kernel
theorem dX1_dropTeller_37 : decode cX1_dropTeller 37 = .ok (.aload_n 0, 1) := by decide +kernel
theorem dX1_dropTeller_38 : decode cX1_dropTeller 38 = .ok (.dup, 1) := by decide +kernel
theorem dX1_dropTeller_39 : decode cX1_dropTeller 39 = .ok (.getfield 34, 3) := by decide +kernel
theorem dX1_dropTeller_42 : decode cX1_dropTeller 42 = .ok (.aload_n 0, 1) := by decide +kernel
theorem dX1_dropTeller_43 : decode cX1_dropTeller 43 = .ok (.getfield 18, 3) := by decide +kernel
theorem dX1_dropTeller_46 : decode cX1_dropTeller 46 = .ok (.iload_n 1, 1) := by decide +kernel
theorem dX1_dropTeller_47 : decode cX1_dropTeller 47 = .ok (.iaload, 1) := by decide +kernel
theorem dX1_dropTeller_48 : decode cX1_dropTeller 48 = .ok (.isub, 1) := by decide +kernel
theorem dX1_dropTeller_49 : decode cX1_dropTeller 49 = .ok (.putfield 34, 3) := by decide +kernel
theorem dX1_dropTeller_52 : decode cX1_dropTeller 52 = .ok (.return_, 1) := by decide +kernel
theorem dX1_isRow_0 : decode cX1_isRow 0 = .ok (.iload_n 1, 1) := by decide +kernel
theorem dX1_isRow_1 : decode cX1_isRow 1 = .ok (.ifCond .lt 15, 3) := by decide +kernel
theorem dX1_isRow_4 : decode cX1_isRow 4 = .ok (.iload_n 1, 1) := by decide +kernel
theorem dX1_isRow_5 : decode cX1_isRow 5 = .ok (.aload_n 0, 1) := by decide +kernel
theorem dX1_isRow_6 : decode cX1_isRow 6 = .ok (.getfield 24, 3) := by decide +kernel
theorem dX1_isRow_9 : decode cX1_isRow 9 = .ok (.if_icmp .ge 7, 3) := by decide +kernel
theorem dX1_isRow_12 : decode cX1_isRow 12 = .ok (.iconst 1, 1) := by decide +kernel
theorem dX1_isRow_13 : decode cX1_isRow 13 = .ok (.goto 4, 3) := by decide +kernel
theorem dX1_isRow_16 : decode cX1_isRow 16 = .ok (.iconst 0, 1) := by decide +kernel
theorem dX1_isRow_17 : decode cX1_isRow 17 = .ok (.ireturn, 1) := by decide +kernel
set_option maxRecDepth 20000 in
theorem ggX2_init_X1_init : GoodIn wsX2_init wsX1_init := goodIn_r _ [13, 14, 2, 3, 15, 16, 17, 18, 19, 20, 21, 22, 23, 37, 38, 39, 40, 41, 42, 43, 44] (by decide +kernel) (by decide +kernel)
set_option maxRecDepth 20000 in
theorem gX2_init_X1_init_n11 : GoodIn wsX2_init (wsX1_init) := ggX2_init_X1_init
set_option maxRecDepth 20000 in
theorem ggX2_init_X0_init : GoodIn wsX2_init wsX0_init := goodIn_r _ [26, 27, 2, 3, 15, 28, 29, 30, 31, 32, 33, 34, 35, 36, 47, 48, 49, 50, 51, 52, 53, 54, 55] (by decide +kernel) (by decide +kernel)
set_option maxRecDepth 20000 in
theorem gX2_init_X0_init : GoodIn wsX2_init (wsX0_init) := ggX2_init_X0_init
theorem dX2_init_0 : decode cX2_init 0 = .ok (.aload_n 0, 1) := by decide +kernel
theorem dX2_init_1 : decode cX2_init 1 = .ok (.invokespecial 3, 3) := by decide +kernel
theorem dX2_init_4 : decode cX2_init 4 = .ok (.aload_n 0, 1) := by decide +kernel
theorem dX2_init_5 : decode cX2_init 5 = .ok (.new 9, 3) := by decide +kernel
theorem dX2_init_8 : decode cX2_init 8 = .ok (.dup, 1) := by decide +kernel
theorem dX2_init_9 : decode cX2_init 9 = .ok (.invokespecial 11, 3) := by decide +kernel
theorem dX2_init_12 : decode cX2_init 12 = .ok (.putfield 12, 3) := by decide +kernel
theorem dX2_init_15 : decode cX2_init 15 = .ok (.aload_n 0, 1) := by decide +kernel
theorem dX2_init_16 : decode cX2_init 16 = .ok (.new 16, 3) := by decide +kernel
theorem dX2_init_19 : decode cX2_init 19 = .ok (.dup, 1) := by decide +kernel
theorem dX2_init_20 : decode cX2_init 20 = .ok (.aload_n 0, 1) := by decide +kernel
theorem dX2_init_21 : decode cX2_init 21 = .ok (.getfield 12, 3) := by decide +kernel
theorem dX2_init_24 : decode cX2_init 24 = .ok (.invokespecial 18, 3) := by decide +kernel
theorem dX2_init_27 : decode cX2_init 27 = .ok (.putfield 21, 3) := by decide +kernel
theorem dX2_init_30 : decode cX2_init 30 = .ok (.return_, 1) := by decide +kernel
set_option maxRecDepth 20000 in
theorem ggX2_open_X0_enter : GoodIn wsX2_open wsX0_enter := goodIn_r _ [6, 7, 10, 11, 12, 13, 14, 15, 16, 17, 18] (by decide +kernel) (by decide +kernel)
set_option maxRecDepth 20000 in
theorem gX2_open_X0_enter : GoodIn wsX2_open (wsV RX2 25 RX0 yX0_enter wsX0_enter) := goodIn_app (goodIn_of _ (by decide +kernel)) ggX2_open_X0_enter
theorem dX2_open_0 : decode cX2_open 0 = .ok (.aload_n 0, 1) := by decide +kernel
theorem dX2_open_1 : decode cX2_open 1 = .ok (.getfield 21, 3) := by decide +kernel
theorem dX2_open_4 : decode cX2_open 4 = .ok (.invokevirtual 25, 3) := by decide +kernel
theorem dX2_open_7 : decode cX2_open 7 = .ok (.ireturn, 1) := by decide +kernel
set_option maxRecDepth 20000 in
theorem ggX2_close_X0_leave : GoodIn wsX2_close wsX0_leave := goodIn_r _ [6, 7, 8, 9, 10, 11, 12, 5, 13, 14, 15, 16, 17, 18, 19, 20, 21, 22, 23, 24, 25, 26, 27, 28, 29, 30, 31, 32, 33, 34, 35, 36, 39, 40, 41, 42, 43, 44, 45, 46, 47, 48, 49, 50, 51, 52, 53, 54, 55] (by decide +kernel) (by decide +kernel)
set_option maxRecDepth 20000 in
theorem gX2_close_X0_leave : GoodIn wsX2_close (wsV RX2 29 RX0 yX0_leave wsX0_leave) := goodIn_app (goodIn_of _ (by decide +kernel)) ggX2_close_X0_leave
theorem dX2_close_0 : decode cX2_close 0 = .ok (.aload_n 0, 1) := by decide +kernel
theorem dX2_close_1 : decode cX2_close 1 = .ok (.getfield 21, 3) := by decide +kernel
theorem dX2_close_4 : decode cX2_close 4 = .ok (.invokevirtual 29, 3) := by decide +kernel
theorem dX2_close_7 : decode cX2_close 7 = .ok (.ireturn, 1) := by decide +kernel
set_option maxRecDepth 20000 in
theorem ggX2_set_X2_isCell : GoodIn wsX2_set wsX2_isCell := goodIn_r _ [5] (by decide +kernel) (by decide +kernel)
set_option maxRecDepth 20000 in
theorem gX2_set_X2_isCell : GoodIn wsX2_set (va_wsS RX2 32 yX2_isCell wsX2_isCell) := goodIn_app (goodIn_of _ (by decide +kernel)) ggX2_set_X2_isCell
set_option maxRecDepth 20000 in
theorem ggX2_set_X0_assign : GoodIn wsX2_set wsX0_assign := goodIn_r _ [10, 11, 12, 13, 14, 9, 15, 16, 17, 18, 19, 20, 21, 22, 23, 24, 25, 26, 27, 28, 29, 30, 31, 32, 33, 34, 35, 36, 37, 38, 39, 40, 41, 42, 43, 44, 45, 46, 47, 48, 49, 50, 51, 52, 53, 54, 55, 56, 57, 58, 59, 60, 61, 62, 63, 66, 67, 68, 69, 70, 71, 72, 73, 74, 75, 76, 77, 78, 79, 80, 81, 82] (by decide +kernel) (by decide +kernel)
set_option maxRecDepth 20000 in
theorem gX2_set_X0_assign : GoodIn wsX2_set (wsV RX2 36 RX0 yX0_assign wsX0_assign) := goodIn_app (goodIn_of _ (by decide +kernel)) ggX2_set_X0_assign
theorem dX2_set_0 : decode cX2_set 0 = .ok (.iload_n 1, 1) := by decide +kernel
theorem dX2_set_1 : decode cX2_set 1 = .ok (.invokestatic 32, 3) := by decide +kernel
theorem dX2_set_4 : decode cX2_set 4 = .ok (.ifCond .ne 5, 3) := by decide +kernel
theorem dX2_set_7 : decode cX2_set 7 = .ok (.iconst 0, 1) := by decide +kernel
theorem dX2_set_8 : decode cX2_set 8 = .ok (.ireturn, 1) := by decide +kernel
theorem dX2_set_9 : decode cX2_set 9 = .ok (.aload_n 0, 1) := by decide +kernel
theorem dX2_set_10 : decode cX2_set 10 = .ok (.getfield 21, 3) := by decide +kernel
theorem dX2_set_13 : decode cX2_set 13 = .ok (.iload_n 1, 1) := by decide +kernel
theorem dX2_set_14 : decode cX2_set 14 = .ok (.iconst 0, 1) := by decide +kernel
theorem dX2_set_15 : decode cX2_set 15 = .ok (.iload_n 2, 1) := by decide +kernel
theorem dX2_set_16 : decode cX2_set 16 = .ok (.iload_n 3, 1) := by decide +kernel
theorem dX2_set_17 : decode cX2_set 17 = .ok (.invokevirtual 36, 3) := by decide +kernel
theorem dX2_set_20 : decode cX2_set 20 = .ok (.iconst 1, 1) := by decide +kernel
theorem dX2_set_21 : decode cX2_set 21 = .ok (.ireturn, 1) := by decide +kernel
set_option maxRecDepth 20000 in
theorem ggX2_mean_X2_isName : GoodIn wsX2_mean wsX2_isName := goodIn_r _ [5] (by decide +kernel) (by decide +kernel)
set_option maxRecDepth 20000 in
theorem gX2_mean_X2_isName : GoodIn wsX2_mean (va_wsS RX2 40 yX2_isName wsX2_isName) := goodIn_app (goodIn_of _ (by decide +kernel)) ggX2_mean_X2_isName
set_option maxRecDepth 20000 in
theorem ggX2_mean_X2_isKindWithInt : GoodIn wsX2_mean wsX2_isKindWithInt := goodIn_r _ [8] (by decide +kernel) (by decide +kernel)
set_option maxRecDepth 20000 in
theorem gX2_mean_X2_isKindWithInt : GoodIn wsX2_mean (va_wsS RX2 43 yX2_isKindWithInt wsX2_isKindWithInt) := goodIn_app (goodIn_of _ (by decide +kernel)) ggX2_mean_X2_isKindWithInt
set_option maxRecDepth 20000 in
theorem ggX2_mean_X0_assign : GoodIn wsX2_mean wsX0_assign := goodIn_r _ [13, 14, 15, 16, 17, 12, 18, 19, 20, 21, 22, 23, 24, 25, 26, 27, 28, 29, 30, 31, 32, 33, 34, 35, 36, 37, 38, 39, 40, 41, 42, 43, 44, 45, 46, 47, 48, 49, 50, 51, 52, 53, 54, 55, 56, 57, 58, 59, 60, 61, 62, 63, 64, 65, 66, 69, 70, 71, 72, 73, 74, 75, 76, 77, 78, 79, 80, 81, 82, 83, 84, 85] (by decide +kernel) (by decide +kernel)
set_option maxRecDepth 20000 in
theorem gX2_mean_X0_assign : GoodIn wsX2_mean (wsV RX2 36 RX0 yX0_assign wsX0_assign) := goodIn_app (goodIn_of _ (by decide +kernel)) ggX2_mean_X0_assign
theorem dX2_mean_0 : decode cX2_mean 0 = .ok (.iload_n 1, 1) := by decide +kernel
theorem dX2_mean_1 : decode cX2_mean 1 = .ok (.invokestatic 40, 3) := by decide +kernel
theorem dX2_mean_4 : decode cX2_mean 4 = .ok (.ifCond .eq 10, 3) := by decide +kernel
theorem dX2_mean_7 : decode cX2_mean 7 = .ok (.iload_n 2, 1) := by decide +kernel
theorem dX2_mean_8 : decode cX2_mean 8 = .ok (.invokestatic 43, 3) := by decide +kernel
theorem dX2_mean_11 : decode cX2_mean 11 = .ok (.ifCond .ne 5, 3) := by decide +kernel
theorem dX2_mean_14 : decode cX2_mean 14 = .ok (.iconst 0, 1) := by decide +kernel
theorem dX2_mean_15 : decode cX2_mean 15 = .ok (.ireturn, 1) := by decide +kernel
theorem dX2_mean_16 : decode cX2_mean 16 = .ok (.aload_n 0, 1) := by decide +kernel
theorem dX2_mean_17 : decode cX2_mean 17 = .ok (.getfield 21, 3) := by decide +kernel
theorem dX2_mean_20 : decode cX2_mean 20 = .ok (.sipush 2366, 3) := by decide +kernel
theorem dX2_mean_23 : decode cX2_mean 23 = .ok (.iload_n 1, 1) := by decide +kernel
theorem dX2_mean_24 : decode cX2_mean 24 = .ok (.iadd, 1) := by decide +kernel
theorem dX2_mean_25 : decode cX2_mean 25 = .ok (.iload_n 2, 1) := by decide +kernel
theorem dX2_mean_26 : decode cX2_mean 26 = .ok (.iload_n 3, 1) := by decide +kernel
theorem dX2_mean_27 : decode cX2_mean 27 = .ok (.iload 4, 2) := by decide +kernel
theorem dX2_mean_29 : decode cX2_mean 29 = .ok (.invokevirtual 36, 3) := by decide +kernel
theorem dX2_mean_32 : decode cX2_mean 32 = .ok (.iconst 1, 1) := by decide +kernel
theorem dX2_mean_33 : decode cX2_mean 33 = .ok (.ireturn, 1) := by decide +kernel
set_option maxRecDepth 20000 in
theorem ggX2_draft_X1_join : GoodIn wsX2_draft wsX1_join := goodIn_r _ [6, 7, 8, 9, 12, 13, 14, 15, 16, 17, 18, 19] (by decide +kernel) (by decide +kernel)
set_option maxRecDepth 20000 in
theorem gX2_draft_X1_join : GoodIn wsX2_draft (wsV RX2 46 RX1 yX1_join wsX1_join) := goodIn_app (goodIn_of _ (by decide +kernel)) ggX2_draft_X1_join
theorem dX2_draft_0 : decode cX2_draft 0 = .ok (.aload_n 0, 1) := by decide +kernel
theorem dX2_draft_1 : decode cX2_draft 1 = .ok (.getfield 12, 3) := by decide +kernel
theorem dX2_draft_4 : decode cX2_draft 4 = .ok (.iload_n 1, 1) := by decide +kernel
theorem dX2_draft_5 : decode cX2_draft 5 = .ok (.invokevirtual 46, 3) := by decide +kernel
theorem dX2_draft_8 : decode cX2_draft 8 = .ok (.ireturn, 1) := by decide +kernel
set_option maxRecDepth 20000 in
theorem ggX2_define_X2_isName : GoodIn wsX2_define wsX2_isName := goodIn_r _ [8] (by decide +kernel) (by decide +kernel)
set_option maxRecDepth 20000 in
theorem gX2_define_X2_isName : GoodIn wsX2_define (va_wsS RX2 40 yX2_isName wsX2_isName) := goodIn_app (goodIn_of _ (by decide +kernel)) ggX2_define_X2_isName
set_option maxRecDepth 20000 in
theorem ggX2_define_X1_takeDraft : GoodIn wsX2_define wsX1_takeDraft := goodIn_r _ [13, 14, 15, 16, 17, 18, 80, 81, 82, 83, 84, 85, 86, 87] (by decide +kernel) (by decide +kernel)
set_option maxRecDepth 20000 in
theorem gX2_define_X1_takeDraft : GoodIn wsX2_define (wsV RX2 56 RX1 yX1_takeDraft wsX1_takeDraft) := goodIn_app (goodIn_of _ (by decide +kernel)) ggX2_define_X1_takeDraft
set_option maxRecDepth 20000 in
theorem ggX2_define_X0_assign : GoodIn wsX2_define wsX0_assign := goodIn_r _ [23, 24, 25, 26, 27, 22, 28, 29, 30, 31, 32, 33, 34, 35, 36, 12, 37, 38, 39, 18, 40, 41, 42, 43, 15, 44, 45, 46, 47, 48, 49, 50, 51, 52, 53, 54, 55, 56, 57, 58, 59, 60, 61, 62, 63, 64, 65, 66, 67, 68, 69, 70, 71, 72, 73, 88, 89, 90, 91, 92, 93, 94, 95, 96, 80, 81, 82, 83, 84, 85, 86, 87] (by decide +kernel) (by decide +kernel)
set_option maxRecDepth 20000 in
theorem gX2_define_X0_assign : GoodIn wsX2_define (wsV RX2 36 RX0 yX0_assign wsX0_assign) := goodIn_app (goodIn_of _ (by decide +kernel)) ggX2_define_X0_assign
set_option maxRecDepth 20000 in
theorem ggX2_define_X1_lengthOf : GoodIn wsX2_define wsX1_lengthOf := goodIn_r _ [77, 18, 40, 41, 42, 12, 43, 15, 80, 81, 82, 83, 84, 85, 86, 87] (by decide +kernel) (by decide +kernel)
set_option maxRecDepth 20000 in
theorem gX2_define_X1_lengthOf : GoodIn wsX2_define (wsV RX2 60 RX1 yX1_lengthOf wsX1_lengthOf) := goodIn_app (goodIn_of _ (by decide +kernel)) ggX2_define_X1_lengthOf
theorem dX2_define_0 : decode cX2_define 0 = .ok (.iload_n 1, 1) := by decide +kernel
theorem dX2_define_1 : decode cX2_define 1 = .ok (.invokestatic 40, 3) := by decide +kernel
theorem dX2_define_4 : decode cX2_define 4 = .ok (.ifCond .ne 13, 3) := by decide +kernel
theorem dX2_define_7 : decode cX2_define 7 = .ok (.new 49, 3) := by decide +kernel
theorem dX2_define_10 : decode cX2_define 10 = .ok (.dup, 1) := by decide +kernel
theorem dX2_define_11 : decode cX2_define 11 = .ok (.ldc 51, 2) := by decide +kernel
theorem dX2_define_13 : decode cX2_define 13 = .ok (.invokespecial 53, 3) := by decide +kernel
theorem dX2_define_16 : decode cX2_define 16 = .ok (.athrow, 1) := by decide +kernel
theorem dX2_define_17 : decode cX2_define 17 = .ok (.aload_n 0, 1) := by decide +kernel
theorem dX2_define_18 : decode cX2_define 18 = .ok (.getfield 12, 3) := by decide +kernel
theorem dX2_define_21 : decode cX2_define 21 = .ok (.invokevirtual 56, 3) := by decide +kernel
theorem dX2_define_24 : decode cX2_define 24 = .ok (.istore_n 3, 1) := by decide +kernel
theorem dX2_define_25 : decode cX2_define 25 = .ok (.aload_n 0, 1) := by decide +kernel
theorem dX2_define_26 : decode cX2_define 26 = .ok (.getfield 21, 3) := by decide +kernel
theorem dX2_define_29 : decode cX2_define 29 = .ok (.sipush 2366, 3) := by decide +kernel
theorem dX2_define_32 : decode cX2_define 32 = .ok (.iload_n 1, 1) := by decide +kernel
theorem dX2_define_33 : decode cX2_define 33 = .ok (.iadd, 1) := by decide +kernel
theorem dX2_define_34 : decode cX2_define 34 = .ok (.iconst 3, 1) := by decide +kernel
theorem dX2_define_35 : decode cX2_define 35 = .ok (.iload_n 3, 1) := by decide +kernel
theorem dX2_define_36 : decode cX2_define 36 = .ok (.iload_n 2, 1) := by decide +kernel
theorem dX2_define_37 : decode cX2_define 37 = .ok (.invokevirtual 36, 3) := by decide +kernel
theorem dX2_define_40 : decode cX2_define 40 = .ok (.aload_n 0, 1) := by decide +kernel
theorem dX2_define_41 : decode cX2_define 41 = .ok (.getfield 12, 3) := by decide +kernel
theorem dX2_define_44 : decode cX2_define 44 = .ok (.iload_n 3, 1) := by decide +kernel
theorem dX2_define_45 : decode cX2_define 45 = .ok (.invokevirtual 60, 3) := by decide +kernel
theorem dX2_define_48 : decode cX2_define 48 = .ok (.ireturn, 1) := by decide +kernel
set_option maxRecDepth 20000 in
theorem ggX2_let_X2_isName : GoodIn wsX2_let wsX2_isName := goodIn_r _ [5] (by decide +kernel) (by decide +kernel)
set_option maxRecDepth 20000 in
theorem gX2_let_X2_isName : GoodIn wsX2_let (va_wsS RX2 40 yX2_isName wsX2_isName) := goodIn_app (goodIn_of _ (by decide +kernel)) ggX2_let_X2_isName
set_option maxRecDepth 20000 in
theorem ggX2_let_X0_kindAt : GoodIn wsX2_let wsX0_kindAt := goodIn_r _ [10, 11, 12, 13, 9, 14, 74, 75, 76, 77, 78, 79, 80, 81, 82] (by decide +kernel) (by decide +kernel)
set_option maxRecDepth 20000 in
theorem gX2_let_X0_kindAt : GoodIn wsX2_let (wsV RX2 64 RX0 yX0_kindAt wsX0_kindAt) := goodIn_app (goodIn_of _ (by decide +kernel)) ggX2_let_X0_kindAt
set_option maxRecDepth 20000 in
theorem ggX2_let_X0_valueAt : GoodIn wsX2_let wsX0_valueAt := goodIn_r _ [18, 19, 12, 13, 9, 14, 74, 75, 76, 77, 78, 79, 80, 81, 82] (by decide +kernel) (by decide +kernel)
set_option maxRecDepth 20000 in
theorem gX2_let_X0_valueAt : GoodIn wsX2_let (wsV RX2 67 RX0 yX0_valueAt wsX0_valueAt) := goodIn_app (goodIn_of _ (by decide +kernel)) ggX2_let_X0_valueAt
set_option maxRecDepth 20000 in
theorem ggX2_let_X0_assign : GoodIn wsX2_let wsX0_assign := goodIn_r _ [23, 11, 19, 12, 13, 9, 14, 24, 25, 26, 27, 28, 29, 30, 31, 32, 33, 34, 35, 36, 37, 38, 39, 40, 41, 42, 43, 44, 45, 46, 47, 48, 49, 50, 51, 52, 53, 54, 55, 56, 57, 58, 59, 60, 61, 62, 63, 64, 65, 66, 67, 68, 69, 70, 71, 74, 75, 76, 77, 78, 79, 80, 81, 82, 83, 84, 85, 86, 87, 88, 89, 90] (by decide +kernel) (by decide +kernel)
set_option maxRecDepth 20000 in
theorem gX2_let_X0_assign : GoodIn wsX2_let (wsV RX2 36 RX0 yX0_assign wsX0_assign) := goodIn_app (goodIn_of _ (by decide +kernel)) ggX2_let_X0_assign
theorem dX2_let_0 : decode cX2_let 0 = .ok (.iload_n 1, 1) := by decide +kernel
theorem dX2_let_1 : decode cX2_let 1 = .ok (.invokestatic 40, 3) := by decide +kernel
theorem dX2_let_4 : decode cX2_let 4 = .ok (.ifCond .eq 10, 3) := by decide +kernel
theorem dX2_let_7 : decode cX2_let 7 = .ok (.iload_n 2, 1) := by decide +kernel
theorem dX2_let_8 : decode cX2_let 8 = .ok (.invokestatic 40, 3) := by decide +kernel
theorem dX2_let_11 : decode cX2_let 11 = .ok (.ifCond .ne 5, 3) := by decide +kernel
theorem dX2_let_14 : decode cX2_let 14 = .ok (.iconst 0, 1) := by decide +kernel
theorem dX2_let_15 : decode cX2_let 15 = .ok (.ireturn, 1) := by decide +kernel
theorem dX2_let_16 : decode cX2_let 16 = .ok (.sipush 2366, 3) := by decide +kernel
theorem dX2_let_19 : decode cX2_let 19 = .ok (.iload_n 2, 1) := by decide +kernel
theorem dX2_let_20 : decode cX2_let 20 = .ok (.iadd, 1) := by decide +kernel
theorem dX2_let_21 : decode cX2_let 21 = .ok (.istore 4, 2) := by decide +kernel
theorem dX2_let_23 : decode cX2_let 23 = .ok (.aload_n 0, 1) := by decide +kernel
theorem dX2_let_24 : decode cX2_let 24 = .ok (.getfield 21, 3) := by decide +kernel
theorem dX2_let_27 : decode cX2_let 27 = .ok (.sipush 2366, 3) := by decide +kernel
theorem dX2_let_30 : decode cX2_let 30 = .ok (.iload_n 1, 1) := by decide +kernel
theorem dX2_let_31 : decode cX2_let 31 = .ok (.iadd, 1) := by decide +kernel
theorem dX2_let_32 : decode cX2_let 32 = .ok (.aload_n 0, 1) := by decide +kernel
theorem dX2_let_33 : decode cX2_let 33 = .ok (.getfield 21, 3) := by decide +kernel
theorem dX2_let_36 : decode cX2_let 36 = .ok (.iload 4, 2) := by decide +kernel
theorem dX2_let_38 : decode cX2_let 38 = .ok (.invokevirtual 64, 3) := by decide +kernel
theorem dX2_let_41 : decode cX2_let 41 = .ok (.aload_n 0, 1) := by decide +kernel
theorem dX2_let_42 : decode cX2_let 42 = .ok (.getfield 21, 3) := by decide +kernel
theorem dX2_let_45 : decode cX2_let 45 = .ok (.iload 4, 2) := by decide +kernel
theorem dX2_let_47 : decode cX2_let 47 = .ok (.invokevirtual 67, 3) := by decide +kernel
theorem dX2_let_50 : decode cX2_let 50 = .ok (.iload_n 3, 1) := by decide +kernel
theorem dX2_let_51 : decode cX2_let 51 = .ok (.invokevirtual 36, 3) := by decide +kernel
theorem dX2_let_54 : decode cX2_let 54 = .ok (.iconst 1, 1) := by decide +kernel
theorem dX2_let_55 : decode cX2_let 55 = .ok (.ireturn, 1) := by decide +kernel
set_option maxRecDepth 20000 in
theorem ggX2_shape_X1_takeDraft : GoodIn wsX2_shape wsX1_takeDraft := goodIn_r _ [7, 8, 9, 10, 11, 12, 74, 75, 76, 77, 78, 79, 80, 81] (by decide +kernel) (by decide +kernel)
set_option maxRecDepth 20000 in
theorem gX2_shape_X1_takeDraft : GoodIn wsX2_shape (wsV RX2 56 RX1 yX1_takeDraft wsX1_takeDraft) := goodIn_app (goodIn_of _ (by decide +kernel)) ggX2_shape_X1_takeDraft
set_option maxRecDepth 20000 in
theorem ggX2_shape_X0_assign : GoodIn wsX2_shape wsX0_assign := goodIn_r _ [17, 18, 19, 20, 21, 16, 22, 23, 24, 25, 26, 27, 28, 29, 30, 6, 31, 32, 33, 12, 34, 35, 36, 37, 9, 38, 39, 40, 41, 42, 43, 44, 45, 46, 47, 48, 49, 50, 51, 52, 53, 54, 55, 56, 57, 58, 59, 60, 61, 62, 63, 64, 65, 66, 67, 82, 83, 84, 85, 86, 87, 88, 89, 90, 74, 75, 76, 77, 78, 79, 80, 81] (by decide +kernel) (by decide +kernel)
set_option maxRecDepth 20000 in
theorem gX2_shape_X0_assign : GoodIn wsX2_shape (wsV RX2 36 RX0 yX0_assign wsX0_assign) := goodIn_app (goodIn_of _ (by decide +kernel)) ggX2_shape_X0_assign
set_option maxRecDepth 20000 in
theorem ggX2_shape_X1_lengthOf : GoodIn wsX2_shape wsX1_lengthOf := goodIn_r _ [71, 12, 34, 35, 36, 6, 37, 9, 74, 75, 76, 77, 78, 79, 80, 81] (by decide +kernel) (by decide +kernel)
set_option maxRecDepth 20000 in
theorem gX2_shape_X1_lengthOf : GoodIn wsX2_shape (wsV RX2 60 RX1 yX1_lengthOf wsX1_lengthOf) := goodIn_app (goodIn_of _ (by decide +kernel)) ggX2_shape_X1_lengthOf
theorem dX2_shape_0 : decode cX2_shape 0 = .ok (.aload_n 0, 1) := by decide +kernel
theorem dX2_shape_1 : decode cX2_shape 1 = .ok (.getfield 12, 3) := by decide +kernel
theorem dX2_shape_4 : decode cX2_shape 4 = .ok (.invokevirtual 56, 3) := by decide +kernel
theorem dX2_shape_7 : decode cX2_shape 7 = .ok (.istore_n 2, 1) := by decide +kernel
theorem dX2_shape_8 : decode cX2_shape 8 = .ok (.aload_n 0, 1) := by decide +kernel
theorem dX2_shape_9 : decode cX2_shape 9 = .ok (.getfield 21, 3) := by decide +kernel
theorem dX2_shape_12 : decode cX2_shape 12 = .ok (.sipush 3366, 3) := by decide +kernel
theorem dX2_shape_15 : decode cX2_shape 15 = .ok (.iconst 0, 1) := by decide +kernel
theorem dX2_shape_16 : decode cX2_shape 16 = .ok (.iload_n 2, 1) := by decide +kernel
theorem dX2_shape_17 : decode cX2_shape 17 = .ok (.iload_n 1, 1) := by decide +kernel
theorem dX2_shape_18 : decode cX2_shape 18 = .ok (.invokevirtual 36, 3) := by decide +kernel
theorem dX2_shape_21 : decode cX2_shape 21 = .ok (.aload_n 0, 1) := by decide +kernel
theorem dX2_shape_22 : decode cX2_shape 22 = .ok (.getfield 12, 3) := by decide +kernel
theorem dX2_shape_25 : decode cX2_shape 25 = .ok (.iload_n 2, 1) := by decide +kernel
theorem dX2_shape_26 : decode cX2_shape 26 = .ok (.invokevirtual 60, 3) := by decide +kernel
theorem dX2_shape_29 : decode cX2_shape 29 = .ok (.ireturn, 1) := by decide +kernel
set_option maxRecDepth 20000 in
theorem ggX2_get_X2_isCell : GoodIn wsX2_get wsX2_isCell := goodIn_r _ [7] (by decide +kernel) (by decide +kernel)
set_option maxRecDepth 20000 in
theorem gX2_get_X2_isCell : GoodIn wsX2_get (va_wsS RX2 32 yX2_isCell wsX2_isCell) := goodIn_app (goodIn_of _ (by decide +kernel)) ggX2_get_X2_isCell
set_option maxRecDepth 20000 in
theorem ggX2_get_X0_valueAt : GoodIn wsX2_get wsX0_valueAt := goodIn_r _ [12, 13, 14, 15, 11, 16, 19, 20, 21, 22, 23, 24, 25, 26, 27] (by decide +kernel) (by decide +kernel)
set_option maxRecDepth 20000 in
theorem gX2_get_X0_valueAt : GoodIn wsX2_get (wsV RX2 67 RX0 yX0_valueAt wsX0_valueAt) := goodIn_app (goodIn_of _ (by decide +kernel)) ggX2_get_X0_valueAt
theorem dX2_get_0 : decode cX2_get 0 = .ok (.iload_n 1, 1) := by decide +kernel
theorem dX2_get_1 : decode cX2_get 1 = .ok (.invokestatic 32, 3) := by decide +kernel
theorem dX2_get_4 : decode cX2_get 4 = .ok (.ifCond .ne 13, 3) := by decide +kernel
theorem dX2_get_7 : decode cX2_get 7 = .ok (.new 49, 3) := by decide +kernel
theorem dX2_get_10 : decode cX2_get 10 = .ok (.dup, 1) := by decide +kernel
theorem dX2_get_11 : decode cX2_get 11 = .ok (.ldc 70, 2) := by decide +kernel
theorem dX2_get_13 : decode cX2_get 13 = .ok (.invokespecial 53, 3) := by decide +kernel
theorem dX2_get_16 : decode cX2_get 16 = .ok (.athrow, 1) := by decide +kernel
theorem dX2_get_17 : decode cX2_get 17 = .ok (.aload_n 0, 1) := by decide +kernel
theorem dX2_get_18 : decode cX2_get 18 = .ok (.getfield 21, 3) := by decide +kernel
theorem dX2_get_21 : decode cX2_get 21 = .ok (.iload_n 1, 1) := by decide +kernel
theorem dX2_get_22 : decode cX2_get 22 = .ok (.invokevirtual 67, 3) := by decide +kernel
theorem dX2_get_25 : decode cX2_get 25 = .ok (.ireturn, 1) := by decide +kernel
set_option maxRecDepth 20000 in
theorem ggX2_about_X2_isName : GoodIn wsX2_about wsX2_isName := goodIn_r _ [8] (by decide +kernel) (by decide +kernel)
set_option maxRecDepth 20000 in
theorem gX2_about_X2_isName : GoodIn wsX2_about (va_wsS RX2 40 yX2_isName wsX2_isName) := goodIn_app (goodIn_of _ (by decide +kernel)) ggX2_about_X2_isName
set_option maxRecDepth 20000 in
theorem ggX2_about_X0_kindAt : GoodIn wsX2_about wsX0_kindAt := goodIn_r _ [13, 14, 15, 16, 12, 17, 36, 37, 38, 39, 40, 41, 42, 43, 44] (by decide +kernel) (by decide +kernel)
set_option maxRecDepth 20000 in
theorem gX2_about_X0_kindAt : GoodIn wsX2_about (wsV RX2 64 RX0 yX0_kindAt wsX0_kindAt) := goodIn_app (goodIn_of _ (by decide +kernel)) ggX2_about_X0_kindAt
set_option maxRecDepth 20000 in
theorem ggX2_about_X0_valueAt : GoodIn wsX2_about wsX0_valueAt := goodIn_r _ [21, 22, 15, 16, 12, 17, 36, 37, 38, 39, 40, 41, 42, 43, 44] (by decide +kernel) (by decide +kernel)
set_option maxRecDepth 20000 in
theorem gX2_about_X0_valueAt : GoodIn wsX2_about (wsV RX2 67 RX0 yX0_valueAt wsX0_valueAt) := goodIn_app (goodIn_of _ (by decide +kernel)) ggX2_about_X0_valueAt
set_option maxRecDepth 20000 in
theorem ggX2_about_X1_lengthOf : GoodIn wsX2_about wsX1_lengthOf := goodIn_r _ [27, 28, 29, 30, 31, 26, 32, 33, 45, 46, 47, 48, 49, 50, 51, 52] (by decide +kernel) (by decide +kernel)
set_option maxRecDepth 20000 in
theorem gX2_about_X1_lengthOf : GoodIn wsX2_about (wsV RX2 60 RX1 yX1_lengthOf wsX1_lengthOf) := goodIn_app (goodIn_of _ (by decide +kernel)) ggX2_about_X1_lengthOf
theorem dX2_about_0 : decode cX2_about 0 = .ok (.iload_n 1, 1) := by decide +kernel
theorem dX2_about_1 : decode cX2_about 1 = .ok (.invokestatic 40, 3) := by decide +kernel
theorem dX2_about_4 : decode cX2_about 4 = .ok (.ifCond .eq 12, 3) := by decide +kernel
theorem dX2_about_7 : decode cX2_about 7 = .ok (.iload_n 2, 1) := by decide +kernel
theorem dX2_about_8 : decode cX2_about 8 = .ok (.ifCond .lt 8, 3) := by decide +kernel
theorem dX2_about_11 : decode cX2_about 11 = .ok (.iload_n 2, 1) := by decide +kernel
theorem dX2_about_12 : decode cX2_about 12 = .ok (.iconst 1, 1) := by decide +kernel
theorem dX2_about_13 : decode cX2_about 13 = .ok (.if_icmp .le 13, 3) := by decide +kernel
theorem dX2_about_16 : decode cX2_about 16 = .ok (.new 49, 3) := by decide +kernel
theorem dX2_about_19 : decode cX2_about 19 = .ok (.dup, 1) := by decide +kernel
theorem dX2_about_20 : decode cX2_about 20 = .ok (.ldc 72, 2) := by decide +kernel
theorem dX2_about_22 : decode cX2_about 22 = .ok (.invokespecial 53, 3) := by decide +kernel
theorem dX2_about_25 : decode cX2_about 25 = .ok (.athrow, 1) := by decide +kernel
theorem dX2_about_26 : decode cX2_about 26 = .ok (.aload_n 0, 1) := by decide +kernel
theorem dX2_about_27 : decode cX2_about 27 = .ok (.getfield 21, 3) := by decide +kernel
theorem dX2_about_30 : decode cX2_about 30 = .ok (.sipush 2366, 3) := by decide +kernel
theorem dX2_about_33 : decode cX2_about 33 = .ok (.iload_n 1, 1) := by decide +kernel
theorem dX2_about_34 : decode cX2_about 34 = .ok (.iadd, 1) := by decide +kernel
theorem dX2_about_35 : decode cX2_about 35 = .ok (.invokevirtual 64, 3) := by decide +kernel
theorem dX2_about_38 : decode cX2_about 38 = .ok (.istore_n 3, 1) := by decide +kernel
theorem dX2_about_39 : decode cX2_about 39 = .ok (.iload_n 2, 1) := by decide +kernel
theorem dX2_about_40 : decode cX2_about 40 = .ok (.ifCond .ne 5, 3) := by decide +kernel
theorem dX2_about_43 : decode cX2_about 43 = .ok (.iload_n 3, 1) := by decide +kernel
theorem dX2_about_44 : decode cX2_about 44 = .ok (.ireturn, 1) := by decide +kernel
theorem dX2_about_45 : decode cX2_about 45 = .ok (.aload_n 0, 1) := by decide +kernel
theorem dX2_about_46 : decode cX2_about 46 = .ok (.getfield 21, 3) := by decide +kernel
theorem dX2_about_49 : decode cX2_about 49 = .ok (.sipush 2366, 3) := by decide +kernel
theorem dX2_about_52 : decode cX2_about 52 = .ok (.iload_n 1, 1) := by decide +kernel
theorem dX2_about_53 : decode cX2_about 53 = .ok (.iadd, 1) := by decide +kernel
theorem dX2_about_54 : decode cX2_about 54 = .ok (.invokevirtual 67, 3) := by decide +kernel
theorem dX2_about_57 : decode cX2_about 57 = .ok (.istore 4, 2) := by decide +kernel
theorem dX2_about_59 : decode cX2_about 59 = .ok (.iload_n 3, 1) := by decide +kernel
theorem dX2_about_60 : decode cX2_about 60 = .ok (.iconst 3, 1) := by decide +kernel
theorem dX2_about_61 : decode cX2_about 61 = .ok (.if_icmp .ne 15, 3) := by decide +kernel
theorem dX2_about_64 : decode cX2_about 64 = .ok (.aload_n 0, 1) := by decide +kernel
theorem dX2_about_65 : decode cX2_about 65 = .ok (.getfield 12, 3) := by decide +kernel
theorem dX2_about_68 : decode cX2_about 68 = .ok (.iload 4, 2) := by decide +kernel
theorem dX2_about_70 : decode cX2_about 70 = .ok (.invokevirtual 60, 3) := by decide +kernel
theorem dX2_about_73 : decode cX2_about 73 = .ok (.goto 5, 3) := by decide +kernel
theorem dX2_about_76 : decode cX2_about 76 = .ok (.iload 4, 2) := by decide +kernel
theorem dX2_about_78 : decode cX2_about 78 = .ok (.ireturn, 1) := by decide +kernel
set_option maxRecDepth 20000 in
theorem ggX2_number_X2_rowOf : GoodIn wsX2_number wsX2_rowOf := goodIn_r _ [8, 9, 10, 11, 12, 13, 14, 15, 16, 17, 18, 19, 20, 7, 21, 22, 23, 24, 25, 26, 50, 51, 52, 53, 54, 55, 56, 57, 58, 59, 60] (by decide +kernel) (by decide +kernel)
set_option maxRecDepth 20000 in
theorem gX2_number_X2_rowOf : GoodIn wsX2_number (wsV RX2 74 RX2 yX2_rowOf wsX2_rowOf) := goodIn_app (goodIn_of _ (by decide +kernel)) ggX2_number_X2_rowOf
set_option maxRecDepth 20000 in
theorem ggX2_number_X1_lengthOf : GoodIn wsX2_number wsX1_lengthOf := goodIn_r _ [31, 32, 33, 34, 35, 30, 36, 37, 61, 62, 63, 64, 65, 66, 67, 68] (by decide +kernel) (by decide +kernel)
set_option maxRecDepth 20000 in
theorem gX2_number_X1_lengthOf : GoodIn wsX2_number (wsV RX2 60 RX1 yX1_lengthOf wsX1_lengthOf) := goodIn_app (goodIn_of _ (by decide +kernel)) ggX2_number_X1_lengthOf
set_option maxRecDepth 20000 in
theorem ggX2_number_X1_has : GoodIn wsX2_number wsX1_has := goodIn_r _ [41, 42, 28, 29, 30, 31, 32, 33, 34, 35, 36, 37, 61, 62, 63, 64, 65, 66, 67, 68] (by decide +kernel) (by decide +kernel)
set_option maxRecDepth 20000 in
theorem gX2_number_X1_has : GoodIn wsX2_number (wsV RX2 77 RX1 yX1_has wsX1_has) := goodIn_app (goodIn_of _ (by decide +kernel)) ggX2_number_X1_has
set_option maxRecDepth 20000 in
theorem ggX2_number_X1_numberAt : GoodIn wsX2_number wsX1_numberAt := goodIn_r _ [46, 47, 48, 49, 39, 40, 30, 41, 42, 28, 29, 31, 32, 33, 34, 35, 36, 37, 61, 62, 63, 64, 65, 66, 67, 68] (by decide +kernel) (by decide +kernel)
set_option maxRecDepth 20000 in
theorem gX2_number_X1_numberAt : GoodIn wsX2_number (wsV RX2 83 RX1 yX1_numberAt wsX1_numberAt) := goodIn_app (goodIn_of _ (by decide +kernel)) ggX2_number_X1_numberAt
theorem dX2_number_0 : decode cX2_number 0 = .ok (.aload_n 0, 1) := by decide +kernel
theorem dX2_number_1 : decode cX2_number 1 = .ok (.iload_n 1, 1) := by decide +kernel
theorem dX2_number_2 : decode cX2_number 2 = .ok (.invokevirtual 74, 3) := by decide +kernel
theorem dX2_number_5 : decode cX2_number 5 = .ok (.istore_n 3, 1) := by decide +kernel
theorem dX2_number_6 : decode cX2_number 6 = .ok (.iload_n 1, 1) := by decide +kernel
theorem dX2_number_7 : decode cX2_number 7 = .ok (.iconst (-1), 1) := by decide +kernel
theorem dX2_number_8 : decode cX2_number 8 = .ok (.if_icmp .ne 17, 3) := by decide +kernel
theorem dX2_number_11 : decode cX2_number 11 = .ok (.iload_n 2, 1) := by decide +kernel
theorem dX2_number_12 : decode cX2_number 12 = .ok (.iconst (-1), 1) := by decide +kernel
theorem dX2_number_13 : decode cX2_number 13 = .ok (.if_icmp .ne 12, 3) := by decide +kernel
theorem dX2_number_16 : decode cX2_number 16 = .ok (.aload_n 0, 1) := by decide +kernel
theorem dX2_number_17 : decode cX2_number 17 = .ok (.getfield 12, 3) := by decide +kernel
theorem dX2_number_20 : decode cX2_number 20 = .ok (.iload_n 3, 1) := by decide +kernel
theorem dX2_number_21 : decode cX2_number 21 = .ok (.invokevirtual 60, 3) := by decide +kernel
theorem dX2_number_24 : decode cX2_number 24 = .ok (.ireturn, 1) := by decide +kernel
theorem dX2_number_25 : decode cX2_number 25 = .ok (.aload_n 0, 1) := by decide +kernel
theorem dX2_number_26 : decode cX2_number 26 = .ok (.getfield 12, 3) := by decide +kernel
theorem dX2_number_29 : decode cX2_number 29 = .ok (.iload_n 3, 1) := by decide +kernel
theorem dX2_number_30 : decode cX2_number 30 = .ok (.iload_n 2, 1) := by decide +kernel
theorem dX2_number_31 : decode cX2_number 31 = .ok (.invokevirtual 77, 3) := by decide +kernel
theorem dX2_number_34 : decode cX2_number 34 = .ok (.ifCond .ne 13, 3) := by decide +kernel
theorem dX2_number_37 : decode cX2_number 37 = .ok (.new 49, 3) := by decide +kernel
theorem dX2_number_40 : decode cX2_number 40 = .ok (.dup, 1) := by decide +kernel
theorem dX2_number_41 : decode cX2_number 41 = .ok (.ldc 81, 2) := by decide +kernel
theorem dX2_number_43 : decode cX2_number 43 = .ok (.invokespecial 53, 3) := by decide +kernel
theorem dX2_number_46 : decode cX2_number 46 = .ok (.athrow, 1) := by decide +kernel
theorem dX2_number_47 : decode cX2_number 47 = .ok (.aload_n 0, 1) := by decide +kernel
theorem dX2_number_48 : decode cX2_number 48 = .ok (.getfield 12, 3) := by decide +kernel
theorem dX2_number_51 : decode cX2_number 51 = .ok (.iload_n 3, 1) := by decide +kernel
theorem dX2_number_52 : decode cX2_number 52 = .ok (.iload_n 2, 1) := by decide +kernel
theorem dX2_number_53 : decode cX2_number 53 = .ok (.invokevirtual 83, 3) := by decide +kernel
theorem dX2_number_56 : decode cX2_number 56 = .ok (.ireturn, 1) := by decide +kernel
set_option maxRecDepth 20000 in
theorem ggX2_count_X0_depth : GoodIn wsX2_count wsX0_depth := goodIn_r _ [7, 8, 22, 23, 24, 25, 26, 27, 28, 29, 30] (by decide +kernel) (by decide +kernel)
set_option maxRecDepth 20000 in
theorem gX2_count_X0_depth : GoodIn wsX2_count (wsV RX2 87 RX0 yX0_depth wsX0_depth) := goodIn_app (goodIn_of _ (by decide +kernel)) ggX2_count_X0_depth
set_option maxRecDepth 20000 in
theorem ggX2_count_X1_drafted : GoodIn wsX2_count wsX1_drafted := goodIn_r _ [13, 14, 31, 32, 33, 34, 35, 36, 37, 38] (by decide +kernel) (by decide +kernel)
set_option maxRecDepth 20000 in
theorem gX2_count_X1_drafted : GoodIn wsX2_count (wsV RX2 90 RX1 yX1_drafted wsX1_drafted) := goodIn_app (goodIn_of _ (by decide +kernel)) ggX2_count_X1_drafted
set_option maxRecDepth 20000 in
theorem ggX2_count_X1_kept : GoodIn wsX2_count wsX1_kept := goodIn_r _ [18, 19, 31, 32, 33, 34, 35, 36, 37, 38] (by decide +kernel) (by decide +kernel)
set_option maxRecDepth 20000 in
theorem gX2_count_X1_kept : GoodIn wsX2_count (wsV RX2 93 RX1 yX1_kept wsX1_kept) := goodIn_app (goodIn_of _ (by decide +kernel)) ggX2_count_X1_kept
theorem dX2_count_0 : decode cX2_count 0 = .ok (.iload_n 1, 1) := by decide +kernel
theorem dX2_count_1 : decode cX2_count 1 = .ok (.tableswitch 51 0 2 #[27, 35, 43], 27) := by decide +kernel
theorem dX2_count_28 : decode cX2_count 28 = .ok (.aload_n 0, 1) := by decide +kernel
theorem dX2_count_29 : decode cX2_count 29 = .ok (.getfield 21, 3) := by decide +kernel
theorem dX2_count_32 : decode cX2_count 32 = .ok (.invokevirtual 87, 3) := by decide +kernel
theorem dX2_count_35 : decode cX2_count 35 = .ok (.ireturn, 1) := by decide +kernel
theorem dX2_count_36 : decode cX2_count 36 = .ok (.aload_n 0, 1) := by decide +kernel
theorem dX2_count_37 : decode cX2_count 37 = .ok (.getfield 12, 3) := by decide +kernel
theorem dX2_count_40 : decode cX2_count 40 = .ok (.invokevirtual 90, 3) := by decide +kernel
theorem dX2_count_43 : decode cX2_count 43 = .ok (.ireturn, 1) := by decide +kernel
theorem dX2_count_44 : decode cX2_count 44 = .ok (.aload_n 0, 1) := by decide +kernel
theorem dX2_count_45 : decode cX2_count 45 = .ok (.getfield 12, 3) := by decide +kernel
theorem dX2_count_48 : decode cX2_count 48 = .ok (.invokevirtual 93, 3) := by decide +kernel
theorem dX2_count_51 : decode cX2_count 51 = .ok (.ireturn, 1) := by decide +kernel
theorem dX2_count_52 : decode cX2_count 52 = .ok (.iconst (-1), 1) := by decide +kernel
theorem dX2_count_53 : decode cX2_count 53 = .ok (.ireturn, 1) := by decide +kernel
theorem dX2_isCell_0 : decode cX2_isCell 0 = .ok (.iload_n 0, 1) := by decide +kernel
theorem dX2_isCell_1 : decode cX2_isCell 1 = .ok (.ifCond .lt 14, 3) := by decide +kernel
theorem dX2_isCell_4 : decode cX2_isCell 4 = .ok (.iload_n 0, 1) := by decide +kernel
theorem dX2_isCell_5 : decode cX2_isCell 5 = .ok (.sipush 2366, 3) := by decide +kernel
theorem dX2_isCell_8 : decode cX2_isCell 8 = .ok (.if_icmp .ge 7, 3) := by decide +kernel
theorem dX2_isCell_11 : decode cX2_isCell 11 = .ok (.iconst 1, 1) := by decide +kernel
theorem dX2_isCell_12 : decode cX2_isCell 12 = .ok (.goto 4, 3) := by decide +kernel
theorem dX2_isCell_15 : decode cX2_isCell 15 = .ok (.iconst 0, 1) := by decide +kernel
theorem dX2_isCell_16 : decode cX2_isCell 16 = .ok (.ireturn, 1) := by decide +kernel
theorem dX2_isName_0 : decode cX2_isName 0 = .ok (.iload_n 0, 1) := by decide +kernel
theorem dX2_isName_1 : decode cX2_isName 1 = .ok (.ifCond .lt 14, 3) := by decide +kernel
theorem dX2_isName_4 : decode cX2_isName 4 = .ok (.iload_n 0, 1) := by decide +kernel
theorem dX2_isName_5 : decode cX2_isName 5 = .ok (.sipush 1000, 3) := by decide +kernel
theorem dX2_isName_8 : decode cX2_isName 8 = .ok (.if_icmp .ge 7, 3) := by decide +kernel
theorem dX2_isName_11 : decode cX2_isName 11 = .ok (.iconst 1, 1) := by decide +kernel
theorem dX2_isName_12 : decode cX2_isName 12 = .ok (.goto 4, 3) := by decide +kernel
theorem dX2_isName_15 : decode cX2_isName 15 = .ok (.iconst 0, 1) := by decide +kernel
theorem dX2_isName_16 : decode cX2_isName 16 = .ok (.ireturn, 1) := by decide +kernel
theorem dX2_isKindWithInt_0 : decode cX2_isKindWithInt 0 = .ok (.iload_n 0, 1) := by decide +kernel
theorem dX2_isKindWithInt_1 : decode cX2_isKindWithInt 1 = .ok (.ifCond .lt 18, 3) := by decide +kernel
theorem dX2_isKindWithInt_4 : decode cX2_isKindWithInt 4 = .ok (.iload_n 0, 1) := by decide +kernel
theorem dX2_isKindWithInt_5 : decode cX2_isKindWithInt 5 = .ok (.bipush 8, 2) := by decide +kernel
theorem dX2_isKindWithInt_7 : decode cX2_isKindWithInt 7 = .ok (.if_icmp .gt 12, 3) := by decide +kernel
theorem dX2_isKindWithInt_10 : decode cX2_isKindWithInt 10 = .ok (.iload_n 0, 1) := by decide +kernel
theorem dX2_isKindWithInt_11 : decode cX2_isKindWithInt 11 = .ok (.iconst 3, 1) := by decide +kernel
theorem dX2_isKindWithInt_12 : decode cX2_isKindWithInt 12 = .ok (.if_icmp .eq 7, 3) := by decide +kernel
theorem dX2_isKindWithInt_15 : decode cX2_isKindWithInt 15 = .ok (.iconst 1, 1) := by decide +kernel
theorem dX2_isKindWithInt_16 : decode cX2_isKindWithInt 16 = .ok (.goto 4, 3) := by decide +kernel
theorem dX2_isKindWithInt_19 : decode cX2_isKindWithInt 19 = .ok (.iconst 0, 1) := by decide +kernel
theorem dX2_isKindWithInt_20 : decode cX2_isKindWithInt 20 = .ok (.ireturn, 1) := by decide +kernel
set_option maxRecDepth 20000 in
theorem ggX2_rowOf_X0_valueAt : GoodIn wsX2_rowOf wsX0_valueAt := goodIn_r _ [6, 7, 8, 9, 5, 10, 22, 23, 24, 25, 26, 27, 28, 29, 30] (by decide +kernel) (by decide +kernel)
set_option maxRecDepth 20000 in
theorem gX2_rowOf_X0_valueAt : GoodIn wsX2_rowOf (wsV RX2 67 RX0 yX0_valueAt wsX0_valueAt) := goodIn_app (goodIn_of _ (by decide +kernel)) ggX2_rowOf_X0_valueAt
set_option maxRecDepth 20000 in
theorem ggX2_rowOf_X2_isName : GoodIn wsX2_rowOf wsX2_isName := goodIn_r _ [14] (by decide +kernel) (by decide +kernel)
set_option maxRecDepth 20000 in
theorem gX2_rowOf_X2_isName : GoodIn wsX2_rowOf (va_wsS RX2 40 yX2_isName wsX2_isName) := goodIn_app (goodIn_of _ (by decide +kernel)) ggX2_rowOf_X2_isName
set_option maxRecDepth 20000 in
theorem ggX2_rowOf_X0_kindAt : GoodIn wsX2_rowOf wsX0_kindAt := goodIn_r _ [18, 19, 8, 9, 5, 10, 22, 23, 24, 25, 26, 27, 28, 29, 30] (by decide +kernel) (by decide +kernel)
set_option maxRecDepth 20000 in
theorem gX2_rowOf_X0_kindAt : GoodIn wsX2_rowOf (wsV RX2 64 RX0 yX0_kindAt wsX0_kindAt) := goodIn_app (goodIn_of _ (by decide +kernel)) ggX2_rowOf_X0_kindAt
theorem dX2_rowOf_0 : decode cX2_rowOf 0 = .ok (.iload_n 1, 1) := by decide +kernel
theorem dX2_rowOf_1 : decode cX2_rowOf 1 = .ok (.iconst (-1), 1) := by decide +kernel
theorem dX2_rowOf_2 : decode cX2_rowOf 2 = .ok (.if_icmp .ne 14, 3) := by decide +kernel
theorem dX2_rowOf_5 : decode cX2_rowOf 5 = .ok (.aload_n 0, 1) := by decide +kernel
theorem dX2_rowOf_6 : decode cX2_rowOf 6 = .ok (.getfield 21, 3) := by decide +kernel
theorem dX2_rowOf_9 : decode cX2_rowOf 9 = .ok (.sipush 3366, 3) := by decide +kernel
theorem dX2_rowOf_12 : decode cX2_rowOf 12 = .ok (.invokevirtual 67, 3) := by decide +kernel
theorem dX2_rowOf_15 : decode cX2_rowOf 15 = .ok (.ireturn, 1) := by decide +kernel
theorem dX2_rowOf_16 : decode cX2_rowOf 16 = .ok (.iload_n 1, 1) := by decide +kernel
theorem dX2_rowOf_17 : decode cX2_rowOf 17 = .ok (.invokestatic 40, 3) := by decide +kernel
theorem dX2_rowOf_20 : decode cX2_rowOf 20 = .ok (.ifCond .eq 19, 3) := by decide +kernel
theorem dX2_rowOf_23 : decode cX2_rowOf 23 = .ok (.aload_n 0, 1) := by decide +kernel
theorem dX2_rowOf_24 : decode cX2_rowOf 24 = .ok (.getfield 21, 3) := by decide +kernel
theorem dX2_rowOf_27 : decode cX2_rowOf 27 = .ok (.sipush 2366, 3) := by decide +kernel
theorem dX2_rowOf_30 : decode cX2_rowOf 30 = .ok (.iload_n 1, 1) := by decide +kernel
theorem dX2_rowOf_31 : decode cX2_rowOf 31 = .ok (.iadd, 1) := by decide +kernel
theorem dX2_rowOf_32 : decode cX2_rowOf 32 = .ok (.invokevirtual 64, 3) := by decide +kernel
theorem dX2_rowOf_35 : decode cX2_rowOf 35 = .ok (.iconst 3, 1) := by decide +kernel
theorem dX2_rowOf_36 : decode cX2_rowOf 36 = .ok (.if_icmp .eq 5, 3) := by decide +kernel
theorem dX2_rowOf_39 : decode cX2_rowOf 39 = .ok (.iconst (-1), 1) := by decide +kernel
theorem dX2_rowOf_40 : decode cX2_rowOf 40 = .ok (.ireturn, 1) := by decide +kernel
theorem dX2_rowOf_41 : decode cX2_rowOf 41 = .ok (.aload_n 0, 1) := by decide +kernel
theorem dX2_rowOf_42 : decode cX2_rowOf 42 = .ok (.getfield 21, 3) := by decide +kernel
theorem dX2_rowOf_45 : decode cX2_rowOf 45 = .ok (.sipush 2366, 3) := by decide +kernel
theorem dX2_rowOf_48 : decode cX2_rowOf 48 = .ok (.iload_n 1, 1) := by decide +kernel
theorem dX2_rowOf_49 : decode cX2_rowOf 49 = .ok (.iadd, 1) := by decide +kernel
theorem dX2_rowOf_50 : decode cX2_rowOf 50 = .ok (.invokevirtual 67, 3) := by decide +kernel
theorem dX2_rowOf_53 : decode cX2_rowOf 53 = .ok (.ireturn, 1) := by decide +kernel
theorem dX3_init_0 : decode cX3_init 0 = .ok (.aload_n 0, 1) := by decide +kernel
theorem dX3_init_1 : decode cX3_init 1 = .ok (.invokespecial 1, 3) := by decide +kernel
theorem dX3_init_4 : decode cX3_init 4 = .ok (.aload_n 0, 1) := by decide +kernel
theorem dX3_init_5 : decode cX3_init 5 = .ok (.sipush 4200, 3) := by decide +kernel
theorem dX3_init_8 : decode cX3_init 8 = .ok (.newarray .int, 2) := by decide +kernel
theorem dX3_init_10 : decode cX3_init 10 = .ok (.putfield 7, 3) := by decide +kernel
theorem dX3_init_13 : decode cX3_init 13 = .ok (.aload_n 0, 1) := by decide +kernel
theorem dX3_init_14 : decode cX3_init 14 = .ok (.sipush 4200, 3) := by decide +kernel
theorem dX3_init_17 : decode cX3_init 17 = .ok (.newarray .int, 2) := by decide +kernel
theorem dX3_init_19 : decode cX3_init 19 = .ok (.putfield 13, 3) := by decide +kernel
theorem dX3_init_22 : decode cX3_init 22 = .ok (.aload_n 0, 1) := by decide +kernel
theorem dX3_init_23 : decode cX3_init 23 = .ok (.sipush 4200, 3) := by decide +kernel
theorem dX3_init_26 : decode cX3_init 26 = .ok (.newarray .int, 2) := by decide +kernel
theorem dX3_init_28 : decode cX3_init 28 = .ok (.putfield 16, 3) := by decide +kernel
theorem dX3_init_31 : decode cX3_init 31 = .ok (.aload_n 0, 1) := by decide +kernel
theorem dX3_init_32 : decode cX3_init 32 = .ok (.sipush 4200, 3) := by decide +kernel
theorem dX3_init_35 : decode cX3_init 35 = .ok (.newarray .int, 2) := by decide +kernel
theorem dX3_init_37 : decode cX3_init 37 = .ok (.putfield 19, 3) := by decide +kernel
theorem dX3_init_40 : decode cX3_init 40 = .ok (.aload_n 0, 1) := by decide +kernel
theorem dX3_init_41 : decode cX3_init 41 = .ok (.iconst 1, 1) := by decide +kernel
theorem dX3_init_42 : decode cX3_init 42 = .ok (.putfield 22, 3) := by decide +kernel
theorem dX3_init_45 : decode cX3_init 45 = .ok (.aload_n 0, 1) := by decide +kernel
theorem dX3_init_46 : decode cX3_init 46 = .ok (.sipush 4200, 3) := by decide +kernel
theorem dX3_init_49 : decode cX3_init 49 = .ok (.newarray .int, 2) := by decide +kernel
theorem dX3_init_51 : decode cX3_init 51 = .ok (.putfield 26, 3) := by decide +kernel
theorem dX3_init_54 : decode cX3_init 54 = .ok (.aload_n 0, 1) := by decide +kernel
theorem dX3_init_55 : decode cX3_init 55 = .ok (.sipush 4400, 3) := by decide +kernel
theorem dX3_init_58 : decode cX3_init 58 = .ok (.newarray .int, 2) := by decide +kernel
theorem dX3_init_60 : decode cX3_init 60 = .ok (.putfield 29, 3) := by decide +kernel
theorem dX3_init_63 : decode cX3_init 63 = .ok (.return_, 1) := by decide +kernel
theorem dX3_thrown_0 : decode cX3_thrown 0 = .ok (.aload_n 0, 1) := by decide +kernel
theorem dX3_thrown_1 : decode cX3_thrown 1 = .ok (.getfield 32, 3) := by decide +kernel
theorem dX3_thrown_4 : decode cX3_thrown 4 = .ok (.ireturn, 1) := by decide +kernel
theorem dX3_fails_0 : decode cX3_fails 0 = .ok (.aload_n 0, 1) := by decide +kernel
theorem dX3_fails_1 : decode cX3_fails 1 = .ok (.iconst 1, 1) := by decide +kernel
theorem dX3_fails_2 : decode cX3_fails 2 = .ok (.putfield 32, 3) := by decide +kernel
theorem dX3_fails_5 : decode cX3_fails 5 = .ok (.iconst 0, 1) := by decide +kernel
theorem dX3_fails_6 : decode cX3_fails 6 = .ok (.ireturn, 1) := by decide +kernel
theorem dX3_isCell_0 : decode cX3_isCell 0 = .ok (.iload_n 0, 1) := by decide +kernel
theorem dX3_isCell_1 : decode cX3_isCell 1 = .ok (.ifCond .lt 14, 3) := by decide +kernel
theorem dX3_isCell_4 : decode cX3_isCell 4 = .ok (.iload_n 0, 1) := by decide +kernel
theorem dX3_isCell_5 : decode cX3_isCell 5 = .ok (.sipush 2366, 3) := by decide +kernel
theorem dX3_isCell_8 : decode cX3_isCell 8 = .ok (.if_icmp .ge 7, 3) := by decide +kernel
theorem dX3_isCell_11 : decode cX3_isCell 11 = .ok (.iconst 1, 1) := by decide +kernel
theorem dX3_isCell_12 : decode cX3_isCell 12 = .ok (.goto 4, 3) := by decide +kernel
theorem dX3_isCell_15 : decode cX3_isCell 15 = .ok (.iconst 0, 1) := by decide +kernel
theorem dX3_isCell_16 : decode cX3_isCell 16 = .ok (.ireturn, 1) := by decide +kernel
theorem dX3_isName_0 : decode cX3_isName 0 = .ok (.iload_n 0, 1) := by decide +kernel
theorem dX3_isName_1 : decode cX3_isName 1 = .ok (.ifCond .lt 14, 3) := by decide +kernel
theorem dX3_isName_4 : decode cX3_isName 4 = .ok (.iload_n 0, 1) := by decide +kernel
theorem dX3_isName_5 : decode cX3_isName 5 = .ok (.sipush 1000, 3) := by decide +kernel
theorem dX3_isName_8 : decode cX3_isName 8 = .ok (.if_icmp .ge 7, 3) := by decide +kernel
theorem dX3_isName_11 : decode cX3_isName 11 = .ok (.iconst 1, 1) := by decide +kernel
theorem dX3_isName_12 : decode cX3_isName 12 = .ok (.goto 4, 3) := by decide +kernel
theorem dX3_isName_15 : decode cX3_isName 15 = .ok (.iconst 0, 1) := by decide +kernel
theorem dX3_isName_16 : decode cX3_isName 16 = .ok (.ireturn, 1) := by decide +kernel
theorem dX3_open_0 : decode cX3_open 0 = .ok (.aload_n 0, 1) := by decide +kernel
theorem dX3_open_1 : decode cX3_open 1 = .ok (.iconst 0, 1) := by decide +kernel
theorem dX3_open_2 : decode cX3_open 2 = .ok (.putfield 32, 3) := by decide +kernel
theorem dX3_open_5 : decode cX3_open 5 = .ok (.aload_n 0, 1) := by decide +kernel
theorem dX3_open_6 : decode cX3_open 6 = .ok (.getfield 35, 3) := by decide +kernel
theorem dX3_open_9 : decode cX3_open 9 = .ok (.sipush 200, 3) := by decide +kernel
theorem dX3_open_12 : decode cX3_open 12 = .ok (.if_icmp .ne 5, 3) := by decide +kernel
theorem dX3_open_15 : decode cX3_open 15 = .ok (.iconst 0, 1) := by decide +kernel
theorem dX3_open_16 : decode cX3_open 16 = .ok (.ireturn, 1) := by decide +kernel
theorem dX3_open_17 : decode cX3_open 17 = .ok (.aload_n 0, 1) := by decide +kernel
theorem dX3_open_18 : decode cX3_open 18 = .ok (.dup, 1) := by decide +kernel
theorem dX3_open_19 : decode cX3_open 19 = .ok (.getfield 35, 3) := by decide +kernel
theorem dX3_open_22 : decode cX3_open 22 = .ok (.iconst 1, 1) := by decide +kernel
theorem dX3_open_23 : decode cX3_open 23 = .ok (.iadd, 1) := by decide +kernel
theorem dX3_open_24 : decode cX3_open 24 = .ok (.putfield 35, 3) := by decide +kernel
theorem dX3_open_27 : decode cX3_open 27 = .ok (.iconst 1, 1) := by decide +kernel
theorem dX3_open_28 : decode cX3_open 28 = .ok (.ireturn, 1) := by decide +kernel
theorem dX3_drop_0 : decode cX3_drop 0 = .ok (.iconst 0, 1) := by decide +kernel
theorem dX3_drop_1 : decode cX3_drop 1 = .ok (.istore_n 3, 1) := by decide +kernel
theorem dX3_drop_2 : decode cX3_drop 2 = .ok (.iconst 0, 1) := by decide +kernel
theorem dX3_drop_3 : decode cX3_drop 3 = .ok (.istore 4, 2) := by decide +kernel
theorem dX3_drop_5 : decode cX3_drop 5 = .ok (.iload 4, 2) := by decide +kernel
theorem dX3_drop_7 : decode cX3_drop 7 = .ok (.aload_n 0, 1) := by decide +kernel
theorem dX3_drop_8 : decode cX3_drop 8 = .ok (.getfield 38, 3) := by decide +kernel
theorem dX3_drop_11 : decode cX3_drop 11 = .ok (.if_icmp .ge 90, 3) := by decide +kernel
theorem dX3_drop_14 : decode cX3_drop 14 = .ok (.iload_n 1, 1) := by decide +kernel
theorem dX3_drop_15 : decode cX3_drop 15 = .ok (.ifCond .lt 14, 3) := by decide +kernel
theorem dX3_drop_18 : decode cX3_drop 18 = .ok (.aload_n 0, 1) := by decide +kernel
theorem dX3_drop_19 : decode cX3_drop 19 = .ok (.getfield 7, 3) := by decide +kernel
theorem dX3_drop_22 : decode cX3_drop 22 = .ok (.iload 4, 2) := by decide +kernel
theorem dX3_drop_24 : decode cX3_drop 24 = .ok (.iaload, 1) := by decide +kernel
theorem dX3_drop_25 : decode cX3_drop 25 = .ok (.iload_n 1, 1) := by decide +kernel
theorem dX3_drop_26 : decode cX3_drop 26 = .ok (.if_icmp .ne 14, 3) := by decide +kernel
theorem dX3_drop_29 : decode cX3_drop 29 = .ok (.aload_n 0, 1) := by decide +kernel
theorem dX3_drop_30 : decode cX3_drop 30 = .ok (.getfield 13, 3) := by decide +kernel
theorem dX3_drop_33 : decode cX3_drop 33 = .ok (.iload 4, 2) := by decide +kernel
theorem dX3_drop_35 : decode cX3_drop 35 = .ok (.iaload, 1) := by decide +kernel
theorem dX3_drop_36 : decode cX3_drop 36 = .ok (.iload_n 2, 1) := by decide +kernel
theorem dX3_drop_37 : decode cX3_drop 37 = .ok (.if_icmp .ge 58, 3) := by decide +kernel
theorem dX3_drop_40 : decode cX3_drop 40 = .ok (.aload_n 0, 1) := by decide +kernel
theorem dX3_drop_41 : decode cX3_drop 41 = .ok (.getfield 7, 3) := by decide +kernel
theorem dX3_drop_44 : decode cX3_drop 44 = .ok (.iload_n 3, 1) := by decide +kernel
theorem dX3_drop_45 : decode cX3_drop 45 = .ok (.aload_n 0, 1) := by decide +kernel
theorem dX3_drop_46 : decode cX3_drop 46 = .ok (.getfield 7, 3) := by decide +kernel
theorem dX3_drop_49 : decode cX3_drop 49 = .ok (.iload 4, 2) := by decide +kernel
theorem dX3_drop_51 : decode cX3_drop 51 = .ok (.iaload, 1) := by decide +kernel
theorem dX3_drop_52 : decode cX3_drop 52 = .ok (.iastore, 1) := by decide +kernel
theorem dX3_drop_53 : decode cX3_drop 53 = .ok (.aload_n 0, 1) := by decide +kernel
theorem dX3_drop_54 : decode cX3_drop 54 = .ok (.getfield 13, 3) := by decide +kernel
theorem dX3_drop_57 : decode cX3_drop 57 = .ok (.iload_n 3, 1) := by decide +kernel
theorem dX3_drop_58 : decode cX3_drop 58 = .ok (.aload_n 0, 1) := by decide +kernel
theorem dX3_drop_59 : decode cX3_drop 59 = .ok (.getfield 13, 3) := by decide +kernel
theorem dX3_drop_62 : decode cX3_drop 62 = .ok (.iload 4, 2) := by decide +kernel
theorem dX3_drop_64 : decode cX3_drop 64 = .ok (.iaload, 1) := by decide +kernel
theorem dX3_drop_65 : decode cX3_drop 65 = .ok (.iastore, 1) := by decide +kernel
theorem dX3_drop_66 : decode cX3_drop 66 = .ok (.aload_n 0, 1) := by decide +kernel
theorem dX3_drop_67 : decode cX3_drop 67 = .ok (.getfield 16, 3) := by decide +kernel
theorem dX3_drop_70 : decode cX3_drop 70 = .ok (.iload_n 3, 1) := by decide +kernel
theorem dX3_drop_71 : decode cX3_drop 71 = .ok (.aload_n 0, 1) := by decide +kernel
theorem dX3_drop_72 : decode cX3_drop 72 = .ok (.getfield 16, 3) := by decide +kernel
theorem dX3_drop_75 : decode cX3_drop 75 = .ok (.iload 4, 2) := by decide +kernel
theorem dX3_drop_77 : decode cX3_drop 77 = .ok (.iaload, 1) := by decide +kernel
theorem dX3_drop_78 : decode cX3_drop 78 = .ok (.iastore, 1) := by decide +kernel
theorem dX3_drop_79 : decode cX3_drop 79 = .ok (.aload_n 0, 1) := by decide +kernel
theorem dX3_drop_80 : decode cX3_drop 80 = .ok (.getfield 19, 3) := by decide +kernel
theorem dX3_drop_83 : decode cX3_drop 83 = .ok (.iload_n 3, 1) := by decide +kernel
theorem dX3_drop_84 : decode cX3_drop 84 = .ok (.aload_n 0, 1) := by decide +kernel
theorem dX3_drop_85 : decode cX3_drop 85 = .ok (.getfield 19, 3) := by decide +kernel
theorem dX3_drop_88 : decode cX3_drop 88 = .ok (.iload 4, 2) := by decide +kernel
theorem dX3_drop_90 : decode cX3_drop 90 = .ok (.iaload, 1) := by decide +kernel
theorem dX3_drop_91 : decode cX3_drop 91 = .ok (.iastore, 1) := by decide +kernel
theorem dX3_drop_92 : decode cX3_drop 92 = .ok (.iinc 3 1, 3) := by decide +kernel
theorem dX3_drop_95 : decode cX3_drop 95 = .ok (.iinc 4 1, 3) := by decide +kernel
theorem dX3_drop_98 : decode cX3_drop 98 = .ok (.goto (-93), 3) := by decide +kernel
theorem dX3_drop_101 : decode cX3_drop 101 = .ok (.aload_n 0, 1) := by decide +kernel
theorem dX3_drop_102 : decode cX3_drop 102 = .ok (.iload_n 3, 1) := by decide +kernel
theorem dX3_drop_103 : decode cX3_drop 103 = .ok (.putfield 38, 3) := by decide +kernel
theorem dX3_drop_106 : decode cX3_drop 106 = .ok (.return_, 1) := by decide +kernel
set_option maxRecDepth 20000 in
theorem ggX3_close_X3_drop : GoodIn wsX3_close wsX3_drop := goodIn_r _ [7, 8, 9, 10, 11, 12, 13, 14, 15, 16, 17, 18, 19, 20, 21, 22, 23] (by decide +kernel) (by decide +kernel)
set_option maxRecDepth 20000 in
theorem gX3_close_X3_drop : GoodIn wsX3_close (wsV RX3 41 RX3 yX3_drop wsX3_drop) := goodIn_app (goodIn_of _ (by decide +kernel)) ggX3_close_X3_drop
theorem dX3_close_0 : decode cX3_close 0 = .ok (.aload_n 0, 1) := by decide +kernel
theorem dX3_close_1 : decode cX3_close 1 = .ok (.iconst 0, 1) := by decide +kernel
theorem dX3_close_2 : decode cX3_close 2 = .ok (.putfield 32, 3) := by decide +kernel
theorem dX3_close_5 : decode cX3_close 5 = .ok (.aload_n 0, 1) := by decide +kernel
theorem dX3_close_6 : decode cX3_close 6 = .ok (.getfield 35, 3) := by decide +kernel
theorem dX3_close_9 : decode cX3_close 9 = .ok (.ifCond .ne 5, 3) := by decide +kernel
theorem dX3_close_12 : decode cX3_close 12 = .ok (.iconst 0, 1) := by decide +kernel
theorem dX3_close_13 : decode cX3_close 13 = .ok (.ireturn, 1) := by decide +kernel
theorem dX3_close_14 : decode cX3_close 14 = .ok (.aload_n 0, 1) := by decide +kernel
theorem dX3_close_15 : decode cX3_close 15 = .ok (.iconst (-1), 1) := by decide +kernel
theorem dX3_close_16 : decode cX3_close 16 = .ok (.aload_n 0, 1) := by decide +kernel
theorem dX3_close_17 : decode cX3_close 17 = .ok (.getfield 35, 3) := by decide +kernel
theorem dX3_close_20 : decode cX3_close 20 = .ok (.invokevirtual 41, 3) := by decide +kernel
theorem dX3_close_23 : decode cX3_close 23 = .ok (.aload_n 0, 1) := by decide +kernel
theorem dX3_close_24 : decode cX3_close 24 = .ok (.dup, 1) := by decide +kernel
theorem dX3_close_25 : decode cX3_close 25 = .ok (.getfield 35, 3) := by decide +kernel
theorem dX3_close_28 : decode cX3_close 28 = .ok (.iconst 1, 1) := by decide +kernel
theorem dX3_close_29 : decode cX3_close 29 = .ok (.isub, 1) := by decide +kernel
theorem dX3_close_30 : decode cX3_close 30 = .ok (.putfield 35, 3) := by decide +kernel
theorem dX3_close_33 : decode cX3_close 33 = .ok (.iconst 1, 1) := by decide +kernel
theorem dX3_close_34 : decode cX3_close 34 = .ok (.ireturn, 1) := by decide +kernel
set_option maxRecDepth 20000 in
theorem ggX3_assign_X3_drop : GoodIn wsX3_assign wsX3_drop := goodIn_r _ [11, 3, 2, 4, 5, 6, 12, 13, 14, 15, 16, 17, 18, 19, 20, 21, 22] (by decide +kernel) (by decide +kernel)
set_option maxRecDepth 20000 in
theorem gX3_assign_X3_drop : GoodIn wsX3_assign (wsV RX3 41 RX3 yX3_drop wsX3_drop) := goodIn_app (goodIn_of _ (by decide +kernel)) ggX3_assign_X3_drop
theorem dX3_assign_0 : decode cX3_assign 0 = .ok (.iload 4, 2) := by decide +kernel
theorem dX3_assign_2 : decode cX3_assign 2 = .ok (.ifCond .eq 7, 3) := by decide +kernel
theorem dX3_assign_5 : decode cX3_assign 5 = .ok (.iconst 0, 1) := by decide +kernel
theorem dX3_assign_6 : decode cX3_assign 6 = .ok (.goto 7, 3) := by decide +kernel
theorem dX3_assign_9 : decode cX3_assign 9 = .ok (.aload_n 0, 1) := by decide +kernel
theorem dX3_assign_10 : decode cX3_assign 10 = .ok (.getfield 35, 3) := by decide +kernel
theorem dX3_assign_13 : decode cX3_assign 13 = .ok (.istore 5, 2) := by decide +kernel
theorem dX3_assign_15 : decode cX3_assign 15 = .ok (.aload_n 0, 1) := by decide +kernel
theorem dX3_assign_16 : decode cX3_assign 16 = .ok (.iload_n 1, 1) := by decide +kernel
theorem dX3_assign_17 : decode cX3_assign 17 = .ok (.iload 5, 2) := by decide +kernel
theorem dX3_assign_19 : decode cX3_assign 19 = .ok (.invokevirtual 41, 3) := by decide +kernel
theorem dX3_assign_22 : decode cX3_assign 22 = .ok (.aload_n 0, 1) := by decide +kernel
theorem dX3_assign_23 : decode cX3_assign 23 = .ok (.getfield 7, 3) := by decide +kernel
theorem dX3_assign_26 : decode cX3_assign 26 = .ok (.aload_n 0, 1) := by decide +kernel
theorem dX3_assign_27 : decode cX3_assign 27 = .ok (.getfield 38, 3) := by decide +kernel
theorem dX3_assign_30 : decode cX3_assign 30 = .ok (.iload_n 1, 1) := by decide +kernel
theorem dX3_assign_31 : decode cX3_assign 31 = .ok (.iastore, 1) := by decide +kernel
theorem dX3_assign_32 : decode cX3_assign 32 = .ok (.aload_n 0, 1) := by decide +kernel
theorem dX3_assign_33 : decode cX3_assign 33 = .ok (.getfield 13, 3) := by decide +kernel
theorem dX3_assign_36 : decode cX3_assign 36 = .ok (.aload_n 0, 1) := by decide +kernel
theorem dX3_assign_37 : decode cX3_assign 37 = .ok (.getfield 38, 3) := by decide +kernel
theorem dX3_assign_40 : decode cX3_assign 40 = .ok (.iload 5, 2) := by decide +kernel
theorem dX3_assign_42 : decode cX3_assign 42 = .ok (.iastore, 1) := by decide +kernel
theorem dX3_assign_43 : decode cX3_assign 43 = .ok (.aload_n 0, 1) := by decide +kernel
theorem dX3_assign_44 : decode cX3_assign 44 = .ok (.getfield 16, 3) := by decide +kernel
theorem dX3_assign_47 : decode cX3_assign 47 = .ok (.aload_n 0, 1) := by decide +kernel
theorem dX3_assign_48 : decode cX3_assign 48 = .ok (.getfield 38, 3) := by decide +kernel
theorem dX3_assign_51 : decode cX3_assign 51 = .ok (.iload_n 2, 1) := by decide +kernel
theorem dX3_assign_52 : decode cX3_assign 52 = .ok (.iastore, 1) := by decide +kernel
theorem dX3_assign_53 : decode cX3_assign 53 = .ok (.aload_n 0, 1) := by decide +kernel
theorem dX3_assign_54 : decode cX3_assign 54 = .ok (.getfield 19, 3) := by decide +kernel
theorem dX3_assign_57 : decode cX3_assign 57 = .ok (.aload_n 0, 1) := by decide +kernel
theorem dX3_assign_58 : decode cX3_assign 58 = .ok (.getfield 38, 3) := by decide +kernel
theorem dX3_assign_61 : decode cX3_assign 61 = .ok (.iload_n 3, 1) := by decide +kernel
theorem dX3_assign_62 : decode cX3_assign 62 = .ok (.iastore, 1) := by decide +kernel
theorem dX3_assign_63 : decode cX3_assign 63 = .ok (.aload_n 0, 1) := by decide +kernel
theorem dX3_assign_64 : decode cX3_assign 64 = .ok (.dup, 1) := by decide +kernel
theorem dX3_assign_65 : decode cX3_assign 65 = .ok (.getfield 38, 3) := by decide +kernel
theorem dX3_assign_68 : decode cX3_assign 68 = .ok (.iconst 1, 1) := by decide +kernel
theorem dX3_assign_69 : decode cX3_assign 69 = .ok (.iadd, 1) := by decide +kernel
theorem dX3_assign_70 : decode cX3_assign 70 = .ok (.putfield 38, 3) := by decide +kernel
theorem dX3_assign_73 : decode cX3_assign 73 = .ok (.return_, 1) := by decide +kernel
theorem dX3_last_0 : decode cX3_last 0 = .ok (.iconst (-1), 1) := by decide +kernel
theorem dX3_last_1 : decode cX3_last 1 = .ok (.istore_n 2, 1) := by decide +kernel
theorem dX3_last_2 : decode cX3_last 2 = .ok (.iconst 0, 1) := by decide +kernel
theorem dX3_last_3 : decode cX3_last 3 = .ok (.istore_n 3, 1) := by decide +kernel
theorem dX3_last_4 : decode cX3_last 4 = .ok (.iload_n 3, 1) := by decide +kernel
theorem dX3_last_5 : decode cX3_last 5 = .ok (.aload_n 0, 1) := by decide +kernel
theorem dX3_last_6 : decode cX3_last 6 = .ok (.getfield 38, 3) := by decide +kernel
theorem dX3_last_9 : decode cX3_last 9 = .ok (.if_icmp .ge 25, 3) := by decide +kernel
theorem dX3_last_12 : decode cX3_last 12 = .ok (.aload_n 0, 1) := by decide +kernel
theorem dX3_last_13 : decode cX3_last 13 = .ok (.getfield 7, 3) := by decide +kernel
theorem dX3_last_16 : decode cX3_last 16 = .ok (.iload_n 3, 1) := by decide +kernel
theorem dX3_last_17 : decode cX3_last 17 = .ok (.iaload, 1) := by decide +kernel
theorem dX3_last_18 : decode cX3_last 18 = .ok (.iload_n 1, 1) := by decide +kernel
theorem dX3_last_19 : decode cX3_last 19 = .ok (.if_icmp .ne 7, 3) := by decide +kernel
theorem dX3_last_22 : decode cX3_last 22 = .ok (.iload_n 3, 1) := by decide +kernel
theorem dX3_last_23 : decode cX3_last 23 = .ok (.goto 4, 3) := by decide +kernel
theorem dX3_last_26 : decode cX3_last 26 = .ok (.iload_n 2, 1) := by decide +kernel
theorem dX3_last_27 : decode cX3_last 27 = .ok (.istore_n 2, 1) := by decide +kernel
theorem dX3_last_28 : decode cX3_last 28 = .ok (.iinc 3 1, 3) := by decide +kernel
end
section
theorem dX3_last_31 : decode cX3_last 31 = .ok (.goto (-27), 3) := by decide +kernel
theorem dX3_last_34 : decode cX3_last 34 = .ok (.iload_n 2, 1) := by decide +kernel
theorem dX3_last_35 : decode cX3_last 35 = .ok (.ireturn, 1) := by decide +kernel
set_option maxRecDepth 20000 in
theorem ggX3_kindOf_X3_last : GoodIn wsX3_kindOf wsX3_last := goodIn_r _ [6, 7, 8, 9, 10, 11, 12, 13, 14, 15, 16, 17, 18, 19] (by decide +kernel) (by decide +kernel)
set_option maxRecDepth 20000 in
theorem gX3_kindOf_X3_last : GoodIn wsX3_kindOf (wsV RX3 45 RX3 yX3_last wsX3_last) := goodIn_app (goodIn_of _ (by decide +kernel)) ggX3_kindOf_X3_last
theorem dX3_kindOf_0 : decode cX3_kindOf 0 = .ok (.aload_n 0, 1) := by decide +kernel
theorem dX3_kindOf_1 : decode cX3_kindOf 1 = .ok (.iload_n 1, 1) := by decide +kernel
theorem dX3_kindOf_2 : decode cX3_kindOf 2 = .ok (.invokevirtual 45, 3) := by decide +kernel
theorem dX3_kindOf_5 : decode cX3_kindOf 5 = .ok (.istore_n 2, 1) := by decide +kernel
theorem dX3_kindOf_6 : decode cX3_kindOf 6 = .ok (.iload_n 2, 1) := by decide +kernel
theorem dX3_kindOf_7 : decode cX3_kindOf 7 = .ok (.ifCond .ge 7, 3) := by decide +kernel
theorem dX3_kindOf_10 : decode cX3_kindOf 10 = .ok (.iconst 0, 1) := by decide +kernel
theorem dX3_kindOf_11 : decode cX3_kindOf 11 = .ok (.goto 9, 3) := by decide +kernel
theorem dX3_kindOf_14 : decode cX3_kindOf 14 = .ok (.aload_n 0, 1) := by decide +kernel
theorem dX3_kindOf_15 : decode cX3_kindOf 15 = .ok (.getfield 16, 3) := by decide +kernel
theorem dX3_kindOf_18 : decode cX3_kindOf 18 = .ok (.iload_n 2, 1) := by decide +kernel
theorem dX3_kindOf_19 : decode cX3_kindOf 19 = .ok (.iaload, 1) := by decide +kernel
theorem dX3_kindOf_20 : decode cX3_kindOf 20 = .ok (.ireturn, 1) := by decide +kernel
set_option maxRecDepth 20000 in
theorem ggX3_valueOf_X3_last : GoodIn wsX3_valueOf wsX3_last := goodIn_r _ [6, 7, 8, 9, 10, 11, 12, 13, 14, 15, 16, 17, 18, 19] (by decide +kernel) (by decide +kernel)
set_option maxRecDepth 20000 in
theorem gX3_valueOf_X3_last : GoodIn wsX3_valueOf (wsV RX3 45 RX3 yX3_last wsX3_last) := goodIn_app (goodIn_of _ (by decide +kernel)) ggX3_valueOf_X3_last
theorem dX3_valueOf_0 : decode cX3_valueOf 0 = .ok (.aload_n 0, 1) := by decide +kernel
theorem dX3_valueOf_1 : decode cX3_valueOf 1 = .ok (.iload_n 1, 1) := by decide +kernel
theorem dX3_valueOf_2 : decode cX3_valueOf 2 = .ok (.invokevirtual 45, 3) := by decide +kernel
theorem dX3_valueOf_5 : decode cX3_valueOf 5 = .ok (.istore_n 2, 1) := by decide +kernel
theorem dX3_valueOf_6 : decode cX3_valueOf 6 = .ok (.iload_n 2, 1) := by decide +kernel
theorem dX3_valueOf_7 : decode cX3_valueOf 7 = .ok (.ifCond .ge 7, 3) := by decide +kernel
theorem dX3_valueOf_10 : decode cX3_valueOf 10 = .ok (.iconst 0, 1) := by decide +kernel
theorem dX3_valueOf_11 : decode cX3_valueOf 11 = .ok (.goto 9, 3) := by decide +kernel
theorem dX3_valueOf_14 : decode cX3_valueOf 14 = .ok (.aload_n 0, 1) := by decide +kernel
theorem dX3_valueOf_15 : decode cX3_valueOf 15 = .ok (.getfield 19, 3) := by decide +kernel
theorem dX3_valueOf_18 : decode cX3_valueOf 18 = .ok (.iload_n 2, 1) := by decide +kernel
theorem dX3_valueOf_19 : decode cX3_valueOf 19 = .ok (.iaload, 1) := by decide +kernel
theorem dX3_valueOf_20 : decode cX3_valueOf 20 = .ok (.ireturn, 1) := by decide +kernel
theorem dX3_size_0 : decode cX3_size 0 = .ok (.iload_n 1, 1) := by decide +kernel
theorem dX3_size_1 : decode cX3_size 1 = .ok (.ifCond .ne 7, 3) := by decide +kernel
theorem dX3_size_4 : decode cX3_size 4 = .ok (.iconst 0, 1) := by decide +kernel
theorem dX3_size_5 : decode cX3_size 5 = .ok (.goto 18, 3) := by decide +kernel
theorem dX3_size_8 : decode cX3_size 8 = .ok (.aload_n 0, 1) := by decide +kernel
theorem dX3_size_9 : decode cX3_size 9 = .ok (.getfield 26, 3) := by decide +kernel
theorem dX3_size_12 : decode cX3_size 12 = .ok (.iload_n 1, 1) := by decide +kernel
theorem dX3_size_13 : decode cX3_size 13 = .ok (.iconst 1, 1) := by decide +kernel
theorem dX3_size_14 : decode cX3_size 14 = .ok (.iadd, 1) := by decide +kernel
theorem dX3_size_15 : decode cX3_size 15 = .ok (.iaload, 1) := by decide +kernel
theorem dX3_size_16 : decode cX3_size 16 = .ok (.aload_n 0, 1) := by decide +kernel
theorem dX3_size_17 : decode cX3_size 17 = .ok (.getfield 26, 3) := by decide +kernel
theorem dX3_size_20 : decode cX3_size 20 = .ok (.iload_n 1, 1) := by decide +kernel
theorem dX3_size_21 : decode cX3_size 21 = .ok (.iaload, 1) := by decide +kernel
theorem dX3_size_22 : decode cX3_size 22 = .ok (.isub, 1) := by decide +kernel
theorem dX3_size_23 : decode cX3_size 23 = .ok (.ireturn, 1) := by decide +kernel
set_option maxRecDepth 20000 in
theorem ggX3_set_X3_isCell : GoodIn wsX3_set wsX3_isCell := goodIn_r _ [5] (by decide +kernel) (by decide +kernel)
set_option maxRecDepth 20000 in
theorem gX3_set_X3_isCell : GoodIn wsX3_set (va_wsS RX3 49 yX3_isCell wsX3_isCell) := goodIn_app (goodIn_of _ (by decide +kernel)) ggX3_set_X3_isCell
set_option maxRecDepth 20000 in
theorem ggX3_set_X3_assign : GoodIn wsX3_set wsX3_assign := goodIn_r _ [9, 10, 11, 12, 13, 14, 15, 16, 17, 18, 4, 19, 20, 21, 22, 23, 24, 25, 26, 27, 28, 29, 30] (by decide +kernel) (by decide +kernel)
set_option maxRecDepth 20000 in
theorem gX3_set_X3_assign : GoodIn wsX3_set (wsV RX3 53 RX3 yX3_assign wsX3_assign) := goodIn_app (goodIn_of _ (by decide +kernel)) ggX3_set_X3_assign
theorem dX3_set_0 : decode cX3_set 0 = .ok (.aload_n 0, 1) := by decide +kernel
theorem dX3_set_1 : decode cX3_set 1 = .ok (.iconst 0, 1) := by decide +kernel
theorem dX3_set_2 : decode cX3_set 2 = .ok (.putfield 32, 3) := by decide +kernel
theorem dX3_set_5 : decode cX3_set 5 = .ok (.iload_n 1, 1) := by decide +kernel
theorem dX3_set_6 : decode cX3_set 6 = .ok (.invokestatic 49, 3) := by decide +kernel
theorem dX3_set_9 : decode cX3_set 9 = .ok (.ifCond .ne 5, 3) := by decide +kernel
theorem dX3_set_12 : decode cX3_set 12 = .ok (.iconst 0, 1) := by decide +kernel
theorem dX3_set_13 : decode cX3_set 13 = .ok (.ireturn, 1) := by decide +kernel
theorem dX3_set_14 : decode cX3_set 14 = .ok (.aload_n 0, 1) := by decide +kernel
theorem dX3_set_15 : decode cX3_set 15 = .ok (.iload_n 1, 1) := by decide +kernel
theorem dX3_set_16 : decode cX3_set 16 = .ok (.iconst 0, 1) := by decide +kernel
theorem dX3_set_17 : decode cX3_set 17 = .ok (.iload_n 2, 1) := by decide +kernel
theorem dX3_set_18 : decode cX3_set 18 = .ok (.iload_n 3, 1) := by decide +kernel
theorem dX3_set_19 : decode cX3_set 19 = .ok (.invokevirtual 53, 3) := by decide +kernel
theorem dX3_set_22 : decode cX3_set 22 = .ok (.iconst 1, 1) := by decide +kernel
theorem dX3_set_23 : decode cX3_set 23 = .ok (.ireturn, 1) := by decide +kernel
set_option maxRecDepth 20000 in
theorem ggX3_mean_X3_isName : GoodIn wsX3_mean wsX3_isName := goodIn_r _ [5] (by decide +kernel) (by decide +kernel)
set_option maxRecDepth 20000 in
theorem gX3_mean_X3_isName : GoodIn wsX3_mean (va_wsS RX3 57 yX3_isName wsX3_isName) := goodIn_app (goodIn_of _ (by decide +kernel)) ggX3_mean_X3_isName
set_option maxRecDepth 20000 in
theorem ggX3_mean_X3_assign : GoodIn wsX3_mean wsX3_assign := goodIn_r _ [9, 10, 11, 12, 13, 14, 15, 16, 17, 18, 4, 19, 20, 21, 22, 23, 24, 25, 26, 27, 28, 29, 30] (by decide +kernel) (by decide +kernel)
set_option maxRecDepth 20000 in
theorem gX3_mean_X3_assign : GoodIn wsX3_mean (wsV RX3 53 RX3 yX3_assign wsX3_assign) := goodIn_app (goodIn_of _ (by decide +kernel)) ggX3_mean_X3_assign
theorem dX3_mean_0 : decode cX3_mean 0 = .ok (.aload_n 0, 1) := by decide +kernel
theorem dX3_mean_1 : decode cX3_mean 1 = .ok (.iconst 0, 1) := by decide +kernel
theorem dX3_mean_2 : decode cX3_mean 2 = .ok (.putfield 32, 3) := by decide +kernel
theorem dX3_mean_5 : decode cX3_mean 5 = .ok (.iload_n 1, 1) := by decide +kernel
theorem dX3_mean_6 : decode cX3_mean 6 = .ok (.invokestatic 57, 3) := by decide +kernel
theorem dX3_mean_9 : decode cX3_mean 9 = .ok (.ifCond .eq 18, 3) := by decide +kernel
theorem dX3_mean_12 : decode cX3_mean 12 = .ok (.iload_n 2, 1) := by decide +kernel
theorem dX3_mean_13 : decode cX3_mean 13 = .ok (.ifCond .lt 14, 3) := by decide +kernel
theorem dX3_mean_16 : decode cX3_mean 16 = .ok (.iload_n 2, 1) := by decide +kernel
theorem dX3_mean_17 : decode cX3_mean 17 = .ok (.bipush 8, 2) := by decide +kernel
theorem dX3_mean_19 : decode cX3_mean 19 = .ok (.if_icmp .gt 8, 3) := by decide +kernel
theorem dX3_mean_22 : decode cX3_mean 22 = .ok (.iload_n 2, 1) := by decide +kernel
theorem dX3_mean_23 : decode cX3_mean 23 = .ok (.iconst 3, 1) := by decide +kernel
theorem dX3_mean_24 : decode cX3_mean 24 = .ok (.if_icmp .ne 5, 3) := by decide +kernel
theorem dX3_mean_27 : decode cX3_mean 27 = .ok (.iconst 0, 1) := by decide +kernel
theorem dX3_mean_28 : decode cX3_mean 28 = .ok (.ireturn, 1) := by decide +kernel
theorem dX3_mean_29 : decode cX3_mean 29 = .ok (.aload_n 0, 1) := by decide +kernel
theorem dX3_mean_30 : decode cX3_mean 30 = .ok (.sipush 3000, 3) := by decide +kernel
theorem dX3_mean_33 : decode cX3_mean 33 = .ok (.iload_n 1, 1) := by decide +kernel
theorem dX3_mean_34 : decode cX3_mean 34 = .ok (.iadd, 1) := by decide +kernel
theorem dX3_mean_35 : decode cX3_mean 35 = .ok (.iload_n 2, 1) := by decide +kernel
theorem dX3_mean_36 : decode cX3_mean 36 = .ok (.iload_n 3, 1) := by decide +kernel
theorem dX3_mean_37 : decode cX3_mean 37 = .ok (.iload 4, 2) := by decide +kernel
theorem dX3_mean_39 : decode cX3_mean 39 = .ok (.invokevirtual 53, 3) := by decide +kernel
theorem dX3_mean_42 : decode cX3_mean 42 = .ok (.iconst 1, 1) := by decide +kernel
theorem dX3_mean_43 : decode cX3_mean 43 = .ok (.ireturn, 1) := by decide +kernel
theorem dX3_draft_0 : decode cX3_draft 0 = .ok (.aload_n 0, 1) := by decide +kernel
theorem dX3_draft_1 : decode cX3_draft 1 = .ok (.iconst 0, 1) := by decide +kernel
theorem dX3_draft_2 : decode cX3_draft 2 = .ok (.putfield 32, 3) := by decide +kernel
theorem dX3_draft_5 : decode cX3_draft 5 = .ok (.aload_n 0, 1) := by decide +kernel
theorem dX3_draft_6 : decode cX3_draft 6 = .ok (.getfield 60, 3) := by decide +kernel
theorem dX3_draft_9 : decode cX3_draft 9 = .ok (.sipush 200, 3) := by decide +kernel
theorem dX3_draft_12 : decode cX3_draft 12 = .ok (.if_icmp .ne 5, 3) := by decide +kernel
theorem dX3_draft_15 : decode cX3_draft 15 = .ok (.iconst 0, 1) := by decide +kernel
theorem dX3_draft_16 : decode cX3_draft 16 = .ok (.ireturn, 1) := by decide +kernel
theorem dX3_draft_17 : decode cX3_draft 17 = .ok (.aload_n 0, 1) := by decide +kernel
theorem dX3_draft_18 : decode cX3_draft 18 = .ok (.getfield 29, 3) := by decide +kernel
theorem dX3_draft_21 : decode cX3_draft 21 = .ok (.aload_n 0, 1) := by decide +kernel
theorem dX3_draft_22 : decode cX3_draft 22 = .ok (.getfield 26, 3) := by decide +kernel
theorem dX3_draft_25 : decode cX3_draft 25 = .ok (.aload_n 0, 1) := by decide +kernel
theorem dX3_draft_26 : decode cX3_draft 26 = .ok (.getfield 22, 3) := by decide +kernel
theorem dX3_draft_29 : decode cX3_draft 29 = .ok (.iaload, 1) := by decide +kernel
theorem dX3_draft_30 : decode cX3_draft 30 = .ok (.aload_n 0, 1) := by decide +kernel
theorem dX3_draft_31 : decode cX3_draft 31 = .ok (.getfield 60, 3) := by decide +kernel
theorem dX3_draft_34 : decode cX3_draft 34 = .ok (.iadd, 1) := by decide +kernel
theorem dX3_draft_35 : decode cX3_draft 35 = .ok (.iload_n 1, 1) := by decide +kernel
theorem dX3_draft_36 : decode cX3_draft 36 = .ok (.iastore, 1) := by decide +kernel
theorem dX3_draft_37 : decode cX3_draft 37 = .ok (.aload_n 0, 1) := by decide +kernel
theorem dX3_draft_38 : decode cX3_draft 38 = .ok (.dup, 1) := by decide +kernel
theorem dX3_draft_39 : decode cX3_draft 39 = .ok (.getfield 60, 3) := by decide +kernel
theorem dX3_draft_42 : decode cX3_draft 42 = .ok (.iconst 1, 1) := by decide +kernel
theorem dX3_draft_43 : decode cX3_draft 43 = .ok (.iadd, 1) := by decide +kernel
theorem dX3_draft_44 : decode cX3_draft 44 = .ok (.putfield 60, 3) := by decide +kernel
theorem dX3_draft_47 : decode cX3_draft 47 = .ok (.iconst 1, 1) := by decide +kernel
theorem dX3_draft_48 : decode cX3_draft 48 = .ok (.ireturn, 1) := by decide +kernel
theorem dX3_taken_0 : decode cX3_taken 0 = .ok (.aload_n 0, 1) := by decide +kernel
theorem dX3_taken_1 : decode cX3_taken 1 = .ok (.getfield 22, 3) := by decide +kernel
theorem dX3_taken_4 : decode cX3_taken 4 = .ok (.istore_n 1, 1) := by decide +kernel
theorem dX3_taken_5 : decode cX3_taken 5 = .ok (.aload_n 0, 1) := by decide +kernel
theorem dX3_taken_6 : decode cX3_taken 6 = .ok (.dup, 1) := by decide +kernel
theorem dX3_taken_7 : decode cX3_taken 7 = .ok (.getfield 22, 3) := by decide +kernel
theorem dX3_taken_10 : decode cX3_taken 10 = .ok (.iconst 1, 1) := by decide +kernel
theorem dX3_taken_11 : decode cX3_taken 11 = .ok (.iadd, 1) := by decide +kernel
theorem dX3_taken_12 : decode cX3_taken 12 = .ok (.putfield 22, 3) := by decide +kernel
theorem dX3_taken_15 : decode cX3_taken 15 = .ok (.aload_n 0, 1) := by decide +kernel
theorem dX3_taken_16 : decode cX3_taken 16 = .ok (.getfield 26, 3) := by decide +kernel
theorem dX3_taken_19 : decode cX3_taken 19 = .ok (.aload_n 0, 1) := by decide +kernel
theorem dX3_taken_20 : decode cX3_taken 20 = .ok (.getfield 22, 3) := by decide +kernel
theorem dX3_taken_23 : decode cX3_taken 23 = .ok (.aload_n 0, 1) := by decide +kernel
theorem dX3_taken_24 : decode cX3_taken 24 = .ok (.getfield 26, 3) := by decide +kernel
theorem dX3_taken_27 : decode cX3_taken 27 = .ok (.iload_n 1, 1) := by decide +kernel
theorem dX3_taken_28 : decode cX3_taken 28 = .ok (.iaload, 1) := by decide +kernel
theorem dX3_taken_29 : decode cX3_taken 29 = .ok (.aload_n 0, 1) := by decide +kernel
theorem dX3_taken_30 : decode cX3_taken 30 = .ok (.getfield 60, 3) := by decide +kernel
theorem dX3_taken_33 : decode cX3_taken 33 = .ok (.iadd, 1) := by decide +kernel
theorem dX3_taken_34 : decode cX3_taken 34 = .ok (.iastore, 1) := by decide +kernel
theorem dX3_taken_35 : decode cX3_taken 35 = .ok (.aload_n 0, 1) := by decide +kernel
theorem dX3_taken_36 : decode cX3_taken 36 = .ok (.iconst 0, 1) := by decide +kernel
theorem dX3_taken_37 : decode cX3_taken 37 = .ok (.putfield 60, 3) := by decide +kernel
theorem dX3_taken_40 : decode cX3_taken 40 = .ok (.iload_n 1, 1) := by decide +kernel
theorem dX3_taken_41 : decode cX3_taken 41 = .ok (.ireturn, 1) := by decide +kernel
set_option maxRecDepth 20000 in
theorem ggX3_define_X3_isName : GoodIn wsX3_define wsX3_isName := goodIn_r _ [5] (by decide +kernel) (by decide +kernel)
set_option maxRecDepth 20000 in
theorem gX3_define_X3_isName : GoodIn wsX3_define (va_wsS RX3 57 yX3_isName wsX3_isName) := goodIn_app (goodIn_of _ (by decide +kernel)) ggX3_define_X3_isName
set_option maxRecDepth 20000 in
theorem ggX3_define_X3_fails : GoodIn wsX3_define wsX3_fails := goodIn_r _ [9, 1, 35, 36, 37, 38, 39, 40, 41, 42, 43, 44, 45] (by decide +kernel) (by decide +kernel)
set_option maxRecDepth 20000 in
theorem gX3_define_X3_fails : GoodIn wsX3_define (wsV RX3 63 RX3 yX3_fails wsX3_fails) := goodIn_app (goodIn_of _ (by decide +kernel)) ggX3_define_X3_fails
set_option maxRecDepth 20000 in
theorem ggX3_define_X3_taken : GoodIn wsX3_define wsX3_taken := goodIn_r _ [13, 14, 15, 16, 35, 36, 37, 38, 39, 40, 41, 42, 43, 44, 45] (by decide +kernel) (by decide +kernel)
set_option maxRecDepth 20000 in
theorem gX3_define_X3_taken : GoodIn wsX3_define (wsV RX3 67 RX3 yX3_taken wsX3_taken) := goodIn_app (goodIn_of _ (by decide +kernel)) ggX3_define_X3_taken
set_option maxRecDepth 20000 in
theorem ggX3_define_X3_assign : GoodIn wsX3_define wsX3_assign := goodIn_r _ [20, 21, 22, 23, 24, 25, 26, 27, 28, 29, 4, 30, 35, 36, 37, 38, 39, 40, 41, 42, 43, 44, 45] (by decide +kernel) (by decide +kernel)
set_option maxRecDepth 20000 in
theorem gX3_define_X3_assign : GoodIn wsX3_define (wsV RX3 53 RX3 yX3_assign wsX3_assign) := goodIn_app (goodIn_of _ (by decide +kernel)) ggX3_define_X3_assign
set_option maxRecDepth 20000 in
theorem ggX3_define_X3_size : GoodIn wsX3_define wsX3_size := goodIn_r _ [34, 15, 35, 36, 37, 38, 39, 40, 41, 42, 43, 44, 45] (by decide +kernel) (by decide +kernel)
set_option maxRecDepth 20000 in
theorem gX3_define_X3_size : GoodIn wsX3_define (wsV RX3 70 RX3 yX3_size wsX3_size) := goodIn_app (goodIn_of _ (by decide +kernel)) ggX3_define_X3_size
theorem dX3_define_0 : decode cX3_define 0 = .ok (.iload_n 1, 1) := by decide +kernel
theorem dX3_define_1 : decode cX3_define 1 = .ok (.invokestatic 57, 3) := by decide +kernel
theorem dX3_define_4 : decode cX3_define 4 = .ok (.ifCond .ne 8, 3) := by decide +kernel
theorem dX3_define_7 : decode cX3_define 7 = .ok (.aload_n 0, 1) := by decide +kernel
theorem dX3_define_8 : decode cX3_define 8 = .ok (.invokevirtual 63, 3) := by decide +kernel
theorem dX3_define_11 : decode cX3_define 11 = .ok (.ireturn, 1) := by decide +kernel
theorem dX3_define_12 : decode cX3_define 12 = .ok (.aload_n 0, 1) := by decide +kernel
theorem dX3_define_13 : decode cX3_define 13 = .ok (.iconst 0, 1) := by decide +kernel
theorem dX3_define_14 : decode cX3_define 14 = .ok (.putfield 32, 3) := by decide +kernel
theorem dX3_define_17 : decode cX3_define 17 = .ok (.aload_n 0, 1) := by decide +kernel
theorem dX3_define_18 : decode cX3_define 18 = .ok (.invokevirtual 67, 3) := by decide +kernel
theorem dX3_define_21 : decode cX3_define 21 = .ok (.istore_n 3, 1) := by decide +kernel
theorem dX3_define_22 : decode cX3_define 22 = .ok (.aload_n 0, 1) := by decide +kernel
theorem dX3_define_23 : decode cX3_define 23 = .ok (.sipush 3000, 3) := by decide +kernel
theorem dX3_define_26 : decode cX3_define 26 = .ok (.iload_n 1, 1) := by decide +kernel
theorem dX3_define_27 : decode cX3_define 27 = .ok (.iadd, 1) := by decide +kernel
theorem dX3_define_28 : decode cX3_define 28 = .ok (.iconst 3, 1) := by decide +kernel
theorem dX3_define_29 : decode cX3_define 29 = .ok (.iload_n 3, 1) := by decide +kernel
theorem dX3_define_30 : decode cX3_define 30 = .ok (.iload_n 2, 1) := by decide +kernel
theorem dX3_define_31 : decode cX3_define 31 = .ok (.invokevirtual 53, 3) := by decide +kernel
theorem dX3_define_34 : decode cX3_define 34 = .ok (.aload_n 0, 1) := by decide +kernel
theorem dX3_define_35 : decode cX3_define 35 = .ok (.iload_n 3, 1) := by decide +kernel
theorem dX3_define_36 : decode cX3_define 36 = .ok (.invokevirtual 70, 3) := by decide +kernel
theorem dX3_define_39 : decode cX3_define 39 = .ok (.ireturn, 1) := by decide +kernel
set_option maxRecDepth 20000 in
theorem ggX3_let_X3_isName : GoodIn wsX3_let wsX3_isName := goodIn_r _ [5] (by decide +kernel) (by decide +kernel)
set_option maxRecDepth 20000 in
theorem gX3_let_X3_isName : GoodIn wsX3_let (va_wsS RX3 57 yX3_isName wsX3_isName) := goodIn_app (goodIn_of _ (by decide +kernel)) ggX3_let_X3_isName
set_option maxRecDepth 20000 in
theorem ggX3_let_X3_kindOf : GoodIn wsX3_let wsX3_kindOf := goodIn_r _ [9, 10, 11, 12, 13, 4, 14, 15, 16, 32, 33, 34, 35, 36, 37, 38, 39, 40, 41, 42] (by decide +kernel) (by decide +kernel)
set_option maxRecDepth 20000 in
theorem gX3_let_X3_kindOf : GoodIn wsX3_let (wsV RX3 73 RX3 yX3_kindOf wsX3_kindOf) := goodIn_app (goodIn_of _ (by decide +kernel)) ggX3_let_X3_kindOf
set_option maxRecDepth 20000 in
theorem ggX3_let_X3_valueOf : GoodIn wsX3_let wsX3_valueOf := goodIn_r _ [20, 21, 11, 12, 13, 4, 14, 15, 16, 32, 33, 34, 35, 36, 37, 38, 39, 40, 41, 42] (by decide +kernel) (by decide +kernel)
set_option maxRecDepth 20000 in
theorem gX3_let_X3_valueOf : GoodIn wsX3_let (wsV RX3 76 RX3 yX3_valueOf wsX3_valueOf) := goodIn_app (goodIn_of _ (by decide +kernel)) ggX3_let_X3_valueOf
set_option maxRecDepth 20000 in
theorem ggX3_let_X3_assign : GoodIn wsX3_let wsX3_assign := goodIn_r _ [25, 26, 16, 15, 27, 10, 21, 28, 29, 30, 4, 31, 32, 33, 34, 35, 36, 37, 38, 39, 40, 41, 42] (by decide +kernel) (by decide +kernel)
set_option maxRecDepth 20000 in
theorem gX3_let_X3_assign : GoodIn wsX3_let (wsV RX3 53 RX3 yX3_assign wsX3_assign) := goodIn_app (goodIn_of _ (by decide +kernel)) ggX3_let_X3_assign
theorem dX3_let_0 : decode cX3_let 0 = .ok (.aload_n 0, 1) := by decide +kernel
theorem dX3_let_1 : decode cX3_let 1 = .ok (.iconst 0, 1) := by decide +kernel
theorem dX3_let_2 : decode cX3_let 2 = .ok (.putfield 32, 3) := by decide +kernel
theorem dX3_let_5 : decode cX3_let 5 = .ok (.iload_n 1, 1) := by decide +kernel
theorem dX3_let_6 : decode cX3_let 6 = .ok (.invokestatic 57, 3) := by decide +kernel
theorem dX3_let_9 : decode cX3_let 9 = .ok (.ifCond .eq 10, 3) := by decide +kernel
theorem dX3_let_12 : decode cX3_let 12 = .ok (.iload_n 2, 1) := by decide +kernel
theorem dX3_let_13 : decode cX3_let 13 = .ok (.invokestatic 57, 3) := by decide +kernel
theorem dX3_let_16 : decode cX3_let 16 = .ok (.ifCond .ne 5, 3) := by decide +kernel
theorem dX3_let_19 : decode cX3_let 19 = .ok (.iconst 0, 1) := by decide +kernel
theorem dX3_let_20 : decode cX3_let 20 = .ok (.ireturn, 1) := by decide +kernel
theorem dX3_let_21 : decode cX3_let 21 = .ok (.aload_n 0, 1) := by decide +kernel
theorem dX3_let_22 : decode cX3_let 22 = .ok (.sipush 3000, 3) := by decide +kernel
theorem dX3_let_25 : decode cX3_let 25 = .ok (.iload_n 1, 1) := by decide +kernel
theorem dX3_let_26 : decode cX3_let 26 = .ok (.iadd, 1) := by decide +kernel
theorem dX3_let_27 : decode cX3_let 27 = .ok (.aload_n 0, 1) := by decide +kernel
theorem dX3_let_28 : decode cX3_let 28 = .ok (.sipush 3000, 3) := by decide +kernel
theorem dX3_let_31 : decode cX3_let 31 = .ok (.iload_n 2, 1) := by decide +kernel
theorem dX3_let_32 : decode cX3_let 32 = .ok (.iadd, 1) := by decide +kernel
theorem dX3_let_33 : decode cX3_let 33 = .ok (.invokevirtual 73, 3) := by decide +kernel
theorem dX3_let_36 : decode cX3_let 36 = .ok (.aload_n 0, 1) := by decide +kernel
theorem dX3_let_37 : decode cX3_let 37 = .ok (.sipush 3000, 3) := by decide +kernel
theorem dX3_let_40 : decode cX3_let 40 = .ok (.iload_n 2, 1) := by decide +kernel
theorem dX3_let_41 : decode cX3_let 41 = .ok (.iadd, 1) := by decide +kernel
theorem dX3_let_42 : decode cX3_let 42 = .ok (.invokevirtual 76, 3) := by decide +kernel
theorem dX3_let_45 : decode cX3_let 45 = .ok (.iload_n 3, 1) := by decide +kernel
theorem dX3_let_46 : decode cX3_let 46 = .ok (.invokevirtual 53, 3) := by decide +kernel
theorem dX3_let_49 : decode cX3_let 49 = .ok (.iconst 1, 1) := by decide +kernel
theorem dX3_let_50 : decode cX3_let 50 = .ok (.ireturn, 1) := by decide +kernel
set_option maxRecDepth 20000 in
theorem ggX3_shape_X3_taken : GoodIn wsX3_shape wsX3_taken := goodIn_r _ [6, 7, 8, 9, 28, 29, 30, 31, 32, 33, 34, 35, 36, 37, 38] (by decide +kernel) (by decide +kernel)
set_option maxRecDepth 20000 in
theorem gX3_shape_X3_taken : GoodIn wsX3_shape (wsV RX3 67 RX3 yX3_taken wsX3_taken) := goodIn_app (goodIn_of _ (by decide +kernel)) ggX3_shape_X3_taken
set_option maxRecDepth 20000 in
theorem ggX3_shape_X3_assign : GoodIn wsX3_shape wsX3_assign := goodIn_r _ [13, 14, 15, 16, 17, 18, 19, 20, 21, 22, 5, 23, 28, 29, 30, 31, 32, 33, 34, 35, 36, 37, 38] (by decide +kernel) (by decide +kernel)
set_option maxRecDepth 20000 in
theorem gX3_shape_X3_assign : GoodIn wsX3_shape (wsV RX3 53 RX3 yX3_assign wsX3_assign) := goodIn_app (goodIn_of _ (by decide +kernel)) ggX3_shape_X3_assign
set_option maxRecDepth 20000 in
theorem ggX3_shape_X3_size : GoodIn wsX3_shape wsX3_size := goodIn_r _ [27, 8, 28, 29, 30, 31, 32, 33, 34, 35, 36, 37, 38] (by decide +kernel) (by decide +kernel)
set_option maxRecDepth 20000 in
theorem gX3_shape_X3_size : GoodIn wsX3_shape (wsV RX3 70 RX3 yX3_size wsX3_size) := goodIn_app (goodIn_of _ (by decide +kernel)) ggX3_shape_X3_size
theorem dX3_shape_0 : decode cX3_shape 0 = .ok (.aload_n 0, 1) := by decide +kernel
theorem dX3_shape_1 : decode cX3_shape 1 = .ok (.iconst 0, 1) := by decide +kernel
theorem dX3_shape_2 : decode cX3_shape 2 = .ok (.putfield 32, 3) := by decide +kernel
theorem dX3_shape_5 : decode cX3_shape 5 = .ok (.aload_n 0, 1) := by decide +kernel
theorem dX3_shape_6 : decode cX3_shape 6 = .ok (.invokevirtual 67, 3) := by decide +kernel
theorem dX3_shape_9 : decode cX3_shape 9 = .ok (.istore_n 2, 1) := by decide +kernel
theorem dX3_shape_10 : decode cX3_shape 10 = .ok (.aload_n 0, 1) := by decide +kernel
theorem dX3_shape_11 : decode cX3_shape 11 = .ok (.sipush 4000, 3) := by decide +kernel
theorem dX3_shape_14 : decode cX3_shape 14 = .ok (.iconst 3, 1) := by decide +kernel
theorem dX3_shape_15 : decode cX3_shape 15 = .ok (.iload_n 2, 1) := by decide +kernel
theorem dX3_shape_16 : decode cX3_shape 16 = .ok (.iload_n 1, 1) := by decide +kernel
theorem dX3_shape_17 : decode cX3_shape 17 = .ok (.invokevirtual 53, 3) := by decide +kernel
theorem dX3_shape_20 : decode cX3_shape 20 = .ok (.aload_n 0, 1) := by decide +kernel
theorem dX3_shape_21 : decode cX3_shape 21 = .ok (.iload_n 2, 1) := by decide +kernel
theorem dX3_shape_22 : decode cX3_shape 22 = .ok (.invokevirtual 70, 3) := by decide +kernel
theorem dX3_shape_25 : decode cX3_shape 25 = .ok (.ireturn, 1) := by decide +kernel
set_option maxRecDepth 20000 in
theorem ggX3_get_X3_isCell : GoodIn wsX3_get wsX3_isCell := goodIn_r _ [5] (by decide +kernel) (by decide +kernel)
set_option maxRecDepth 20000 in
theorem gX3_get_X3_isCell : GoodIn wsX3_get (va_wsS RX3 49 yX3_isCell wsX3_isCell) := goodIn_app (goodIn_of _ (by decide +kernel)) ggX3_get_X3_isCell
set_option maxRecDepth 20000 in
theorem ggX3_get_X3_fails : GoodIn wsX3_get wsX3_fails := goodIn_r _ [9, 1, 21, 22, 23, 24, 25, 26, 27, 28, 29, 30, 31] (by decide +kernel) (by decide +kernel)
set_option maxRecDepth 20000 in
theorem gX3_get_X3_fails : GoodIn wsX3_get (wsV RX3 63 RX3 yX3_fails wsX3_fails) := goodIn_app (goodIn_of _ (by decide +kernel)) ggX3_get_X3_fails
set_option maxRecDepth 20000 in
theorem ggX3_get_X3_valueOf : GoodIn wsX3_get wsX3_valueOf := goodIn_r _ [13, 14, 15, 16, 17, 4, 18, 19, 20, 21, 22, 23, 24, 25, 26, 27, 28, 29, 30, 31] (by decide +kernel) (by decide +kernel)
set_option maxRecDepth 20000 in
theorem gX3_get_X3_valueOf : GoodIn wsX3_get (wsV RX3 76 RX3 yX3_valueOf wsX3_valueOf) := goodIn_app (goodIn_of _ (by decide +kernel)) ggX3_get_X3_valueOf
theorem dX3_get_0 : decode cX3_get 0 = .ok (.iload_n 1, 1) := by decide +kernel
theorem dX3_get_1 : decode cX3_get 1 = .ok (.invokestatic 49, 3) := by decide +kernel
theorem dX3_get_4 : decode cX3_get 4 = .ok (.ifCond .ne 8, 3) := by decide +kernel
theorem dX3_get_7 : decode cX3_get 7 = .ok (.aload_n 0, 1) := by decide +kernel
theorem dX3_get_8 : decode cX3_get 8 = .ok (.invokevirtual 63, 3) := by decide +kernel
theorem dX3_get_11 : decode cX3_get 11 = .ok (.ireturn, 1) := by decide +kernel
theorem dX3_get_12 : decode cX3_get 12 = .ok (.aload_n 0, 1) := by decide +kernel
theorem dX3_get_13 : decode cX3_get 13 = .ok (.iconst 0, 1) := by decide +kernel
theorem dX3_get_14 : decode cX3_get 14 = .ok (.putfield 32, 3) := by decide +kernel
theorem dX3_get_17 : decode cX3_get 17 = .ok (.aload_n 0, 1) := by decide +kernel
theorem dX3_get_18 : decode cX3_get 18 = .ok (.iload_n 1, 1) := by decide +kernel
theorem dX3_get_19 : decode cX3_get 19 = .ok (.invokevirtual 76, 3) := by decide +kernel
theorem dX3_get_22 : decode cX3_get 22 = .ok (.ireturn, 1) := by decide +kernel
set_option maxRecDepth 20000 in
theorem ggX3_about_X3_isName : GoodIn wsX3_about wsX3_isName := goodIn_r _ [5] (by decide +kernel) (by decide +kernel)
set_option maxRecDepth 20000 in
theorem gX3_about_X3_isName : GoodIn wsX3_about (va_wsS RX3 57 yX3_isName wsX3_isName) := goodIn_app (goodIn_of _ (by decide +kernel)) ggX3_about_X3_isName
set_option maxRecDepth 20000 in
theorem ggX3_about_X3_fails : GoodIn wsX3_about wsX3_fails := goodIn_r _ [9, 1, 31, 32, 33, 34, 35, 36, 37, 38, 39, 40, 41] (by decide +kernel) (by decide +kernel)
set_option maxRecDepth 20000 in
theorem gX3_about_X3_fails : GoodIn wsX3_about (wsV RX3 63 RX3 yX3_fails wsX3_fails) := goodIn_app (goodIn_of _ (by decide +kernel)) ggX3_about_X3_fails
set_option maxRecDepth 20000 in
theorem ggX3_about_X3_kindOf : GoodIn wsX3_about wsX3_kindOf := goodIn_r _ [13, 14, 15, 16, 17, 4, 18, 19, 20, 31, 32, 33, 34, 35, 36, 37, 38, 39, 40, 41] (by decide +kernel) (by decide +kernel)
set_option maxRecDepth 20000 in
theorem gX3_about_X3_kindOf : GoodIn wsX3_about (wsV RX3 73 RX3 yX3_kindOf wsX3_kindOf) := goodIn_app (goodIn_of _ (by decide +kernel)) ggX3_about_X3_kindOf
set_option maxRecDepth 20000 in
theorem ggX3_about_X3_valueOf : GoodIn wsX3_about wsX3_valueOf := goodIn_r _ [24, 25, 15, 16, 17, 4, 18, 19, 20, 31, 32, 33, 34, 35, 36, 37, 38, 39, 40, 41] (by decide +kernel) (by decide +kernel)
set_option maxRecDepth 20000 in
theorem gX3_about_X3_valueOf : GoodIn wsX3_about (wsV RX3 76 RX3 yX3_valueOf wsX3_valueOf) := goodIn_app (goodIn_of _ (by decide +kernel)) ggX3_about_X3_valueOf
set_option maxRecDepth 20000 in
theorem ggX3_about_X3_size : GoodIn wsX3_about wsX3_size := goodIn_r _ [29, 30, 31, 32, 33, 34, 35, 36, 37, 38, 39, 40, 41] (by decide +kernel) (by decide +kernel)
set_option maxRecDepth 20000 in
theorem gX3_about_X3_size : GoodIn wsX3_about (wsV RX3 70 RX3 yX3_size wsX3_size) := goodIn_app (goodIn_of _ (by decide +kernel)) ggX3_about_X3_size
theorem dX3_about_0 : decode cX3_about 0 = .ok (.iload_n 1, 1) := by decide +kernel
theorem dX3_about_1 : decode cX3_about 1 = .ok (.invokestatic 57, 3) := by decide +kernel
theorem dX3_about_4 : decode cX3_about 4 = .ok (.ifCond .eq 12, 3) := by decide +kernel
theorem dX3_about_7 : decode cX3_about 7 = .ok (.iload_n 2, 1) := by decide +kernel
theorem dX3_about_8 : decode cX3_about 8 = .ok (.ifCond .lt 8, 3) := by decide +kernel
theorem dX3_about_11 : decode cX3_about 11 = .ok (.iload_n 2, 1) := by decide +kernel
theorem dX3_about_12 : decode cX3_about 12 = .ok (.iconst 1, 1) := by decide +kernel
theorem dX3_about_13 : decode cX3_about 13 = .ok (.if_icmp .le 8, 3) := by decide +kernel
theorem dX3_about_16 : decode cX3_about 16 = .ok (.aload_n 0, 1) := by decide +kernel
theorem dX3_about_17 : decode cX3_about 17 = .ok (.invokevirtual 63, 3) := by decide +kernel
theorem dX3_about_20 : decode cX3_about 20 = .ok (.ireturn, 1) := by decide +kernel
theorem dX3_about_21 : decode cX3_about 21 = .ok (.aload_n 0, 1) := by decide +kernel
theorem dX3_about_22 : decode cX3_about 22 = .ok (.iconst 0, 1) := by decide +kernel
theorem dX3_about_23 : decode cX3_about 23 = .ok (.putfield 32, 3) := by decide +kernel
theorem dX3_about_26 : decode cX3_about 26 = .ok (.aload_n 0, 1) := by decide +kernel
theorem dX3_about_27 : decode cX3_about 27 = .ok (.sipush 3000, 3) := by decide +kernel
theorem dX3_about_30 : decode cX3_about 30 = .ok (.iload_n 1, 1) := by decide +kernel
theorem dX3_about_31 : decode cX3_about 31 = .ok (.iadd, 1) := by decide +kernel
theorem dX3_about_32 : decode cX3_about 32 = .ok (.invokevirtual 73, 3) := by decide +kernel
theorem dX3_about_35 : decode cX3_about 35 = .ok (.istore_n 3, 1) := by decide +kernel
theorem dX3_about_36 : decode cX3_about 36 = .ok (.iload_n 2, 1) := by decide +kernel
theorem dX3_about_37 : decode cX3_about 37 = .ok (.ifCond .ne 7, 3) := by decide +kernel
theorem dX3_about_40 : decode cX3_about 40 = .ok (.iload_n 3, 1) := by decide +kernel
theorem dX3_about_41 : decode cX3_about 41 = .ok (.goto 33, 3) := by decide +kernel
theorem dX3_about_44 : decode cX3_about 44 = .ok (.iload_n 3, 1) := by decide +kernel
theorem dX3_about_45 : decode cX3_about 45 = .ok (.iconst 3, 1) := by decide +kernel
theorem dX3_about_46 : decode cX3_about 46 = .ok (.if_icmp .ne 19, 3) := by decide +kernel
theorem dX3_about_49 : decode cX3_about 49 = .ok (.aload_n 0, 1) := by decide +kernel
theorem dX3_about_50 : decode cX3_about 50 = .ok (.aload_n 0, 1) := by decide +kernel
theorem dX3_about_51 : decode cX3_about 51 = .ok (.sipush 3000, 3) := by decide +kernel
theorem dX3_about_54 : decode cX3_about 54 = .ok (.iload_n 1, 1) := by decide +kernel
theorem dX3_about_55 : decode cX3_about 55 = .ok (.iadd, 1) := by decide +kernel
theorem dX3_about_56 : decode cX3_about 56 = .ok (.invokevirtual 76, 3) := by decide +kernel
theorem dX3_about_59 : decode cX3_about 59 = .ok (.invokevirtual 70, 3) := by decide +kernel
theorem dX3_about_62 : decode cX3_about 62 = .ok (.goto 12, 3) := by decide +kernel
theorem dX3_about_65 : decode cX3_about 65 = .ok (.aload_n 0, 1) := by decide +kernel
theorem dX3_about_66 : decode cX3_about 66 = .ok (.sipush 3000, 3) := by decide +kernel
theorem dX3_about_69 : decode cX3_about 69 = .ok (.iload_n 1, 1) := by decide +kernel
theorem dX3_about_70 : decode cX3_about 70 = .ok (.iadd, 1) := by decide +kernel
theorem dX3_about_71 : decode cX3_about 71 = .ok (.invokevirtual 76, 3) := by decide +kernel
theorem dX3_about_74 : decode cX3_about 74 = .ok (.ireturn, 1) := by decide +kernel
set_option maxRecDepth 20000 in
theorem ggX3_number_X3_valueOf : GoodIn wsX3_number wsX3_valueOf := goodIn_r _ [8, 9, 10, 11, 12, 7, 13, 14, 15, 32, 33, 34, 35, 36, 37, 38, 39, 40, 41, 42] (by decide +kernel) (by decide +kernel)
set_option maxRecDepth 20000 in
theorem gX3_number_X3_valueOf : GoodIn wsX3_number (wsV RX3 76 RX3 yX3_valueOf wsX3_valueOf) := goodIn_app (goodIn_of _ (by decide +kernel)) ggX3_number_X3_valueOf
set_option maxRecDepth 20000 in
theorem ggX3_number_X3_size : GoodIn wsX3_number wsX3_size := goodIn_r _ [19, 3, 32, 33, 34, 35, 36, 37, 38, 39, 40, 41, 42] (by decide +kernel) (by decide +kernel)
set_option maxRecDepth 20000 in
theorem gX3_number_X3_size : GoodIn wsX3_number (wsV RX3 70 RX3 yX3_size wsX3_size) := goodIn_app (goodIn_of _ (by decide +kernel)) ggX3_number_X3_size
set_option maxRecDepth 20000 in
theorem ggX3_number_X3_isName : GoodIn wsX3_number wsX3_isName := goodIn_r _ [22] (by decide +kernel) (by decide +kernel)
set_option maxRecDepth 20000 in
theorem gX3_number_X3_isName : GoodIn wsX3_number (va_wsS RX3 57 yX3_isName wsX3_isName) := goodIn_app (goodIn_of _ (by decide +kernel)) ggX3_number_X3_isName
set_option maxRecDepth 20000 in
theorem ggX3_number_X3_kindOf : GoodIn wsX3_number wsX3_kindOf := goodIn_r _ [26, 27, 10, 11, 12, 7, 13, 14, 15, 32, 33, 34, 35, 36, 37, 38, 39, 40, 41, 42] (by decide +kernel) (by decide +kernel)
set_option maxRecDepth 20000 in
theorem gX3_number_X3_kindOf : GoodIn wsX3_number (wsV RX3 73 RX3 yX3_kindOf wsX3_kindOf) := goodIn_app (goodIn_of _ (by decide +kernel)) ggX3_number_X3_kindOf
set_option maxRecDepth 20000 in
theorem ggX3_number_X3_fails : GoodIn wsX3_number wsX3_fails := goodIn_r _ [31, 1, 32, 33, 34, 35, 36, 37, 38, 39, 40, 41, 42] (by decide +kernel) (by decide +kernel)
set_option maxRecDepth 20000 in
theorem gX3_number_X3_fails : GoodIn wsX3_number (wsV RX3 63 RX3 yX3_fails wsX3_fails) := goodIn_app (goodIn_of _ (by decide +kernel)) ggX3_number_X3_fails
theorem dX3_number_0 : decode cX3_number 0 = .ok (.aload_n 0, 1) := by decide +kernel
theorem dX3_number_1 : decode cX3_number 1 = .ok (.iconst 0, 1) := by decide +kernel
theorem dX3_number_2 : decode cX3_number 2 = .ok (.putfield 32, 3) := by decide +kernel
theorem dX3_number_5 : decode cX3_number 5 = .ok (.iload_n 1, 1) := by decide +kernel
theorem dX3_number_6 : decode cX3_number 6 = .ok (.iconst (-1), 1) := by decide +kernel
theorem dX3_number_7 : decode cX3_number 7 = .ok (.if_icmp .ne 20, 3) := by decide +kernel
theorem dX3_number_10 : decode cX3_number 10 = .ok (.iload_n 2, 1) := by decide +kernel
theorem dX3_number_11 : decode cX3_number 11 = .ok (.iconst (-1), 1) := by decide +kernel
theorem dX3_number_12 : decode cX3_number 12 = .ok (.if_icmp .ne 15, 3) := by decide +kernel
theorem dX3_number_15 : decode cX3_number 15 = .ok (.aload_n 0, 1) := by decide +kernel
theorem dX3_number_16 : decode cX3_number 16 = .ok (.aload_n 0, 1) := by decide +kernel
theorem dX3_number_17 : decode cX3_number 17 = .ok (.sipush 4000, 3) := by decide +kernel
theorem dX3_number_20 : decode cX3_number 20 = .ok (.invokevirtual 76, 3) := by decide +kernel
theorem dX3_number_23 : decode cX3_number 23 = .ok (.invokevirtual 70, 3) := by decide +kernel
theorem dX3_number_26 : decode cX3_number 26 = .ok (.ireturn, 1) := by decide +kernel
theorem dX3_number_27 : decode cX3_number 27 = .ok (.iload_n 1, 1) := by decide +kernel
theorem dX3_number_28 : decode cX3_number 28 = .ok (.iconst (-1), 1) := by decide +kernel
theorem dX3_number_29 : decode cX3_number 29 = .ok (.if_icmp .ne 9, 3) := by decide +kernel
theorem dX3_number_32 : decode cX3_number 32 = .ok (.sipush 4000, 3) := by decide +kernel
theorem dX3_number_35 : decode cX3_number 35 = .ok (.goto 19, 3) := by decide +kernel
theorem dX3_number_38 : decode cX3_number 38 = .ok (.iload_n 1, 1) := by decide +kernel
theorem dX3_number_39 : decode cX3_number 39 = .ok (.invokestatic 57, 3) := by decide +kernel
theorem dX3_number_42 : decode cX3_number 42 = .ok (.ifCond .eq 11, 3) := by decide +kernel
theorem dX3_number_45 : decode cX3_number 45 = .ok (.sipush 3000, 3) := by decide +kernel
theorem dX3_number_48 : decode cX3_number 48 = .ok (.iload_n 1, 1) := by decide +kernel
theorem dX3_number_49 : decode cX3_number 49 = .ok (.iadd, 1) := by decide +kernel
theorem dX3_number_50 : decode cX3_number 50 = .ok (.goto 4, 3) := by decide +kernel
theorem dX3_number_53 : decode cX3_number 53 = .ok (.iconst (-1), 1) := by decide +kernel
theorem dX3_number_54 : decode cX3_number 54 = .ok (.istore_n 3, 1) := by decide +kernel
theorem dX3_number_55 : decode cX3_number 55 = .ok (.iload_n 3, 1) := by decide +kernel
theorem dX3_number_56 : decode cX3_number 56 = .ok (.ifCond .lt 27, 3) := by decide +kernel
theorem dX3_number_59 : decode cX3_number 59 = .ok (.iload_n 3, 1) := by decide +kernel
theorem dX3_number_60 : decode cX3_number 60 = .ok (.sipush 4000, 3) := by decide +kernel
theorem dX3_number_63 : decode cX3_number 63 = .ok (.if_icmp .eq 12, 3) := by decide +kernel
theorem dX3_number_66 : decode cX3_number 66 = .ok (.aload_n 0, 1) := by decide +kernel
theorem dX3_number_67 : decode cX3_number 67 = .ok (.iload_n 3, 1) := by decide +kernel
theorem dX3_number_68 : decode cX3_number 68 = .ok (.invokevirtual 73, 3) := by decide +kernel
theorem dX3_number_71 : decode cX3_number 71 = .ok (.iconst 3, 1) := by decide +kernel
theorem dX3_number_72 : decode cX3_number 72 = .ok (.if_icmp .ne 11, 3) := by decide +kernel
theorem dX3_number_75 : decode cX3_number 75 = .ok (.aload_n 0, 1) := by decide +kernel
theorem dX3_number_76 : decode cX3_number 76 = .ok (.iload_n 3, 1) := by decide +kernel
theorem dX3_number_77 : decode cX3_number 77 = .ok (.invokevirtual 76, 3) := by decide +kernel
theorem dX3_number_80 : decode cX3_number 80 = .ok (.goto 4, 3) := by decide +kernel
theorem dX3_number_83 : decode cX3_number 83 = .ok (.iconst 0, 1) := by decide +kernel
theorem dX3_number_84 : decode cX3_number 84 = .ok (.istore 4, 2) := by decide +kernel
theorem dX3_number_86 : decode cX3_number 86 = .ok (.iload_n 2, 1) := by decide +kernel
theorem dX3_number_87 : decode cX3_number 87 = .ok (.ifCond .lt 13, 3) := by decide +kernel
theorem dX3_number_90 : decode cX3_number 90 = .ok (.iload_n 2, 1) := by decide +kernel
theorem dX3_number_91 : decode cX3_number 91 = .ok (.aload_n 0, 1) := by decide +kernel
theorem dX3_number_92 : decode cX3_number 92 = .ok (.iload 4, 2) := by decide +kernel
theorem dX3_number_94 : decode cX3_number 94 = .ok (.invokevirtual 70, 3) := by decide +kernel
theorem dX3_number_97 : decode cX3_number 97 = .ok (.if_icmp .lt 10, 3) := by decide +kernel
theorem dX3_number_100 : decode cX3_number 100 = .ok (.aload_n 0, 1) := by decide +kernel
theorem dX3_number_101 : decode cX3_number 101 = .ok (.invokevirtual 63, 3) := by decide +kernel
theorem dX3_number_104 : decode cX3_number 104 = .ok (.goto 17, 3) := by decide +kernel
theorem dX3_number_107 : decode cX3_number 107 = .ok (.aload_n 0, 1) := by decide +kernel
theorem dX3_number_108 : decode cX3_number 108 = .ok (.getfield 29, 3) := by decide +kernel
theorem dX3_number_111 : decode cX3_number 111 = .ok (.aload_n 0, 1) := by decide +kernel
theorem dX3_number_112 : decode cX3_number 112 = .ok (.getfield 26, 3) := by decide +kernel
theorem dX3_number_115 : decode cX3_number 115 = .ok (.iload 4, 2) := by decide +kernel
theorem dX3_number_117 : decode cX3_number 117 = .ok (.iaload, 1) := by decide +kernel
theorem dX3_number_118 : decode cX3_number 118 = .ok (.iload_n 2, 1) := by decide +kernel
theorem dX3_number_119 : decode cX3_number 119 = .ok (.iadd, 1) := by decide +kernel
theorem dX3_number_120 : decode cX3_number 120 = .ok (.iaload, 1) := by decide +kernel
theorem dX3_number_121 : decode cX3_number 121 = .ok (.ireturn, 1) := by decide +kernel
set_option maxRecDepth 20000 in
theorem ggX3_kept_X3_size : GoodIn wsX3_kept wsX3_size := goodIn_r _ [10, 11, 12, 13, 14, 15, 16, 17, 18, 19, 20, 21, 22] (by decide +kernel) (by decide +kernel)
set_option maxRecDepth 20000 in
theorem gX3_kept_X3_size : GoodIn wsX3_kept (wsV RX3 70 RX3 yX3_size wsX3_size) := goodIn_app (goodIn_of _ (by decide +kernel)) ggX3_kept_X3_size
theorem dX3_kept_0 : decode cX3_kept 0 = .ok (.iconst 0, 1) := by decide +kernel
theorem dX3_kept_1 : decode cX3_kept 1 = .ok (.istore_n 1, 1) := by decide +kernel
theorem dX3_kept_2 : decode cX3_kept 2 = .ok (.iconst 1, 1) := by decide +kernel
theorem dX3_kept_3 : decode cX3_kept 3 = .ok (.istore_n 2, 1) := by decide +kernel
theorem dX3_kept_4 : decode cX3_kept 4 = .ok (.iload_n 2, 1) := by decide +kernel
theorem dX3_kept_5 : decode cX3_kept 5 = .ok (.aload_n 0, 1) := by decide +kernel
theorem dX3_kept_6 : decode cX3_kept 6 = .ok (.getfield 22, 3) := by decide +kernel
theorem dX3_kept_9 : decode cX3_kept 9 = .ok (.if_icmp .ge 103, 3) := by decide +kernel
theorem dX3_kept_12 : decode cX3_kept 12 = .ok (.iconst 0, 1) := by decide +kernel
theorem dX3_kept_13 : decode cX3_kept 13 = .ok (.istore_n 3, 1) := by decide +kernel
theorem dX3_kept_14 : decode cX3_kept 14 = .ok (.iconst 0, 1) := by decide +kernel
theorem dX3_kept_15 : decode cX3_kept 15 = .ok (.istore 4, 2) := by decide +kernel
theorem dX3_kept_17 : decode cX3_kept 17 = .ok (.iload 4, 2) := by decide +kernel
theorem dX3_kept_19 : decode cX3_kept 19 = .ok (.aload_n 0, 1) := by decide +kernel
theorem dX3_kept_20 : decode cX3_kept 20 = .ok (.getfield 38, 3) := by decide +kernel
theorem dX3_kept_23 : decode cX3_kept 23 = .ok (.if_icmp .ge 67, 3) := by decide +kernel
theorem dX3_kept_26 : decode cX3_kept 26 = .ok (.iload_n 3, 1) := by decide +kernel
theorem dX3_kept_27 : decode cX3_kept 27 = .ok (.ifCond .ne 51, 3) := by decide +kernel
theorem dX3_kept_30 : decode cX3_kept 30 = .ok (.aload_n 0, 1) := by decide +kernel
theorem dX3_kept_31 : decode cX3_kept 31 = .ok (.getfield 7, 3) := by decide +kernel
theorem dX3_kept_34 : decode cX3_kept 34 = .ok (.iload 4, 2) := by decide +kernel
theorem dX3_kept_36 : decode cX3_kept 36 = .ok (.iaload, 1) := by decide +kernel
theorem dX3_kept_37 : decode cX3_kept 37 = .ok (.sipush 3000, 3) := by decide +kernel
theorem dX3_kept_40 : decode cX3_kept 40 = .ok (.if_icmp .lt 42, 3) := by decide +kernel
theorem dX3_kept_43 : decode cX3_kept 43 = .ok (.aload_n 0, 1) := by decide +kernel
theorem dX3_kept_44 : decode cX3_kept 44 = .ok (.getfield 7, 3) := by decide +kernel
theorem dX3_kept_47 : decode cX3_kept 47 = .ok (.iload 4, 2) := by decide +kernel
theorem dX3_kept_49 : decode cX3_kept 49 = .ok (.iaload, 1) := by decide +kernel
theorem dX3_kept_50 : decode cX3_kept 50 = .ok (.sipush 4000, 3) := by decide +kernel
theorem dX3_kept_53 : decode cX3_kept 53 = .ok (.if_icmp .ge 29, 3) := by decide +kernel
theorem dX3_kept_56 : decode cX3_kept 56 = .ok (.aload_n 0, 1) := by decide +kernel
theorem dX3_kept_57 : decode cX3_kept 57 = .ok (.getfield 16, 3) := by decide +kernel
theorem dX3_kept_60 : decode cX3_kept 60 = .ok (.iload 4, 2) := by decide +kernel
theorem dX3_kept_62 : decode cX3_kept 62 = .ok (.iaload, 1) := by decide +kernel
theorem dX3_kept_63 : decode cX3_kept 63 = .ok (.iconst 3, 1) := by decide +kernel
theorem dX3_kept_64 : decode cX3_kept 64 = .ok (.if_icmp .ne 18, 3) := by decide +kernel
theorem dX3_kept_67 : decode cX3_kept 67 = .ok (.aload_n 0, 1) := by decide +kernel
theorem dX3_kept_68 : decode cX3_kept 68 = .ok (.getfield 19, 3) := by decide +kernel
theorem dX3_kept_71 : decode cX3_kept 71 = .ok (.iload 4, 2) := by decide +kernel
theorem dX3_kept_73 : decode cX3_kept 73 = .ok (.iaload, 1) := by decide +kernel
theorem dX3_kept_74 : decode cX3_kept 74 = .ok (.iload_n 2, 1) := by decide +kernel
theorem dX3_kept_75 : decode cX3_kept 75 = .ok (.if_icmp .ne 7, 3) := by decide +kernel
theorem dX3_kept_78 : decode cX3_kept 78 = .ok (.iconst 1, 1) := by decide +kernel
theorem dX3_kept_79 : decode cX3_kept 79 = .ok (.goto 4, 3) := by decide +kernel
theorem dX3_kept_82 : decode cX3_kept 82 = .ok (.iconst 0, 1) := by decide +kernel
theorem dX3_kept_83 : decode cX3_kept 83 = .ok (.istore_n 3, 1) := by decide +kernel
theorem dX3_kept_84 : decode cX3_kept 84 = .ok (.iinc 4 1, 3) := by decide +kernel
theorem dX3_kept_87 : decode cX3_kept 87 = .ok (.goto (-70), 3) := by decide +kernel
theorem dX3_kept_90 : decode cX3_kept 90 = .ok (.iload_n 1, 1) := by decide +kernel
theorem dX3_kept_91 : decode cX3_kept 91 = .ok (.iload_n 3, 1) := by decide +kernel
theorem dX3_kept_92 : decode cX3_kept 92 = .ok (.ifCond .eq 11, 3) := by decide +kernel
theorem dX3_kept_95 : decode cX3_kept 95 = .ok (.aload_n 0, 1) := by decide +kernel
theorem dX3_kept_96 : decode cX3_kept 96 = .ok (.iload_n 2, 1) := by decide +kernel
theorem dX3_kept_97 : decode cX3_kept 97 = .ok (.invokevirtual 70, 3) := by decide +kernel
theorem dX3_kept_100 : decode cX3_kept 100 = .ok (.goto 4, 3) := by decide +kernel
theorem dX3_kept_103 : decode cX3_kept 103 = .ok (.iconst 0, 1) := by decide +kernel
theorem dX3_kept_104 : decode cX3_kept 104 = .ok (.iadd, 1) := by decide +kernel
theorem dX3_kept_105 : decode cX3_kept 105 = .ok (.istore_n 1, 1) := by decide +kernel
theorem dX3_kept_106 : decode cX3_kept 106 = .ok (.iinc 2 1, 3) := by decide +kernel
theorem dX3_kept_109 : decode cX3_kept 109 = .ok (.goto (-105), 3) := by decide +kernel
theorem dX3_kept_112 : decode cX3_kept 112 = .ok (.iload_n 1, 1) := by decide +kernel
theorem dX3_kept_113 : decode cX3_kept 113 = .ok (.ireturn, 1) := by decide +kernel
set_option maxRecDepth 20000 in
theorem ggX3_count_X3_kept : GoodIn wsX3_count wsX3_kept := goodIn_r _ [8, 9, 10, 11, 12, 13, 14, 15, 16, 7, 17, 18, 19, 20, 21, 22, 23, 24, 25, 26, 27, 28, 29] (by decide +kernel) (by decide +kernel)
set_option maxRecDepth 20000 in
theorem gX3_count_X3_kept : GoodIn wsX3_count (wsV RX3 79 RX3 yX3_kept wsX3_kept) := goodIn_app (goodIn_of _ (by decide +kernel)) ggX3_count_X3_kept
theorem dX3_count_0 : decode cX3_count 0 = .ok (.aload_n 0, 1) := by decide +kernel
theorem dX3_count_1 : decode cX3_count 1 = .ok (.iconst 0, 1) := by decide +kernel
theorem dX3_count_2 : decode cX3_count 2 = .ok (.putfield 32, 3) := by decide +kernel
theorem dX3_count_5 : decode cX3_count 5 = .ok (.iload_n 1, 1) := by decide +kernel
theorem dX3_count_6 : decode cX3_count 6 = .ok (.ifCond .ne 10, 3) := by decide +kernel
theorem dX3_count_9 : decode cX3_count 9 = .ok (.aload_n 0, 1) := by decide +kernel
theorem dX3_count_10 : decode cX3_count 10 = .ok (.getfield 35, 3) := by decide +kernel
theorem dX3_count_13 : decode cX3_count 13 = .ok (.goto 28, 3) := by decide +kernel
theorem dX3_count_16 : decode cX3_count 16 = .ok (.iload_n 1, 1) := by decide +kernel
theorem dX3_count_17 : decode cX3_count 17 = .ok (.iconst 1, 1) := by decide +kernel
theorem dX3_count_18 : decode cX3_count 18 = .ok (.if_icmp .ne 10, 3) := by decide +kernel
theorem dX3_count_21 : decode cX3_count 21 = .ok (.aload_n 0, 1) := by decide +kernel
theorem dX3_count_22 : decode cX3_count 22 = .ok (.getfield 60, 3) := by decide +kernel
theorem dX3_count_25 : decode cX3_count 25 = .ok (.goto 16, 3) := by decide +kernel
theorem dX3_count_28 : decode cX3_count 28 = .ok (.iload_n 1, 1) := by decide +kernel
theorem dX3_count_29 : decode cX3_count 29 = .ok (.iconst 2, 1) := by decide +kernel
theorem dX3_count_30 : decode cX3_count 30 = .ok (.if_icmp .ne 10, 3) := by decide +kernel
theorem dX3_count_33 : decode cX3_count 33 = .ok (.aload_n 0, 1) := by decide +kernel
theorem dX3_count_34 : decode cX3_count 34 = .ok (.invokevirtual 79, 3) := by decide +kernel
theorem dX3_count_37 : decode cX3_count 37 = .ok (.goto 4, 3) := by decide +kernel
theorem dX3_count_40 : decode cX3_count 40 = .ok (.iconst (-1), 1) := by decide +kernel
theorem dX3_count_41 : decode cX3_count 41 = .ok (.ireturn, 1) := by decide +kernel
set_option maxRecDepth 20000 in
theorem ggL_define_X2_define : GoodIn wsL_define wsX2_define := goodIn_ca (goodIn_r _ [6, 7, 8, 9, 10, 11, 12, 5, 13, 14, 15, 16, 17, 18, 19, 20, 21, 22, 23, 24, 25, 26, 27, 28, 29, 30, 31, 32, 33, 34, 35, 36, 37, 38, 39, 40, 41, 42, 43, 44, 45, 46, 47, 48, 49, 50, 51, 52, 53, 54, 55, 56, 57, 58, 59, 60, 61, 62, 63, 64, 65, 66, 67, 68, 69, 70, 71, 72, 73, 74, 75, 76, 77, 78, 79, 80, 81, 82, 83, 84, 85, 86, 87, 88, 89, 90, 91, 92, 93, 94, 95, 96, 97, 98, 99, 100, 101] (by decide +kernel) (by decide +kernel)) (goodIn_sub (fun _ h => List.mem_cons_of_mem _ (List.mem_append_right _ h)) (by decide +kernel))
set_option maxRecDepth 20000 in
theorem gL_define_X2_define : GoodIn wsL_define (wsV RL 7 RX2 yX2_define wsX2_define) := goodIn_app (goodIn_of _ (by decide +kernel)) ggL_define_X2_define
theorem dL_define_0 : decode cL_define 0 = .ok (.aload_n 3, 1) := by decide +kernel
theorem dL_define_1 : decode cL_define 1 = .ok (.iconst 0, 1) := by decide +kernel
theorem dL_define_2 : decode cL_define 2 = .ok (.aload_n 0, 1) := by decide +kernel
theorem dL_define_3 : decode cL_define 3 = .ok (.iload_n 1, 1) := by decide +kernel
theorem dL_define_4 : decode cL_define 4 = .ok (.iload_n 2, 1) := by decide +kernel
theorem dL_define_5 : decode cL_define 5 = .ok (.invokevirtual 7, 3) := by decide +kernel
theorem dL_define_8 : decode cL_define 8 = .ok (.i2l, 1) := by decide +kernel
theorem dL_define_9 : decode cL_define 9 = .ok (.lastore, 1) := by decide +kernel
theorem dL_define_10 : decode cL_define 10 = .ok (.goto 7, 3) := by decide +kernel
theorem dL_define_13 : decode cL_define 13 = .ok (.astore 4, 2) := by decide +kernel
theorem dL_define_15 : decode cL_define 15 = .ok (.iconst 1, 1) := by decide +kernel
theorem dL_define_16 : decode cL_define 16 = .ok (.ireturn, 1) := by decide +kernel
theorem dL_define_17 : decode cL_define 17 = .ok (.iconst 0, 1) := by decide +kernel
theorem dL_define_18 : decode cL_define 18 = .ok (.ireturn, 1) := by decide +kernel
set_option maxRecDepth 20000 in
theorem ggL_get_X2_get : GoodIn wsL_get wsX2_get := goodIn_ca (goodIn_r _ [6, 7, 8, 9, 10, 11, 5, 12, 13, 14, 15, 16, 17, 18, 19, 20, 21, 22, 23, 24, 25, 26, 27, 28, 29, 30, 31, 32] (by decide +kernel) (by decide +kernel)) (goodIn_sub (fun _ h => List.mem_cons_of_mem _ (List.mem_append_right _ h)) (by decide +kernel))
set_option maxRecDepth 20000 in
theorem gL_get_X2_get : GoodIn wsL_get (wsV RL 15 RX2 yX2_get wsX2_get) := goodIn_app (goodIn_of _ (by decide +kernel)) ggL_get_X2_get
theorem dL_get_0 : decode cL_get 0 = .ok (.aload_n 2, 1) := by decide +kernel
theorem dL_get_1 : decode cL_get 1 = .ok (.iconst 0, 1) := by decide +kernel
theorem dL_get_2 : decode cL_get 2 = .ok (.aload_n 0, 1) := by decide +kernel
theorem dL_get_3 : decode cL_get 3 = .ok (.iload_n 1, 1) := by decide +kernel
theorem dL_get_4 : decode cL_get 4 = .ok (.invokevirtual 15, 3) := by decide +kernel
theorem dL_get_7 : decode cL_get 7 = .ok (.i2l, 1) := by decide +kernel
theorem dL_get_8 : decode cL_get 8 = .ok (.lastore, 1) := by decide +kernel
theorem dL_get_9 : decode cL_get 9 = .ok (.goto 6, 3) := by decide +kernel
theorem dL_get_12 : decode cL_get 12 = .ok (.astore_n 3, 1) := by decide +kernel
theorem dL_get_13 : decode cL_get 13 = .ok (.iconst 1, 1) := by decide +kernel
theorem dL_get_14 : decode cL_get 14 = .ok (.ireturn, 1) := by decide +kernel
theorem dL_get_15 : decode cL_get 15 = .ok (.iconst 0, 1) := by decide +kernel
theorem dL_get_16 : decode cL_get 16 = .ok (.ireturn, 1) := by decide +kernel
set_option maxRecDepth 20000 in
theorem ggL_about_X2_about : GoodIn wsL_about wsX2_about := goodIn_ca (goodIn_r _ [6, 7, 8, 9, 10, 11, 12, 5, 13, 14, 15, 16, 17, 18, 19, 20, 21, 22, 23, 24, 25, 26, 27, 28, 29, 30, 31, 32, 33, 34, 35, 36, 37, 38, 39, 40, 41, 42, 43, 44, 45, 46, 47, 48, 49, 50, 51, 52, 53, 54, 55, 56, 57] (by decide +kernel) (by decide +kernel)) (goodIn_sub (fun _ h => List.mem_cons_of_mem _ (List.mem_append_right _ h)) (by decide +kernel))
set_option maxRecDepth 20000 in
theorem gL_about_X2_about : GoodIn wsL_about (wsV RL 19 RX2 yX2_about wsX2_about) := goodIn_app (goodIn_of _ (by decide +kernel)) ggL_about_X2_about
theorem dL_about_0 : decode cL_about 0 = .ok (.aload_n 3, 1) := by decide +kernel
theorem dL_about_1 : decode cL_about 1 = .ok (.iconst 0, 1) := by decide +kernel
theorem dL_about_2 : decode cL_about 2 = .ok (.aload_n 0, 1) := by decide +kernel
theorem dL_about_3 : decode cL_about 3 = .ok (.iload_n 1, 1) := by decide +kernel
theorem dL_about_4 : decode cL_about 4 = .ok (.iload_n 2, 1) := by decide +kernel
theorem dL_about_5 : decode cL_about 5 = .ok (.invokevirtual 19, 3) := by decide +kernel
theorem dL_about_8 : decode cL_about 8 = .ok (.i2l, 1) := by decide +kernel
theorem dL_about_9 : decode cL_about 9 = .ok (.lastore, 1) := by decide +kernel
theorem dL_about_10 : decode cL_about 10 = .ok (.goto 7, 3) := by decide +kernel
theorem dL_about_13 : decode cL_about 13 = .ok (.astore 4, 2) := by decide +kernel
theorem dL_about_15 : decode cL_about 15 = .ok (.iconst 1, 1) := by decide +kernel
theorem dL_about_16 : decode cL_about 16 = .ok (.ireturn, 1) := by decide +kernel
theorem dL_about_17 : decode cL_about 17 = .ok (.iconst 0, 1) := by decide +kernel
theorem dL_about_18 : decode cL_about 18 = .ok (.ireturn, 1) := by decide +kernel
set_option maxRecDepth 20000 in
theorem ggL_number_X2_number : GoodIn wsL_number wsX2_number := goodIn_ca (goodIn_r _ [6, 7, 8, 9, 10, 11, 12, 5, 13, 14, 15, 16, 17, 18, 19, 20, 21, 22, 23, 24, 25, 26, 27, 28, 29, 30, 31, 32, 33, 34, 35, 36, 37, 38, 39, 40, 41, 42, 43, 44, 45, 46, 47, 48, 49, 50, 51, 52, 53, 54, 55, 56, 57, 58, 59, 60, 61, 62, 63, 64, 65, 66, 67, 68, 69, 70, 71, 72, 73] (by decide +kernel) (by decide +kernel)) (goodIn_sub (fun _ h => List.mem_cons_of_mem _ (List.mem_append_right _ h)) (by decide +kernel))
set_option maxRecDepth 20000 in
theorem gL_number_X2_number : GoodIn wsL_number (wsV RL 23 RX2 yX2_number wsX2_number) := goodIn_app (goodIn_of _ (by decide +kernel)) ggL_number_X2_number
theorem dL_number_0 : decode cL_number 0 = .ok (.aload_n 3, 1) := by decide +kernel
theorem dL_number_1 : decode cL_number 1 = .ok (.iconst 0, 1) := by decide +kernel
theorem dL_number_2 : decode cL_number 2 = .ok (.aload_n 0, 1) := by decide +kernel
theorem dL_number_3 : decode cL_number 3 = .ok (.iload_n 1, 1) := by decide +kernel
theorem dL_number_4 : decode cL_number 4 = .ok (.iload_n 2, 1) := by decide +kernel
theorem dL_number_5 : decode cL_number 5 = .ok (.invokevirtual 23, 3) := by decide +kernel
theorem dL_number_8 : decode cL_number 8 = .ok (.i2l, 1) := by decide +kernel
theorem dL_number_9 : decode cL_number 9 = .ok (.lastore, 1) := by decide +kernel
theorem dL_number_10 : decode cL_number 10 = .ok (.goto 7, 3) := by decide +kernel
theorem dL_number_13 : decode cL_number 13 = .ok (.astore 4, 2) := by decide +kernel
theorem dL_number_15 : decode cL_number 15 = .ok (.iconst 1, 1) := by decide +kernel
theorem dL_number_16 : decode cL_number 16 = .ok (.ireturn, 1) := by decide +kernel
theorem dL_number_17 : decode cL_number 17 = .ok (.iconst 0, 1) := by decide +kernel
theorem dL_number_18 : decode cL_number 18 = .ok (.ireturn, 1) := by decide +kernel
set_option maxRecDepth 20000 in
theorem ggL_law_X2_init : GoodIn wsL_law wsX2_init := goodIn_r _ [9, 10, 11, 12, 13, 14, 15, 16, 17, 18, 19, 20, 21, 22, 23, 24, 25, 26, 27, 28, 29, 30, 31, 32, 33, 34, 35, 36, 37, 38, 39, 40, 41, 42, 43, 44, 45, 342, 343, 344, 345, 346, 347, 348, 349, 329, 330, 350, 351, 352, 353, 354, 355, 356, 357, 358] (by decide +kernel) (by decide +kernel)
set_option maxRecDepth 20000 in
theorem gL_law_X2_init : GoodIn wsL_law (wsX2_init) := ggL_law_X2_init
set_option maxRecDepth 20000 in
theorem ggL_law_X3_init : GoodIn wsL_law wsX3_init := goodIn_r _ [48, 49, 11, 12, 24, 50, 51, 52, 53, 54, 55, 56, 331, 332, 333, 334, 335, 336, 337, 338, 339, 340, 341] (by decide +kernel) (by decide +kernel)
set_option maxRecDepth 20000 in
theorem gL_law_X3_init : GoodIn wsL_law (wsX3_init) := ggL_law_X3_init
set_option maxRecDepth 20000 in
theorem ggL_law_X2_open : GoodIn wsL_law wsX2_open := goodIn_r _ [60, 20, 61, 62, 63, 19, 64, 44, 329, 330, 350, 351, 352, 353, 354, 355, 356, 357, 358] (by decide +kernel) (by decide +kernel)
set_option maxRecDepth 20000 in
theorem gL_law_X2_open : GoodIn wsL_law (wsV RL 30 RX2 yX2_open wsX2_open) := goodIn_app (goodIn_of _ (by decide +kernel)) ggL_law_X2_open
set_option maxRecDepth 20000 in
theorem ggL_law_X3_open : GoodIn wsL_law wsX3_open := goodIn_r _ [68, 69, 70, 331, 332, 333, 334, 335, 336, 337, 338, 339, 340, 341] (by decide +kernel) (by decide +kernel)
set_option maxRecDepth 20000 in
theorem gL_law_X3_open : GoodIn wsL_law (wsV RL 34 RX3 yX3_open wsX3_open) := goodIn_app (goodIn_of _ (by decide +kernel)) ggL_law_X3_open
set_option maxRecDepth 20000 in
theorem ggL_law_X2_close : GoodIn wsL_law wsX2_close := goodIn_r _ [74, 20, 75, 76, 77, 19, 78, 44, 43, 40, 79, 80, 81, 82, 39, 37, 38, 41, 42, 83, 84, 85, 86, 45, 87, 88, 89, 15, 90, 28, 32, 27, 91, 92, 93, 94, 29, 329, 330, 350, 351, 352, 353, 354, 355, 356, 357, 358, 342, 343, 344, 345, 346, 347, 348, 349] (by decide +kernel) (by decide +kernel)
set_option maxRecDepth 20000 in
theorem gL_law_X2_close : GoodIn wsL_law (wsV RL 35 RX2 yX2_close wsX2_close) := goodIn_app (goodIn_of _ (by decide +kernel)) ggL_law_X2_close
set_option maxRecDepth 20000 in
theorem ggL_law_X3_close : GoodIn wsL_law wsX3_close := goodIn_r _ [98, 69, 70, 99, 100, 101, 5, 102, 103, 50, 51, 52, 53, 331, 332, 333, 334, 335, 336, 337, 338, 339, 340, 341] (by decide +kernel) (by decide +kernel)
set_option maxRecDepth 20000 in
theorem gL_law_X3_close : GoodIn wsL_law (wsV RL 38 RX3 yX3_close wsX3_close) := goodIn_app (goodIn_of _ (by decide +kernel)) ggL_law_X3_close
set_option maxRecDepth 20000 in
theorem ggL_law_X2_set : GoodIn wsL_law wsX2_set := goodIn_r _ [107, 20, 108, 109, 2, 110, 111, 112, 113, 19, 114, 37, 38, 115, 116, 117, 118, 119, 120, 121, 45, 122, 123, 124, 15, 125, 28, 32, 27, 91, 92, 93, 94, 29, 126, 127, 128, 129, 43, 39, 41, 42, 83, 84, 85, 86, 87, 88, 89, 90, 130, 131, 132, 133, 40, 134, 135, 136, 137, 44, 138, 139, 140, 141, 329, 330, 350, 351, 352, 353, 354, 355, 356, 357, 358, 342, 343, 344, 345, 346, 347, 348, 349] (by decide +kernel) (by decide +kernel)
set_option maxRecDepth 20000 in
theorem gL_law_X2_set : GoodIn wsL_law (wsV RL 39 RX2 yX2_set wsX2_set) := goodIn_app (goodIn_of _ (by decide +kernel)) ggL_law_X2_set
set_option maxRecDepth 20000 in
theorem ggL_law_X3_set : GoodIn wsL_law wsX3_set := goodIn_r _ [145, 69, 146, 147, 5, 148, 149, 150, 151, 152, 70, 50, 103, 51, 52, 53, 99, 100, 101, 102, 331, 332, 333, 334, 335, 336, 337, 338, 339, 340, 341] (by decide +kernel) (by decide +kernel)
set_option maxRecDepth 20000 in
theorem gL_law_X3_set : GoodIn wsL_law (wsV RL 43 RX3 yX3_set wsX3_set) := goodIn_app (goodIn_of _ (by decide +kernel)) ggL_law_X3_set
set_option maxRecDepth 20000 in
theorem ggL_law_X2_mean : GoodIn wsL_law wsX2_mean := goodIn_r _ [156, 20, 157, 158, 2, 159, 160, 161, 162, 111, 112, 113, 19, 114, 37, 38, 115, 116, 117, 118, 119, 120, 121, 45, 122, 123, 124, 15, 125, 28, 32, 27, 91, 92, 93, 94, 29, 126, 127, 128, 129, 43, 39, 41, 42, 83, 84, 85, 86, 87, 88, 89, 90, 130, 131, 132, 133, 40, 134, 135, 136, 137, 44, 138, 139, 140, 141, 329, 330, 350, 351, 352, 353, 354, 355, 356, 357, 358, 342, 343, 344, 345, 346, 347, 348, 349] (by decide +kernel) (by decide +kernel)
set_option maxRecDepth 20000 in
theorem gL_law_X2_mean : GoodIn wsL_law (wsV RL 44 RX2 yX2_mean wsX2_mean) := goodIn_app (goodIn_of _ (by decide +kernel)) ggL_law_X2_mean
set_option maxRecDepth 20000 in
theorem ggL_law_X3_mean : GoodIn wsL_law wsX3_mean := goodIn_r _ [166, 69, 167, 168, 5, 169, 149, 150, 151, 152, 70, 50, 103, 51, 52, 53, 99, 100, 101, 102, 331, 332, 333, 334, 335, 336, 337, 338, 339, 340, 341] (by decide +kernel) (by decide +kernel)
set_option maxRecDepth 20000 in
theorem gL_law_X3_mean : GoodIn wsL_law (wsV RL 48 RX3 yX3_mean wsX3_mean) := goodIn_app (goodIn_of _ (by decide +kernel)) ggL_law_X3_mean
set_option maxRecDepth 20000 in
theorem ggL_law_X2_draft : GoodIn wsL_law wsX2_draft := goodIn_r _ [173, 16, 174, 175, 176, 15, 177, 30, 31, 25, 329, 330, 342, 343, 344, 345, 346, 347, 348, 349] (by decide +kernel) (by decide +kernel)
set_option maxRecDepth 20000 in
theorem gL_law_X2_draft : GoodIn wsL_law (wsV RL 49 RX2 yX2_draft wsX2_draft) := goodIn_app (goodIn_of _ (by decide +kernel)) ggL_law_X2_draft
set_option maxRecDepth 20000 in
theorem ggL_law_X3_draft : GoodIn wsL_law wsX3_draft := goodIn_r _ [181, 69, 182, 56, 55, 54, 331, 332, 333, 334, 335, 336, 337, 338, 339, 340, 341] (by decide +kernel) (by decide +kernel)
set_option maxRecDepth 20000 in
theorem gL_law_X3_draft : GoodIn wsL_law (wsV RL 53 RX3 yX3_draft wsX3_draft) := goodIn_app (goodIn_of _ (by decide +kernel)) ggL_law_X3_draft
set_option maxRecDepth 20000 in
theorem ggL_law_L_define : GoodIn wsL_law wsL_define := goodIn_ca (goodIn_r _ [186, 187, 188, 189, 190, 2, 191, 192, 193, 16, 20, 157, 158, 159, 194, 195, 196, 15, 197, 31, 29, 26, 30, 27, 111, 112, 113, 19, 114, 37, 38, 115, 116, 117, 118, 119, 120, 121, 45, 122, 123, 124, 125, 28, 32, 91, 92, 93, 94, 126, 127, 128, 129, 43, 39, 41, 42, 83, 84, 85, 86, 87, 88, 89, 90, 130, 131, 132, 133, 40, 134, 135, 136, 137, 44, 138, 139, 140, 141, 198, 199, 200, 201, 329, 330, 342, 343, 344, 345, 346, 347, 348, 349, 350, 351, 352, 353, 354, 355, 356, 357, 358] (by decide +kernel) (by decide +kernel)) (goodIn_sub (fun _ h => List.mem_append_right _ h) (by decide +kernel))
set_option maxRecDepth 20000 in
theorem gL_law_L_define : GoodIn wsL_law (va_wsS RL 54 yL_define wsL_define) := goodIn_app (goodIn_of _ (by decide +kernel)) ggL_law_L_define
set_option maxRecDepth 20000 in
theorem ggL_law_X3_define : GoodIn wsL_law wsX3_define := goodIn_r _ [205, 69, 167, 168, 5, 169, 206, 207, 208, 209, 210, 211, 212, 213, 54, 55, 182, 149, 150, 151, 152, 70, 50, 103, 51, 52, 53, 99, 100, 101, 102, 214, 215, 216, 217, 331, 332, 333, 334, 335, 336, 337, 338, 339, 340, 341] (by decide +kernel) (by decide +kernel)
set_option maxRecDepth 20000 in
theorem gL_law_X3_define : GoodIn wsL_law (wsV RL 59 RX3 yX3_define wsX3_define) := goodIn_app (goodIn_of _ (by decide +kernel)) ggL_law_X3_define
set_option maxRecDepth 20000 in
theorem ggL_law_X3_thrown : GoodIn wsL_law wsX3_thrown := goodIn_r _ [221, 69, 331, 332, 333, 334, 335, 336, 337, 338, 339, 340, 341] (by decide +kernel) (by decide +kernel)
set_option maxRecDepth 20000 in
theorem gL_law_X3_thrown : GoodIn wsL_law (wsV RL 60 RX3 yX3_thrown wsX3_thrown) := goodIn_app (goodIn_of _ (by decide +kernel)) ggL_law_X3_thrown
set_option maxRecDepth 20000 in
theorem ggL_law_X2_let : GoodIn wsL_law wsX2_let := goodIn_r _ [225, 20, 157, 158, 2, 159, 226, 227, 228, 19, 229, 37, 115, 116, 117, 230, 231, 232, 233, 38, 111, 112, 113, 114, 118, 119, 120, 121, 45, 122, 123, 124, 15, 125, 28, 32, 27, 91, 92, 93, 94, 29, 126, 127, 128, 129, 43, 39, 41, 42, 83, 84, 85, 86, 87, 88, 89, 90, 130, 131, 132, 133, 40, 134, 135, 136, 137, 44, 138, 139, 140, 141, 329, 330, 350, 351, 352, 353, 354, 355, 356, 357, 358, 342, 343, 344, 345, 346, 347, 348, 349] (by decide +kernel) (by decide +kernel)
set_option maxRecDepth 20000 in
theorem gL_law_X2_let : GoodIn wsL_law (wsV RL 64 RX2 yX2_let wsX2_let) := goodIn_app (goodIn_of _ (by decide +kernel)) ggL_law_X2_let
set_option maxRecDepth 20000 in
theorem ggL_law_X3_let : GoodIn wsL_law wsX3_let := goodIn_r _ [237, 69, 167, 168, 5, 169, 238, 239, 240, 241, 52, 242, 243, 244, 245, 103, 50, 246, 247, 248, 249, 53, 149, 150, 151, 152, 70, 51, 99, 100, 101, 102, 331, 332, 333, 334, 335, 336, 337, 338, 339, 340, 341] (by decide +kernel) (by decide +kernel)
set_option maxRecDepth 20000 in
theorem gL_law_X3_let : GoodIn wsL_law (wsV RL 67 RX3 yX3_let wsX3_let) := goodIn_app (goodIn_of _ (by decide +kernel)) ggL_law_X3_let
set_option maxRecDepth 20000 in
theorem ggL_law_X2_shape : GoodIn wsL_law wsX2_shape := goodIn_r _ [253, 16, 20, 194, 195, 196, 15, 197, 31, 29, 26, 30, 27, 111, 112, 113, 19, 114, 37, 38, 115, 116, 117, 118, 119, 120, 121, 45, 122, 123, 124, 125, 28, 32, 91, 92, 93, 94, 126, 127, 128, 129, 43, 39, 41, 42, 83, 84, 85, 86, 87, 88, 89, 90, 130, 131, 132, 133, 40, 134, 135, 136, 137, 44, 138, 139, 140, 141, 198, 199, 200, 201, 329, 330, 342, 343, 344, 345, 346, 347, 348, 349, 350, 351, 352, 353, 354, 355, 356, 357, 358] (by decide +kernel) (by decide +kernel)
set_option maxRecDepth 20000 in
theorem gL_law_X2_shape : GoodIn wsL_law (wsV RL 68 RX2 yX2_shape wsX2_shape) := goodIn_app (goodIn_of _ (by decide +kernel)) ggL_law_X2_shape
set_option maxRecDepth 20000 in
theorem ggL_law_X3_shape : GoodIn wsL_law wsX3_shape := goodIn_r _ [257, 69, 210, 211, 212, 5, 213, 54, 55, 182, 149, 150, 151, 152, 70, 50, 103, 51, 52, 53, 99, 100, 101, 102, 214, 215, 216, 217, 331, 332, 333, 334, 335, 336, 337, 338, 339, 340, 341] (by decide +kernel) (by decide +kernel)
set_option maxRecDepth 20000 in
theorem gL_law_X3_shape : GoodIn wsL_law (wsV RL 72 RX3 yX3_shape wsX3_shape) := goodIn_app (goodIn_of _ (by decide +kernel)) ggL_law_X3_shape
set_option maxRecDepth 20000 in
theorem ggL_law_L_get : GoodIn wsL_law wsL_get := goodIn_ca (goodIn_r _ [260, 187, 261, 262, 263, 2, 264, 192, 193, 20, 108, 109, 110, 230, 231, 232, 19, 233, 38, 115, 116, 117, 329, 330, 350, 351, 352, 353, 354, 355, 356, 357, 358] (by decide +kernel) (by decide +kernel)) (goodIn_sub (fun _ h => List.mem_append_right _ h) (by decide +kernel))
set_option maxRecDepth 20000 in
theorem gL_law_L_get : GoodIn wsL_law (va_wsS RL 73 yL_get wsL_get) := goodIn_app (goodIn_of _ (by decide +kernel)) ggL_law_L_get
set_option maxRecDepth 20000 in
theorem ggL_law_X3_get : GoodIn wsL_law wsX3_get := goodIn_r _ [268, 69, 146, 147, 5, 148, 206, 207, 208, 209, 246, 247, 248, 249, 53, 242, 243, 244, 245, 103, 50, 331, 332, 333, 334, 335, 336, 337, 338, 339, 340, 341] (by decide +kernel) (by decide +kernel)
set_option maxRecDepth 20000 in
theorem gL_law_X3_get : GoodIn wsL_law (wsV RL 76 RX3 yX3_get wsX3_get) := goodIn_app (goodIn_of _ (by decide +kernel)) ggL_law_X3_get
set_option maxRecDepth 20000 in
theorem ggL_law_L_about : GoodIn wsL_law wsL_about := goodIn_ca (goodIn_r _ [271, 187, 272, 273, 274, 2, 275, 192, 193, 20, 16, 157, 158, 159, 226, 227, 228, 19, 229, 37, 115, 116, 117, 230, 231, 232, 233, 38, 198, 199, 200, 15, 201, 27, 91, 92, 93, 94, 29, 329, 330, 350, 351, 352, 353, 354, 355, 356, 357, 358, 342, 343, 344, 345, 346, 347, 348, 349] (by decide +kernel) (by decide +kernel)) (goodIn_sub (fun _ h => List.mem_append_right _ h) (by decide +kernel))
set_option maxRecDepth 20000 in
theorem gL_law_L_about : GoodIn wsL_law (va_wsS RL 77 yL_about wsL_about) := goodIn_app (goodIn_of _ (by decide +kernel)) ggL_law_L_about
set_option maxRecDepth 20000 in
theorem ggL_law_X3_about : GoodIn wsL_law wsX3_about := goodIn_r _ [279, 69, 167, 168, 5, 169, 206, 207, 208, 209, 238, 239, 240, 241, 52, 242, 243, 244, 245, 103, 50, 246, 247, 248, 249, 53, 214, 215, 216, 217, 55, 331, 332, 333, 334, 335, 336, 337, 338, 339, 340, 341] (by decide +kernel) (by decide +kernel)
set_option maxRecDepth 20000 in
theorem gL_law_X3_about : GoodIn wsL_law (wsV RL 80 RX3 yX3_about wsX3_about) := goodIn_app (goodIn_of _ (by decide +kernel)) ggL_law_X3_about
set_option maxRecDepth 20000 in
theorem ggL_law_L_number : GoodIn wsL_law wsL_number := goodIn_ca (goodIn_r _ [282, 187, 283, 284, 285, 2, 286, 192, 193, 16, 287, 288, 289, 290, 20, 230, 231, 232, 19, 233, 38, 115, 116, 117, 157, 158, 159, 226, 227, 228, 229, 37, 198, 199, 200, 15, 201, 27, 91, 92, 93, 94, 29, 291, 292, 293, 294, 295, 296, 297, 298, 299, 25, 26, 300, 329, 330, 350, 351, 352, 353, 354, 355, 356, 357, 358, 342, 343, 344, 345, 346, 347, 348, 349] (by decide +kernel) (by decide +kernel)) (goodIn_sub (fun _ h => List.mem_append_right _ h) (by decide +kernel))
set_option maxRecDepth 20000 in
theorem gL_law_L_number : GoodIn wsL_law (va_wsS RL 81 yL_number wsL_number) := goodIn_app (goodIn_of _ (by decide +kernel)) ggL_law_L_number
set_option maxRecDepth 20000 in
theorem ggL_law_X3_number : GoodIn wsL_law wsX3_number := goodIn_r _ [304, 69, 56, 55, 246, 247, 248, 5, 249, 53, 242, 243, 244, 245, 103, 50, 214, 215, 216, 217, 167, 168, 169, 238, 239, 240, 241, 52, 206, 207, 208, 209, 331, 332, 333, 334, 335, 336, 337, 338, 339, 340, 341] (by decide +kernel) (by decide +kernel)
set_option maxRecDepth 20000 in
theorem gL_law_X3_number : GoodIn wsL_law (wsV RL 83 RX3 yX3_number wsX3_number) := goodIn_app (goodIn_of _ (by decide +kernel)) ggL_law_X3_number
set_option maxRecDepth 20000 in
theorem ggL_law_X2_count : GoodIn wsL_law wsX2_count := goodIn_r _ [308, 20, 16, 309, 310, 311, 19, 312, 44, 313, 314, 315, 15, 316, 31, 317, 318, 319, 320, 32, 329, 330, 350, 351, 352, 353, 354, 355, 356, 357, 358, 342, 343, 344, 345, 346, 347, 348, 349] (by decide +kernel) (by decide +kernel)
set_option maxRecDepth 20000 in
theorem gL_law_X2_count : GoodIn wsL_law (wsV RL 84 RX2 yX2_count wsX2_count) := goodIn_app (goodIn_of _ (by decide +kernel)) ggL_law_X2_count
set_option maxRecDepth 20000 in
theorem ggL_law_X3_count : GoodIn wsL_law wsX3_count := goodIn_r _ [324, 69, 70, 182, 325, 326, 327, 5, 328, 54, 103, 50, 52, 53, 214, 215, 216, 217, 55, 331, 332, 333, 334, 335, 336, 337, 338, 339, 340, 341] (by decide +kernel) (by decide +kernel)
set_option maxRecDepth 20000 in
theorem gL_law_X3_count : GoodIn wsL_law (wsV RL 87 RX3 yX3_count wsX3_count) := goodIn_app (goodIn_of _ (by decide +kernel)) ggL_law_X3_count
theorem dL_law_0 : decode cL_law 0 = .ok (.new 8, 3) := by decide +kernel
theorem dL_law_3 : decode cL_law 3 = .ok (.dup, 1) := by decide +kernel
theorem dL_law_4 : decode cL_law 4 = .ok (.invokespecial 26, 3) := by decide +kernel
theorem dL_law_7 : decode cL_law 7 = .ok (.astore_n 1, 1) := by decide +kernel
theorem dL_law_8 : decode cL_law 8 = .ok (.new 27, 3) := by decide +kernel
theorem dL_law_11 : decode cL_law 11 = .ok (.dup, 1) := by decide +kernel
theorem dL_law_12 : decode cL_law 12 = .ok (.invokespecial 29, 3) := by decide +kernel
theorem dL_law_15 : decode cL_law 15 = .ok (.astore_n 2, 1) := by decide +kernel
theorem dL_law_16 : decode cL_law 16 = .ok (.iconst 1, 1) := by decide +kernel
theorem dL_law_17 : decode cL_law 17 = .ok (.newarray .long, 2) := by decide +kernel
theorem dL_law_19 : decode cL_law 19 = .ok (.astore_n 3, 1) := by decide +kernel
theorem dL_law_20 : decode cL_law 20 = .ok (.iconst 0, 1) := by decide +kernel
theorem dL_law_21 : decode cL_law 21 = .ok (.istore 4, 2) := by decide +kernel
theorem dL_law_23 : decode cL_law 23 = .ok (.iload 4, 2) := by decide +kernel
theorem dL_law_25 : decode cL_law 25 = .ok (.aload_n 0, 1) := by decide +kernel
theorem dL_law_26 : decode cL_law 26 = .ok (.arraylength, 1) := by decide +kernel
theorem dL_law_27 : decode cL_law 27 = .ok (.iconst 5, 1) := by decide +kernel
theorem dL_law_28 : decode cL_law 28 = .ok (.isub, 1) := by decide +kernel
theorem dL_law_29 : decode cL_law 29 = .ok (.if_icmp .gt 677, 3) := by decide +kernel
theorem dL_law_32 : decode cL_law 32 = .ok (.aload_n 0, 1) := by decide +kernel
theorem dL_law_33 : decode cL_law 33 = .ok (.iload 4, 2) := by decide +kernel
theorem dL_law_35 : decode cL_law 35 = .ok (.iaload, 1) := by decide +kernel
theorem dL_law_36 : decode cL_law 36 = .ok (.bipush 15, 2) := by decide +kernel
theorem dL_law_38 : decode cL_law 38 = .ok (.iand, 1) := by decide +kernel
theorem dL_law_39 : decode cL_law 39 = .ok (.tableswitch 661 0 11 #[61, 74, 87, 152, 229, 254, 338, 403, 444, 500, 568, 636], 61) := by decide +kernel
theorem dL_law_100 : decode cL_law 100 = .ok (.aload_n 1, 1) := by decide +kernel
theorem dL_law_101 : decode cL_law 101 = .ok (.invokevirtual 30, 3) := by decide +kernel
theorem dL_law_104 : decode cL_law 104 = .ok (.aload_n 2, 1) := by decide +kernel
theorem dL_law_105 : decode cL_law 105 = .ok (.invokevirtual 34, 3) := by decide +kernel
theorem dL_law_108 : decode cL_law 108 = .ok (.if_icmp .eq 592, 3) := by decide +kernel
theorem dL_law_111 : decode cL_law 111 = .ok (.iconst 0, 1) := by decide +kernel
theorem dL_law_112 : decode cL_law 112 = .ok (.ireturn, 1) := by decide +kernel
theorem dL_law_113 : decode cL_law 113 = .ok (.aload_n 1, 1) := by decide +kernel
theorem dL_law_114 : decode cL_law 114 = .ok (.invokevirtual 35, 3) := by decide +kernel
theorem dL_law_117 : decode cL_law 117 = .ok (.aload_n 2, 1) := by decide +kernel
theorem dL_law_118 : decode cL_law 118 = .ok (.invokevirtual 38, 3) := by decide +kernel
theorem dL_law_121 : decode cL_law 121 = .ok (.if_icmp .eq 579, 3) := by decide +kernel
theorem dL_law_124 : decode cL_law 124 = .ok (.iconst 0, 1) := by decide +kernel
theorem dL_law_125 : decode cL_law 125 = .ok (.ireturn, 1) := by decide +kernel
theorem dL_law_126 : decode cL_law 126 = .ok (.aload_n 1, 1) := by decide +kernel
theorem dL_law_127 : decode cL_law 127 = .ok (.aload_n 0, 1) := by decide +kernel
theorem dL_law_128 : decode cL_law 128 = .ok (.iload 4, 2) := by decide +kernel
theorem dL_law_130 : decode cL_law 130 = .ok (.iconst 1, 1) := by decide +kernel
theorem dL_law_131 : decode cL_law 131 = .ok (.iadd, 1) := by decide +kernel
theorem dL_law_132 : decode cL_law 132 = .ok (.iaload, 1) := by decide +kernel
theorem dL_law_133 : decode cL_law 133 = .ok (.aload_n 0, 1) := by decide +kernel
theorem dL_law_134 : decode cL_law 134 = .ok (.iload 4, 2) := by decide +kernel
theorem dL_law_136 : decode cL_law 136 = .ok (.iconst 2, 1) := by decide +kernel
theorem dL_law_137 : decode cL_law 137 = .ok (.iadd, 1) := by decide +kernel
theorem dL_law_138 : decode cL_law 138 = .ok (.iaload, 1) := by decide +kernel
theorem dL_law_139 : decode cL_law 139 = .ok (.aload_n 0, 1) := by decide +kernel
theorem dL_law_140 : decode cL_law 140 = .ok (.iload 4, 2) := by decide +kernel
theorem dL_law_142 : decode cL_law 142 = .ok (.iconst 3, 1) := by decide +kernel
theorem dL_law_143 : decode cL_law 143 = .ok (.iadd, 1) := by decide +kernel
theorem dL_law_144 : decode cL_law 144 = .ok (.iaload, 1) := by decide +kernel
theorem dL_law_145 : decode cL_law 145 = .ok (.ifCond .eq 7, 3) := by decide +kernel
theorem dL_law_148 : decode cL_law 148 = .ok (.iconst 1, 1) := by decide +kernel
theorem dL_law_149 : decode cL_law 149 = .ok (.goto 4, 3) := by decide +kernel
theorem dL_law_152 : decode cL_law 152 = .ok (.iconst 0, 1) := by decide +kernel
theorem dL_law_153 : decode cL_law 153 = .ok (.invokevirtual 39, 3) := by decide +kernel
theorem dL_law_156 : decode cL_law 156 = .ok (.aload_n 2, 1) := by decide +kernel
theorem dL_law_157 : decode cL_law 157 = .ok (.aload_n 0, 1) := by decide +kernel
theorem dL_law_158 : decode cL_law 158 = .ok (.iload 4, 2) := by decide +kernel
theorem dL_law_160 : decode cL_law 160 = .ok (.iconst 1, 1) := by decide +kernel
theorem dL_law_161 : decode cL_law 161 = .ok (.iadd, 1) := by decide +kernel
theorem dL_law_162 : decode cL_law 162 = .ok (.iaload, 1) := by decide +kernel
theorem dL_law_163 : decode cL_law 163 = .ok (.aload_n 0, 1) := by decide +kernel
theorem dL_law_164 : decode cL_law 164 = .ok (.iload 4, 2) := by decide +kernel
theorem dL_law_166 : decode cL_law 166 = .ok (.iconst 2, 1) := by decide +kernel
theorem dL_law_167 : decode cL_law 167 = .ok (.iadd, 1) := by decide +kernel
theorem dL_law_168 : decode cL_law 168 = .ok (.iaload, 1) := by decide +kernel
theorem dL_law_169 : decode cL_law 169 = .ok (.aload_n 0, 1) := by decide +kernel
theorem dL_law_170 : decode cL_law 170 = .ok (.iload 4, 2) := by decide +kernel
theorem dL_law_172 : decode cL_law 172 = .ok (.iconst 3, 1) := by decide +kernel
theorem dL_law_173 : decode cL_law 173 = .ok (.iadd, 1) := by decide +kernel
theorem dL_law_174 : decode cL_law 174 = .ok (.iaload, 1) := by decide +kernel
theorem dL_law_175 : decode cL_law 175 = .ok (.ifCond .eq 7, 3) := by decide +kernel
theorem dL_law_178 : decode cL_law 178 = .ok (.iconst 1, 1) := by decide +kernel
theorem dL_law_179 : decode cL_law 179 = .ok (.goto 4, 3) := by decide +kernel
theorem dL_law_182 : decode cL_law 182 = .ok (.iconst 0, 1) := by decide +kernel
theorem dL_law_183 : decode cL_law 183 = .ok (.invokevirtual 43, 3) := by decide +kernel
theorem dL_law_186 : decode cL_law 186 = .ok (.if_icmp .eq 514, 3) := by decide +kernel
theorem dL_law_189 : decode cL_law 189 = .ok (.iconst 0, 1) := by decide +kernel
theorem dL_law_190 : decode cL_law 190 = .ok (.ireturn, 1) := by decide +kernel
theorem dL_law_191 : decode cL_law 191 = .ok (.aload_n 1, 1) := by decide +kernel
theorem dL_law_192 : decode cL_law 192 = .ok (.aload_n 0, 1) := by decide +kernel
theorem dL_law_193 : decode cL_law 193 = .ok (.iload 4, 2) := by decide +kernel
theorem dL_law_195 : decode cL_law 195 = .ok (.iconst 1, 1) := by decide +kernel
theorem dL_law_196 : decode cL_law 196 = .ok (.iadd, 1) := by decide +kernel
theorem dL_law_197 : decode cL_law 197 = .ok (.iaload, 1) := by decide +kernel
theorem dL_law_198 : decode cL_law 198 = .ok (.aload_n 0, 1) := by decide +kernel
theorem dL_law_199 : decode cL_law 199 = .ok (.iload 4, 2) := by decide +kernel
theorem dL_law_201 : decode cL_law 201 = .ok (.iconst 2, 1) := by decide +kernel
theorem dL_law_202 : decode cL_law 202 = .ok (.iadd, 1) := by decide +kernel
theorem dL_law_203 : decode cL_law 203 = .ok (.iaload, 1) := by decide +kernel
theorem dL_law_204 : decode cL_law 204 = .ok (.aload_n 0, 1) := by decide +kernel
theorem dL_law_205 : decode cL_law 205 = .ok (.iload 4, 2) := by decide +kernel
theorem dL_law_207 : decode cL_law 207 = .ok (.iconst 3, 1) := by decide +kernel
theorem dL_law_208 : decode cL_law 208 = .ok (.iadd, 1) := by decide +kernel
theorem dL_law_209 : decode cL_law 209 = .ok (.iaload, 1) := by decide +kernel
theorem dL_law_210 : decode cL_law 210 = .ok (.aload_n 0, 1) := by decide +kernel
theorem dL_law_211 : decode cL_law 211 = .ok (.iload 4, 2) := by decide +kernel
theorem dL_law_213 : decode cL_law 213 = .ok (.iconst 4, 1) := by decide +kernel
theorem dL_law_214 : decode cL_law 214 = .ok (.iadd, 1) := by decide +kernel
theorem dL_law_215 : decode cL_law 215 = .ok (.iaload, 1) := by decide +kernel
theorem dL_law_216 : decode cL_law 216 = .ok (.ifCond .eq 7, 3) := by decide +kernel
theorem dL_law_219 : decode cL_law 219 = .ok (.iconst 1, 1) := by decide +kernel
theorem dL_law_220 : decode cL_law 220 = .ok (.goto 4, 3) := by decide +kernel
theorem dL_law_223 : decode cL_law 223 = .ok (.iconst 0, 1) := by decide +kernel
theorem dL_law_224 : decode cL_law 224 = .ok (.invokevirtual 44, 3) := by decide +kernel
theorem dL_law_227 : decode cL_law 227 = .ok (.aload_n 2, 1) := by decide +kernel
theorem dL_law_228 : decode cL_law 228 = .ok (.aload_n 0, 1) := by decide +kernel
theorem dL_law_229 : decode cL_law 229 = .ok (.iload 4, 2) := by decide +kernel
theorem dL_law_231 : decode cL_law 231 = .ok (.iconst 1, 1) := by decide +kernel
theorem dL_law_232 : decode cL_law 232 = .ok (.iadd, 1) := by decide +kernel
theorem dL_law_233 : decode cL_law 233 = .ok (.iaload, 1) := by decide +kernel
theorem dL_law_234 : decode cL_law 234 = .ok (.aload_n 0, 1) := by decide +kernel
theorem dL_law_235 : decode cL_law 235 = .ok (.iload 4, 2) := by decide +kernel
theorem dL_law_237 : decode cL_law 237 = .ok (.iconst 2, 1) := by decide +kernel
theorem dL_law_238 : decode cL_law 238 = .ok (.iadd, 1) := by decide +kernel
theorem dL_law_239 : decode cL_law 239 = .ok (.iaload, 1) := by decide +kernel
theorem dL_law_240 : decode cL_law 240 = .ok (.aload_n 0, 1) := by decide +kernel
theorem dL_law_241 : decode cL_law 241 = .ok (.iload 4, 2) := by decide +kernel
theorem dL_law_243 : decode cL_law 243 = .ok (.iconst 3, 1) := by decide +kernel
theorem dL_law_244 : decode cL_law 244 = .ok (.iadd, 1) := by decide +kernel
theorem dL_law_245 : decode cL_law 245 = .ok (.iaload, 1) := by decide +kernel
theorem dL_law_246 : decode cL_law 246 = .ok (.aload_n 0, 1) := by decide +kernel
theorem dL_law_247 : decode cL_law 247 = .ok (.iload 4, 2) := by decide +kernel
theorem dL_law_249 : decode cL_law 249 = .ok (.iconst 4, 1) := by decide +kernel
theorem dL_law_250 : decode cL_law 250 = .ok (.iadd, 1) := by decide +kernel
theorem dL_law_251 : decode cL_law 251 = .ok (.iaload, 1) := by decide +kernel
theorem dL_law_252 : decode cL_law 252 = .ok (.ifCond .eq 7, 3) := by decide +kernel
theorem dL_law_255 : decode cL_law 255 = .ok (.iconst 1, 1) := by decide +kernel
theorem dL_law_256 : decode cL_law 256 = .ok (.goto 4, 3) := by decide +kernel
theorem dL_law_259 : decode cL_law 259 = .ok (.iconst 0, 1) := by decide +kernel
theorem dL_law_260 : decode cL_law 260 = .ok (.invokevirtual 48, 3) := by decide +kernel
theorem dL_law_263 : decode cL_law 263 = .ok (.if_icmp .eq 437, 3) := by decide +kernel
theorem dL_law_266 : decode cL_law 266 = .ok (.iconst 0, 1) := by decide +kernel
theorem dL_law_267 : decode cL_law 267 = .ok (.ireturn, 1) := by decide +kernel
theorem dL_law_268 : decode cL_law 268 = .ok (.aload_n 1, 1) := by decide +kernel
theorem dL_law_269 : decode cL_law 269 = .ok (.aload_n 0, 1) := by decide +kernel
theorem dL_law_270 : decode cL_law 270 = .ok (.iload 4, 2) := by decide +kernel
theorem dL_law_272 : decode cL_law 272 = .ok (.iconst 1, 1) := by decide +kernel
theorem dL_law_273 : decode cL_law 273 = .ok (.iadd, 1) := by decide +kernel
theorem dL_law_274 : decode cL_law 274 = .ok (.iaload, 1) := by decide +kernel
theorem dL_law_275 : decode cL_law 275 = .ok (.invokevirtual 49, 3) := by decide +kernel
theorem dL_law_278 : decode cL_law 278 = .ok (.aload_n 2, 1) := by decide +kernel
theorem dL_law_279 : decode cL_law 279 = .ok (.aload_n 0, 1) := by decide +kernel
theorem dL_law_280 : decode cL_law 280 = .ok (.iload 4, 2) := by decide +kernel
theorem dL_law_282 : decode cL_law 282 = .ok (.iconst 1, 1) := by decide +kernel
theorem dL_law_283 : decode cL_law 283 = .ok (.iadd, 1) := by decide +kernel
theorem dL_law_284 : decode cL_law 284 = .ok (.iaload, 1) := by decide +kernel
theorem dL_law_285 : decode cL_law 285 = .ok (.invokevirtual 53, 3) := by decide +kernel
theorem dL_law_288 : decode cL_law 288 = .ok (.if_icmp .eq 412, 3) := by decide +kernel
theorem dL_law_291 : decode cL_law 291 = .ok (.iconst 0, 1) := by decide +kernel
theorem dL_law_292 : decode cL_law 292 = .ok (.ireturn, 1) := by decide +kernel
theorem dL_law_293 : decode cL_law 293 = .ok (.aload_n 1, 1) := by decide +kernel
theorem dL_law_294 : decode cL_law 294 = .ok (.aload_n 0, 1) := by decide +kernel
theorem dL_law_295 : decode cL_law 295 = .ok (.iload 4, 2) := by decide +kernel
theorem dL_law_297 : decode cL_law 297 = .ok (.iconst 1, 1) := by decide +kernel
theorem dL_law_298 : decode cL_law 298 = .ok (.iadd, 1) := by decide +kernel
theorem dL_law_299 : decode cL_law 299 = .ok (.iaload, 1) := by decide +kernel
theorem dL_law_300 : decode cL_law 300 = .ok (.aload_n 0, 1) := by decide +kernel
theorem dL_law_301 : decode cL_law 301 = .ok (.iload 4, 2) := by decide +kernel
theorem dL_law_303 : decode cL_law 303 = .ok (.iconst 2, 1) := by decide +kernel
theorem dL_law_304 : decode cL_law 304 = .ok (.iadd, 1) := by decide +kernel
theorem dL_law_305 : decode cL_law 305 = .ok (.iaload, 1) := by decide +kernel
theorem dL_law_306 : decode cL_law 306 = .ok (.ifCond .eq 7, 3) := by decide +kernel
theorem dL_law_309 : decode cL_law 309 = .ok (.iconst 1, 1) := by decide +kernel
theorem dL_law_310 : decode cL_law 310 = .ok (.goto 4, 3) := by decide +kernel
theorem dL_law_313 : decode cL_law 313 = .ok (.iconst 0, 1) := by decide +kernel
theorem dL_law_314 : decode cL_law 314 = .ok (.aload_n 3, 1) := by decide +kernel
theorem dL_law_315 : decode cL_law 315 = .ok (.invokestatic 54, 3) := by decide +kernel
theorem dL_law_318 : decode cL_law 318 = .ok (.istore 5, 2) := by decide +kernel
theorem dL_law_320 : decode cL_law 320 = .ok (.aload_n 2, 1) := by decide +kernel
theorem dL_law_321 : decode cL_law 321 = .ok (.aload_n 0, 1) := by decide +kernel
theorem dL_law_322 : decode cL_law 322 = .ok (.iload 4, 2) := by decide +kernel
theorem dL_law_324 : decode cL_law 324 = .ok (.iconst 1, 1) := by decide +kernel
theorem dL_law_325 : decode cL_law 325 = .ok (.iadd, 1) := by decide +kernel
theorem dL_law_326 : decode cL_law 326 = .ok (.iaload, 1) := by decide +kernel
theorem dL_law_327 : decode cL_law 327 = .ok (.aload_n 0, 1) := by decide +kernel
theorem dL_law_328 : decode cL_law 328 = .ok (.iload 4, 2) := by decide +kernel
theorem dL_law_330 : decode cL_law 330 = .ok (.iconst 2, 1) := by decide +kernel
theorem dL_law_331 : decode cL_law 331 = .ok (.iadd, 1) := by decide +kernel
theorem dL_law_332 : decode cL_law 332 = .ok (.iaload, 1) := by decide +kernel
theorem dL_law_333 : decode cL_law 333 = .ok (.ifCond .eq 7, 3) := by decide +kernel
theorem dL_law_336 : decode cL_law 336 = .ok (.iconst 1, 1) := by decide +kernel
theorem dL_law_337 : decode cL_law 337 = .ok (.goto 4, 3) := by decide +kernel
theorem dL_law_340 : decode cL_law 340 = .ok (.iconst 0, 1) := by decide +kernel
theorem dL_law_341 : decode cL_law 341 = .ok (.invokevirtual 59, 3) := by decide +kernel
theorem dL_law_344 : decode cL_law 344 = .ok (.istore 6, 2) := by decide +kernel
theorem dL_law_346 : decode cL_law 346 = .ok (.aload_n 2, 1) := by decide +kernel
theorem dL_law_347 : decode cL_law 347 = .ok (.invokevirtual 60, 3) := by decide +kernel
theorem dL_law_350 : decode cL_law 350 = .ok (.iload 5, 2) := by decide +kernel
theorem dL_law_352 : decode cL_law 352 = .ok (.if_icmp .eq 5, 3) := by decide +kernel
theorem dL_law_355 : decode cL_law 355 = .ok (.iconst 0, 1) := by decide +kernel
theorem dL_law_356 : decode cL_law 356 = .ok (.ireturn, 1) := by decide +kernel
theorem dL_law_357 : decode cL_law 357 = .ok (.iload 5, 2) := by decide +kernel
theorem dL_law_359 : decode cL_law 359 = .ok (.ifCond .ne 15, 3) := by decide +kernel
theorem dL_law_362 : decode cL_law 362 = .ok (.aload_n 3, 1) := by decide +kernel
theorem dL_law_363 : decode cL_law 363 = .ok (.iconst 0, 1) := by decide +kernel
theorem dL_law_364 : decode cL_law 364 = .ok (.laload, 1) := by decide +kernel
theorem dL_law_365 : decode cL_law 365 = .ok (.iload 6, 2) := by decide +kernel
theorem dL_law_367 : decode cL_law 367 = .ok (.i2l, 1) := by decide +kernel
theorem dL_law_368 : decode cL_law 368 = .ok (.lcmp, 1) := by decide +kernel
theorem dL_law_369 : decode cL_law 369 = .ok (.ifCond .eq 5, 3) := by decide +kernel
theorem dL_law_372 : decode cL_law 372 = .ok (.iconst 0, 1) := by decide +kernel
theorem dL_law_373 : decode cL_law 373 = .ok (.ireturn, 1) := by decide +kernel
theorem dL_law_374 : decode cL_law 374 = .ok (.goto 326, 3) := by decide +kernel
theorem dL_law_377 : decode cL_law 377 = .ok (.aload_n 1, 1) := by decide +kernel
theorem dL_law_378 : decode cL_law 378 = .ok (.aload_n 0, 1) := by decide +kernel
theorem dL_law_379 : decode cL_law 379 = .ok (.iload 4, 2) := by decide +kernel
theorem dL_law_381 : decode cL_law 381 = .ok (.iconst 1, 1) := by decide +kernel
theorem dL_law_382 : decode cL_law 382 = .ok (.iadd, 1) := by decide +kernel
theorem dL_law_383 : decode cL_law 383 = .ok (.iaload, 1) := by decide +kernel
theorem dL_law_384 : decode cL_law 384 = .ok (.aload_n 0, 1) := by decide +kernel
theorem dL_law_385 : decode cL_law 385 = .ok (.iload 4, 2) := by decide +kernel
theorem dL_law_387 : decode cL_law 387 = .ok (.iconst 2, 1) := by decide +kernel
theorem dL_law_388 : decode cL_law 388 = .ok (.iadd, 1) := by decide +kernel
theorem dL_law_389 : decode cL_law 389 = .ok (.iaload, 1) := by decide +kernel
theorem dL_law_390 : decode cL_law 390 = .ok (.aload_n 0, 1) := by decide +kernel
theorem dL_law_391 : decode cL_law 391 = .ok (.iload 4, 2) := by decide +kernel
theorem dL_law_393 : decode cL_law 393 = .ok (.iconst 3, 1) := by decide +kernel
theorem dL_law_394 : decode cL_law 394 = .ok (.iadd, 1) := by decide +kernel
theorem dL_law_395 : decode cL_law 395 = .ok (.iaload, 1) := by decide +kernel
theorem dL_law_396 : decode cL_law 396 = .ok (.ifCond .eq 7, 3) := by decide +kernel
theorem dL_law_399 : decode cL_law 399 = .ok (.iconst 1, 1) := by decide +kernel
theorem dL_law_400 : decode cL_law 400 = .ok (.goto 4, 3) := by decide +kernel
theorem dL_law_403 : decode cL_law 403 = .ok (.iconst 0, 1) := by decide +kernel
theorem dL_law_404 : decode cL_law 404 = .ok (.invokevirtual 64, 3) := by decide +kernel
theorem dL_law_407 : decode cL_law 407 = .ok (.aload_n 2, 1) := by decide +kernel
theorem dL_law_408 : decode cL_law 408 = .ok (.aload_n 0, 1) := by decide +kernel
theorem dL_law_409 : decode cL_law 409 = .ok (.iload 4, 2) := by decide +kernel
theorem dL_law_411 : decode cL_law 411 = .ok (.iconst 1, 1) := by decide +kernel
theorem dL_law_412 : decode cL_law 412 = .ok (.iadd, 1) := by decide +kernel
theorem dL_law_413 : decode cL_law 413 = .ok (.iaload, 1) := by decide +kernel
theorem dL_law_414 : decode cL_law 414 = .ok (.aload_n 0, 1) := by decide +kernel
theorem dL_law_415 : decode cL_law 415 = .ok (.iload 4, 2) := by decide +kernel
theorem dL_law_417 : decode cL_law 417 = .ok (.iconst 2, 1) := by decide +kernel
theorem dL_law_418 : decode cL_law 418 = .ok (.iadd, 1) := by decide +kernel
theorem dL_law_419 : decode cL_law 419 = .ok (.iaload, 1) := by decide +kernel
theorem dL_law_420 : decode cL_law 420 = .ok (.aload_n 0, 1) := by decide +kernel
theorem dL_law_421 : decode cL_law 421 = .ok (.iload 4, 2) := by decide +kernel
theorem dL_law_423 : decode cL_law 423 = .ok (.iconst 3, 1) := by decide +kernel
theorem dL_law_424 : decode cL_law 424 = .ok (.iadd, 1) := by decide +kernel
theorem dL_law_425 : decode cL_law 425 = .ok (.iaload, 1) := by decide +kernel
theorem dL_law_426 : decode cL_law 426 = .ok (.ifCond .eq 7, 3) := by decide +kernel
theorem dL_law_429 : decode cL_law 429 = .ok (.iconst 1, 1) := by decide +kernel
theorem dL_law_430 : decode cL_law 430 = .ok (.goto 4, 3) := by decide +kernel
theorem dL_law_433 : decode cL_law 433 = .ok (.iconst 0, 1) := by decide +kernel
theorem dL_law_434 : decode cL_law 434 = .ok (.invokevirtual 67, 3) := by decide +kernel
theorem dL_law_437 : decode cL_law 437 = .ok (.if_icmp .eq 263, 3) := by decide +kernel
theorem dL_law_440 : decode cL_law 440 = .ok (.iconst 0, 1) := by decide +kernel
theorem dL_law_441 : decode cL_law 441 = .ok (.ireturn, 1) := by decide +kernel
theorem dL_law_442 : decode cL_law 442 = .ok (.aload_n 1, 1) := by decide +kernel
theorem dL_law_443 : decode cL_law 443 = .ok (.aload_n 0, 1) := by decide +kernel
theorem dL_law_444 : decode cL_law 444 = .ok (.iload 4, 2) := by decide +kernel
theorem dL_law_446 : decode cL_law 446 = .ok (.iconst 1, 1) := by decide +kernel
theorem dL_law_447 : decode cL_law 447 = .ok (.iadd, 1) := by decide +kernel
theorem dL_law_448 : decode cL_law 448 = .ok (.iaload, 1) := by decide +kernel
theorem dL_law_449 : decode cL_law 449 = .ok (.ifCond .eq 7, 3) := by decide +kernel
theorem dL_law_452 : decode cL_law 452 = .ok (.iconst 1, 1) := by decide +kernel
theorem dL_law_453 : decode cL_law 453 = .ok (.goto 4, 3) := by decide +kernel
theorem dL_law_456 : decode cL_law 456 = .ok (.iconst 0, 1) := by decide +kernel
theorem dL_law_457 : decode cL_law 457 = .ok (.invokevirtual 68, 3) := by decide +kernel
theorem dL_law_460 : decode cL_law 460 = .ok (.aload_n 2, 1) := by decide +kernel
theorem dL_law_461 : decode cL_law 461 = .ok (.aload_n 0, 1) := by decide +kernel
theorem dL_law_462 : decode cL_law 462 = .ok (.iload 4, 2) := by decide +kernel
theorem dL_law_464 : decode cL_law 464 = .ok (.iconst 1, 1) := by decide +kernel
theorem dL_law_465 : decode cL_law 465 = .ok (.iadd, 1) := by decide +kernel
theorem dL_law_466 : decode cL_law 466 = .ok (.iaload, 1) := by decide +kernel
theorem dL_law_467 : decode cL_law 467 = .ok (.ifCond .eq 7, 3) := by decide +kernel
theorem dL_law_470 : decode cL_law 470 = .ok (.iconst 1, 1) := by decide +kernel
theorem dL_law_471 : decode cL_law 471 = .ok (.goto 4, 3) := by decide +kernel
theorem dL_law_474 : decode cL_law 474 = .ok (.iconst 0, 1) := by decide +kernel
theorem dL_law_475 : decode cL_law 475 = .ok (.invokevirtual 72, 3) := by decide +kernel
theorem dL_law_478 : decode cL_law 478 = .ok (.if_icmp .eq 222, 3) := by decide +kernel
theorem dL_law_481 : decode cL_law 481 = .ok (.iconst 0, 1) := by decide +kernel
theorem dL_law_482 : decode cL_law 482 = .ok (.ireturn, 1) := by decide +kernel
theorem dL_law_483 : decode cL_law 483 = .ok (.aload_n 1, 1) := by decide +kernel
theorem dL_law_484 : decode cL_law 484 = .ok (.aload_n 0, 1) := by decide +kernel
theorem dL_law_485 : decode cL_law 485 = .ok (.iload 4, 2) := by decide +kernel
theorem dL_law_487 : decode cL_law 487 = .ok (.iconst 1, 1) := by decide +kernel
theorem dL_law_488 : decode cL_law 488 = .ok (.iadd, 1) := by decide +kernel
theorem dL_law_489 : decode cL_law 489 = .ok (.iaload, 1) := by decide +kernel
theorem dL_law_490 : decode cL_law 490 = .ok (.aload_n 3, 1) := by decide +kernel
theorem dL_law_491 : decode cL_law 491 = .ok (.invokestatic 73, 3) := by decide +kernel
theorem dL_law_494 : decode cL_law 494 = .ok (.istore 5, 2) := by decide +kernel
theorem dL_law_496 : decode cL_law 496 = .ok (.aload_n 2, 1) := by decide +kernel
theorem dL_law_497 : decode cL_law 497 = .ok (.aload_n 0, 1) := by decide +kernel
theorem dL_law_498 : decode cL_law 498 = .ok (.iload 4, 2) := by decide +kernel
theorem dL_law_500 : decode cL_law 500 = .ok (.iconst 1, 1) := by decide +kernel
theorem dL_law_501 : decode cL_law 501 = .ok (.iadd, 1) := by decide +kernel
theorem dL_law_502 : decode cL_law 502 = .ok (.iaload, 1) := by decide +kernel
theorem dL_law_503 : decode cL_law 503 = .ok (.invokevirtual 76, 3) := by decide +kernel
theorem dL_law_506 : decode cL_law 506 = .ok (.istore 6, 2) := by decide +kernel
theorem dL_law_508 : decode cL_law 508 = .ok (.aload_n 2, 1) := by decide +kernel
theorem dL_law_509 : decode cL_law 509 = .ok (.invokevirtual 60, 3) := by decide +kernel
theorem dL_law_512 : decode cL_law 512 = .ok (.iload 5, 2) := by decide +kernel
theorem dL_law_514 : decode cL_law 514 = .ok (.if_icmp .eq 5, 3) := by decide +kernel
theorem dL_law_517 : decode cL_law 517 = .ok (.iconst 0, 1) := by decide +kernel
theorem dL_law_518 : decode cL_law 518 = .ok (.ireturn, 1) := by decide +kernel
theorem dL_law_519 : decode cL_law 519 = .ok (.iload 5, 2) := by decide +kernel
theorem dL_law_521 : decode cL_law 521 = .ok (.ifCond .ne 15, 3) := by decide +kernel
theorem dL_law_524 : decode cL_law 524 = .ok (.aload_n 3, 1) := by decide +kernel
theorem dL_law_525 : decode cL_law 525 = .ok (.iconst 0, 1) := by decide +kernel
theorem dL_law_526 : decode cL_law 526 = .ok (.laload, 1) := by decide +kernel
theorem dL_law_527 : decode cL_law 527 = .ok (.iload 6, 2) := by decide +kernel
theorem dL_law_529 : decode cL_law 529 = .ok (.i2l, 1) := by decide +kernel
theorem dL_law_530 : decode cL_law 530 = .ok (.lcmp, 1) := by decide +kernel
theorem dL_law_531 : decode cL_law 531 = .ok (.ifCond .eq 5, 3) := by decide +kernel
theorem dL_law_534 : decode cL_law 534 = .ok (.iconst 0, 1) := by decide +kernel
theorem dL_law_535 : decode cL_law 535 = .ok (.ireturn, 1) := by decide +kernel
theorem dL_law_536 : decode cL_law 536 = .ok (.goto 164, 3) := by decide +kernel
theorem dL_law_539 : decode cL_law 539 = .ok (.aload_n 1, 1) := by decide +kernel
theorem dL_law_540 : decode cL_law 540 = .ok (.aload_n 0, 1) := by decide +kernel
theorem dL_law_541 : decode cL_law 541 = .ok (.iload 4, 2) := by decide +kernel
theorem dL_law_543 : decode cL_law 543 = .ok (.iconst 1, 1) := by decide +kernel
theorem dL_law_544 : decode cL_law 544 = .ok (.iadd, 1) := by decide +kernel
theorem dL_law_545 : decode cL_law 545 = .ok (.iaload, 1) := by decide +kernel
theorem dL_law_546 : decode cL_law 546 = .ok (.aload_n 0, 1) := by decide +kernel
theorem dL_law_547 : decode cL_law 547 = .ok (.iload 4, 2) := by decide +kernel
theorem dL_law_549 : decode cL_law 549 = .ok (.iconst 2, 1) := by decide +kernel
theorem dL_law_550 : decode cL_law 550 = .ok (.iadd, 1) := by decide +kernel
theorem dL_law_551 : decode cL_law 551 = .ok (.iaload, 1) := by decide +kernel
theorem dL_law_552 : decode cL_law 552 = .ok (.aload_n 3, 1) := by decide +kernel
theorem dL_law_553 : decode cL_law 553 = .ok (.invokestatic 77, 3) := by decide +kernel
theorem dL_law_556 : decode cL_law 556 = .ok (.istore 5, 2) := by decide +kernel
theorem dL_law_558 : decode cL_law 558 = .ok (.aload_n 2, 1) := by decide +kernel
theorem dL_law_559 : decode cL_law 559 = .ok (.aload_n 0, 1) := by decide +kernel
theorem dL_law_560 : decode cL_law 560 = .ok (.iload 4, 2) := by decide +kernel
theorem dL_law_562 : decode cL_law 562 = .ok (.iconst 1, 1) := by decide +kernel
theorem dL_law_563 : decode cL_law 563 = .ok (.iadd, 1) := by decide +kernel
theorem dL_law_564 : decode cL_law 564 = .ok (.iaload, 1) := by decide +kernel
theorem dL_law_565 : decode cL_law 565 = .ok (.aload_n 0, 1) := by decide +kernel
theorem dL_law_566 : decode cL_law 566 = .ok (.iload 4, 2) := by decide +kernel
theorem dL_law_568 : decode cL_law 568 = .ok (.iconst 2, 1) := by decide +kernel
theorem dL_law_569 : decode cL_law 569 = .ok (.iadd, 1) := by decide +kernel
theorem dL_law_570 : decode cL_law 570 = .ok (.iaload, 1) := by decide +kernel
theorem dL_law_571 : decode cL_law 571 = .ok (.invokevirtual 80, 3) := by decide +kernel
theorem dL_law_574 : decode cL_law 574 = .ok (.istore 6, 2) := by decide +kernel
theorem dL_law_576 : decode cL_law 576 = .ok (.aload_n 2, 1) := by decide +kernel
theorem dL_law_577 : decode cL_law 577 = .ok (.invokevirtual 60, 3) := by decide +kernel
theorem dL_law_580 : decode cL_law 580 = .ok (.iload 5, 2) := by decide +kernel
theorem dL_law_582 : decode cL_law 582 = .ok (.if_icmp .eq 5, 3) := by decide +kernel
theorem dL_law_585 : decode cL_law 585 = .ok (.iconst 0, 1) := by decide +kernel
theorem dL_law_586 : decode cL_law 586 = .ok (.ireturn, 1) := by decide +kernel
theorem dL_law_587 : decode cL_law 587 = .ok (.iload 5, 2) := by decide +kernel
theorem dL_law_589 : decode cL_law 589 = .ok (.ifCond .ne 15, 3) := by decide +kernel
theorem dL_law_592 : decode cL_law 592 = .ok (.aload_n 3, 1) := by decide +kernel
theorem dL_law_593 : decode cL_law 593 = .ok (.iconst 0, 1) := by decide +kernel
theorem dL_law_594 : decode cL_law 594 = .ok (.laload, 1) := by decide +kernel
theorem dL_law_595 : decode cL_law 595 = .ok (.iload 6, 2) := by decide +kernel
theorem dL_law_597 : decode cL_law 597 = .ok (.i2l, 1) := by decide +kernel
theorem dL_law_598 : decode cL_law 598 = .ok (.lcmp, 1) := by decide +kernel
theorem dL_law_599 : decode cL_law 599 = .ok (.ifCond .eq 5, 3) := by decide +kernel
theorem dL_law_602 : decode cL_law 602 = .ok (.iconst 0, 1) := by decide +kernel
theorem dL_law_603 : decode cL_law 603 = .ok (.ireturn, 1) := by decide +kernel
theorem dL_law_604 : decode cL_law 604 = .ok (.goto 96, 3) := by decide +kernel
theorem dL_law_607 : decode cL_law 607 = .ok (.aload_n 1, 1) := by decide +kernel
theorem dL_law_608 : decode cL_law 608 = .ok (.aload_n 0, 1) := by decide +kernel
theorem dL_law_609 : decode cL_law 609 = .ok (.iload 4, 2) := by decide +kernel
theorem dL_law_611 : decode cL_law 611 = .ok (.iconst 1, 1) := by decide +kernel
theorem dL_law_612 : decode cL_law 612 = .ok (.iadd, 1) := by decide +kernel
theorem dL_law_613 : decode cL_law 613 = .ok (.iaload, 1) := by decide +kernel
theorem dL_law_614 : decode cL_law 614 = .ok (.aload_n 0, 1) := by decide +kernel
theorem dL_law_615 : decode cL_law 615 = .ok (.iload 4, 2) := by decide +kernel
theorem dL_law_617 : decode cL_law 617 = .ok (.iconst 2, 1) := by decide +kernel
theorem dL_law_618 : decode cL_law 618 = .ok (.iadd, 1) := by decide +kernel
theorem dL_law_619 : decode cL_law 619 = .ok (.iaload, 1) := by decide +kernel
theorem dL_law_620 : decode cL_law 620 = .ok (.aload_n 3, 1) := by decide +kernel
theorem dL_law_621 : decode cL_law 621 = .ok (.invokestatic 81, 3) := by decide +kernel
theorem dL_law_624 : decode cL_law 624 = .ok (.istore 5, 2) := by decide +kernel
theorem dL_law_626 : decode cL_law 626 = .ok (.aload_n 2, 1) := by decide +kernel
theorem dL_law_627 : decode cL_law 627 = .ok (.aload_n 0, 1) := by decide +kernel
theorem dL_law_628 : decode cL_law 628 = .ok (.iload 4, 2) := by decide +kernel
theorem dL_law_630 : decode cL_law 630 = .ok (.iconst 1, 1) := by decide +kernel
theorem dL_law_631 : decode cL_law 631 = .ok (.iadd, 1) := by decide +kernel
theorem dL_law_632 : decode cL_law 632 = .ok (.iaload, 1) := by decide +kernel
theorem dL_law_633 : decode cL_law 633 = .ok (.aload_n 0, 1) := by decide +kernel
theorem dL_law_634 : decode cL_law 634 = .ok (.iload 4, 2) := by decide +kernel
theorem dL_law_636 : decode cL_law 636 = .ok (.iconst 2, 1) := by decide +kernel
theorem dL_law_637 : decode cL_law 637 = .ok (.iadd, 1) := by decide +kernel
theorem dL_law_638 : decode cL_law 638 = .ok (.iaload, 1) := by decide +kernel
theorem dL_law_639 : decode cL_law 639 = .ok (.invokevirtual 83, 3) := by decide +kernel
theorem dL_law_642 : decode cL_law 642 = .ok (.istore 6, 2) := by decide +kernel
theorem dL_law_644 : decode cL_law 644 = .ok (.aload_n 2, 1) := by decide +kernel
theorem dL_law_645 : decode cL_law 645 = .ok (.invokevirtual 60, 3) := by decide +kernel
theorem dL_law_648 : decode cL_law 648 = .ok (.iload 5, 2) := by decide +kernel
theorem dL_law_650 : decode cL_law 650 = .ok (.if_icmp .eq 5, 3) := by decide +kernel
theorem dL_law_653 : decode cL_law 653 = .ok (.iconst 0, 1) := by decide +kernel
theorem dL_law_654 : decode cL_law 654 = .ok (.ireturn, 1) := by decide +kernel
theorem dL_law_655 : decode cL_law 655 = .ok (.iload 5, 2) := by decide +kernel
theorem dL_law_657 : decode cL_law 657 = .ok (.ifCond .ne 15, 3) := by decide +kernel
theorem dL_law_660 : decode cL_law 660 = .ok (.aload_n 3, 1) := by decide +kernel
theorem dL_law_661 : decode cL_law 661 = .ok (.iconst 0, 1) := by decide +kernel
theorem dL_law_662 : decode cL_law 662 = .ok (.laload, 1) := by decide +kernel
theorem dL_law_663 : decode cL_law 663 = .ok (.iload 6, 2) := by decide +kernel
theorem dL_law_665 : decode cL_law 665 = .ok (.i2l, 1) := by decide +kernel
theorem dL_law_666 : decode cL_law 666 = .ok (.lcmp, 1) := by decide +kernel
theorem dL_law_667 : decode cL_law 667 = .ok (.ifCond .eq 5, 3) := by decide +kernel
theorem dL_law_670 : decode cL_law 670 = .ok (.iconst 0, 1) := by decide +kernel
theorem dL_law_671 : decode cL_law 671 = .ok (.ireturn, 1) := by decide +kernel
theorem dL_law_672 : decode cL_law 672 = .ok (.goto 28, 3) := by decide +kernel
theorem dL_law_675 : decode cL_law 675 = .ok (.aload_n 1, 1) := by decide +kernel
theorem dL_law_676 : decode cL_law 676 = .ok (.aload_n 0, 1) := by decide +kernel
theorem dL_law_677 : decode cL_law 677 = .ok (.iload 4, 2) := by decide +kernel
theorem dL_law_679 : decode cL_law 679 = .ok (.iconst 1, 1) := by decide +kernel
theorem dL_law_680 : decode cL_law 680 = .ok (.iadd, 1) := by decide +kernel
theorem dL_law_681 : decode cL_law 681 = .ok (.iaload, 1) := by decide +kernel
theorem dL_law_682 : decode cL_law 682 = .ok (.invokevirtual 84, 3) := by decide +kernel
theorem dL_law_685 : decode cL_law 685 = .ok (.aload_n 2, 1) := by decide +kernel
theorem dL_law_686 : decode cL_law 686 = .ok (.aload_n 0, 1) := by decide +kernel
theorem dL_law_687 : decode cL_law 687 = .ok (.iload 4, 2) := by decide +kernel
theorem dL_law_689 : decode cL_law 689 = .ok (.iconst 1, 1) := by decide +kernel
theorem dL_law_690 : decode cL_law 690 = .ok (.iadd, 1) := by decide +kernel
theorem dL_law_691 : decode cL_law 691 = .ok (.iaload, 1) := by decide +kernel
theorem dL_law_692 : decode cL_law 692 = .ok (.invokevirtual 87, 3) := by decide +kernel
theorem dL_law_695 : decode cL_law 695 = .ok (.if_icmp .eq 5, 3) := by decide +kernel
theorem dL_law_698 : decode cL_law 698 = .ok (.iconst 0, 1) := by decide +kernel
theorem dL_law_699 : decode cL_law 699 = .ok (.ireturn, 1) := by decide +kernel
theorem dL_law_700 : decode cL_law 700 = .ok (.iinc 4 5, 3) := by decide +kernel
theorem dL_law_703 : decode cL_law 703 = .ok (.goto (-680), 3) := by decide +kernel
theorem dL_law_706 : decode cL_law 706 = .ok (.iconst 1, 1) := by decide +kernel
theorem dL_law_707 : decode cL_law 707 = .ok (.ireturn, 1) := by decide +kernel
abbrev vwCl : List vw_C := [(RX0, TX0, 9), (RX1, TX1, 8), (RX2, TX2, 2), (RX3, TX3, 11)]
end
section
section CX
variable {p : Program} {l : Launch} {e : Env} {R : Room} {s : State} {m : MethodId} {args : Array Value} {below : List Frame} {meth : Method} {c : Code} {H : Heap} {locs : List Loc} {cells slots : Nat} {Q : State → Prop} {pc : Nat} {ls : Array Slot} {rest : List Value}
/-- a method whose table has one row: what is thrown is caught there, its class being linked then (perhaps for the first time) -/
theorem cx_catch {own name : String} {E : String} {ce : Cell} {q : Addr} (hown : s.vm.findClass own = some m.cls) (x : ExceptionTableEntry) (hone : c.exceptionTable.toList = [x]) (hx : covers x pc = true) (h0 : x.catchType ≠ 0)
    (hlink : (Cond.classLink own x.catchType name).before args s = true) (hcast : (Cond.castable E name).before args s = true) (hcell : H[q]? = some ce) (hv : ce.vm = .none) (hcl : s.vm.findClass E = some ce.cls)
    (kk : W p l e R s m args below meth c H locs cells slots Q (F0 m x.handlerPc ls [.ref q])) : vx_W p l e R s m args below meth c H locs cells slots Q (F0 m pc ls rest) q := by
  intro T hT X
  have hpl : e.platform.magicAccessors = ({} : Platform).magicAccessors := by rw [X.admits.platform]
  obtain ⟨c3, c4, hc3, hc4, hasg⟩ := Cond.castable_spec hcast
  cases Option.some.inj (hc3.symm.trans hcl)
  obtain ⟨c5, hc5, hl⟩ := Cond.classLink_spec hown hlink e.platform hpl
  cases Option.some.inj (hc4.symm.trans hc5)
  have hW : s.WarmedH T.vm := X.warmed
  have hlT : T.vm.ClassLinks e.platform m.cls x.catchType c4 := hW.classLinks hl
  obtain ⟨dk, _, _, kt, hd, _, _, _, _, hkt, _, hopen⟩ := hl.here
  have hW' := hW.noted hd hopen (State.rightAt_cls hl)
  obtain ⟨vm', hvm'⟩ : ∃ z, z = T.vm.noted m.cls x.catchType (.cls c4) := ⟨_, rfl⟩
  rw [← hvm'] at hW'
  have X' := X.noted hW'
  obtain ⟨t, a1, b1⟩ := kk (T.setVm vm') hT X'
  refine ⟨t, ?_, b1⟩
  obtain ⟨k9, h9, -⟩ := Vm.findClass_spec hcl
  obtain ⟨k1, hk1, -⟩ := hW.alike.2.2 _ _ h9
  obtain ⟨k2, hk2, -⟩ := hW.alike.2.2 _ _ hkt
  have hal : T.vm.Alike vm' := by rw [hvm']; exact (Vm.Alike.refl T.vm).noted _ _ _
  obtain ⟨k1', hk1', -⟩ := hal.2.2 _ _ hk1
  obtain ⟨k2', hk2', -⟩ := hal.2.2 _ _ hk2
  have hfit : vm'.assignable ce.cls c4 = true := by rw [hal.assignable, hW.alike.assignable]; exact hasg
  have hcT : T.heap[q]? = some ce := by rw [hT]; exact hcell
  have hst : ∀ k, ce.vm ≠ .statics k := fun k h => by rw [hv] at h; cases h
  have hfind : ∀ (Q9 : Handler → Pre) (E9 : CtlPost) (d : Bool) (acts : List Action), wp (findHandler (F0 m pc ls rest) q) Q9 E9 e d acts ((T.setTop (F0 m pc ls rest)).pushFrame (.throwing q)) ↔ Q9 (.found x.handlerPc) d acts (((T.setTop (F0 m pc ls rest)).pushFrame (.throwing q)).setVm vm') := by
    intro Q9 E9 d acts
    have hvmS : ((T.setTop (F0 m pc ls rest)).pushFrame (.throwing q)).vm = T.vm := Stand.throwing_vm T (F0 m pc ls rest) q
    have hheS : ((T.setTop (F0 m pc ls rest)).pushFrame (.throwing q)).heap = T.heap := Stand.throwing_heap T (F0 m pc ls rest) q
    rw [Jvm.W.findHandler_eq (s := (T.setTop (F0 m pc ls rest)).pushFrame (.throwing q)) (f := F0 m pc ls rest) (meth := meth) (code := c) (by rw [hvmS]; exact X.method') X.code, hone]
    generalize hS : (T.setTop (F0 m pc ls rest)).pushFrame (.throwing q) = S at hvmS hheS ⊢
    have hlS : S.vm.ClassLinks e.platform m.cls x.catchType c4 := by rw [hvmS]; exact hlT
    have hvS : vm' = S.vm.noted m.cls x.catchType (.cls c4) := by rw [hvmS]; exact hvm'
    have hcS : S.heap[q]? = some ce := by rw [hheS]; exact hcT
    obtain ⟨ha, ht⟩ := (resolveClass_links e.toSetting hlS).op (op := VmOp.resolveClass m.cls x.catchType) rfl
    rw [hvS] at hk1' hk2' hfit
    rw [hvS]
    simp only [covers] at hx
    simp [findHandler.go, hx, h0, ha, ht, hcS, hst, hk1', hk2', hfit, VmOp.dirties, VmOp.acts]
  have h : At T (F0 m pc ls rest).method c below := X.here
  obtain ⟨hgo, hw⟩ := h.throwing (g := F0 m pc ls rest) q
  refine Steps.head hgo hw ?_
  have hstep : (stepThrowing e ((T.setTop (F0 m pc ls rest)).pushFrame (.throwing q)) q (.java (F0 m pc ls rest) :: T.frames.tail)).Is ((((T.setTop (F0 m pc ls rest)).pushFrame (.throwing q)).setVm vm').setFrames (.java { (F0 m pc ls rest) with pc := x.handlerPc, stack := [.ref q] } :: T.frames.tail)) [] := by
    simp only [stepThrowing, searchFrame, vmDo]
    generalize hr : Sem.go _ e false [] _ = res
    obtain ⟨as, rfl, ha⟩ := Sem.eq_ok_of hr (a := Handler.found x.handlerPc) (s' := ((T.setTop (F0 m pc ls rest)).pushFrame (.throwing q)).setVm vm') (acts' := []) (by simp [hfind _ _ _ _])
    exact ⟨rfl, ha⟩
  rw [stepThread_throwing (frames_entered h.top _), hstep.1]
  obtain ⟨g₀, hg⟩ := Option.isSome_iff_exists.mp h.top
  obtain ⟨r, hr⟩ := State.topJava?_eq_some.mp hg
  have hr' : (T.setVm vm').frames = .java g₀ :: r := hr
  rw [State.setTop_of_frames _ hr'] at a1
  have e1 : ∀ (u : State) (F G : List Frame), ((u.setFrames F).setVm vm').setFrames G = (u.setVm vm').setFrames G := fun u F G => by
    have h1 : (u.setFrames F).setVm vm' = (u.setVm vm').setFrames F := rfl
    rw [h1, State.setFrames_setFrames]
  rw [hr, List.tail_cons, State.pushFrame, e1, State.setTop_of_frames _ hr, e1]
  exact a1
end CX
end
section
/-! numbers, and the worlds' words -/
def nF (f : Nat → Nat) : Nat → Int32 := fun k => nI (f k)
theorem nF_up (f : Nat → Nat) (k v : Nat) : upd (nF f) k (nI v) = nF (va_up f k v) := by
  funext j
  by_cases h : j = k <;> simp [upd, nF, va_up, h]
def b2i (b : Bool) : Int32 := if b then 1 else 0
theorem b2i_0 {b : Bool} (h : b2i b = 0) : b = false := by
  cases b
  · rfl
  · exact absurd h (by decide)
theorem b2i_n {b : Bool} (h : ¬ b2i b = 0) : b = true := by
  cases b
  · exact absurd rfl h
  · rfl
theorem b2i_z {ty : FieldType} (b : Bool) (h : ty = .boolean ∨ ty = .int) : narrow ty (.int (b2i b)) = .int (b2i b) := by
  rcases h with rfl | rfl
  · cases b <;> rfl
  · rfl
def rj (x : Int32) : Nat := x.toNatClampNeg
def isR (n : Nat) (x : Int32) : Bool := decide (¬ x < 0) && decide (¬ nI n ≤ x)
theorem isR_t {n : Nat} {x : Int32} (h1 : ¬ x < 0) (h2 : ¬ nI n ≤ x) : isR n x = true := by simp only [isR, decide_eq_true h1, decide_eq_true h2]; rfl
theorem isR_f1 {n : Nat} {x : Int32} (h : x < 0) : isR n x = false := by simp only [isR, decide_eq_false (not_not_intro h)]; rfl
theorem isR_f2 {n : Nat} {x : Int32} (h : nI n ≤ x) : isR n x = false := by simp only [isR, decide_eq_false (not_not_intro h)]; exact Bool.and_false _
theorem isR_of {n : Nat} {x : Int32} (hn : n < 2 ^ 31) (h : isR n x = true) : rj x < n ∧ x = nI (rj x) := by
  simp only [isR, Bool.and_eq_true, decide_eq_true_eq] at h
  rcases pk_ix x hn with h1 | h1 | ⟨j, hj, rfl⟩
  · exact absurd h1 h.1
  · exact absurd h1 h.2
  · have e : rj (nI j) = j := nI_clamp (by omega)
    rw [e]
    exact ⟨hj, rfl⟩
theorem isR_nI {n j : Nat} (hn : n < 2 ^ 31) (h : j < n) : isR n (nI j) = true := isR_t (nI_pos (by omega)) (nI_ge h hn)
theorem rj_nI {j : Nat} (h : j < 2 ^ 31) : rj (nI j) = j := nI_clamp h
theorem isR_not {n : Nat} {x : Int32} (hn : n < 2 ^ 31) (h : isR n x = false) : ∀ j, j < n → x ≠ nI j := by
  intro j hj e
  rw [e, isR_nI hn hj] at h
  cases h
section MV
variable {p : Program} {l : Launch} {e : Env} {R : Room} {s : State} {m : MethodId} {args : Array Value} {below : List Frame} {meth : Method} {c : Code} {H : Heap} {locs : List Loc} {cells slots : Nat} {Q : State → Prop}
variable {cc : ByteArray} {pc : Nat} {ls : Array Slot} {rest : List Value} {D : va_G} {cl : List vw_C} {A : Nat → Prop} {a : Nat} {tys : List (ClassId × FieldType)} {ws : va_W} {H0 : Heap}
theorem mv_top {x v : Int32} (hv : x = v) (k : W p l e R s m args below meth c H locs cells slots Q (F0 m pc ls (.int v :: rest))) : W p l e R s m args below meth c H locs cells slots Q (F0 m pc ls (.int x :: rest)) := hv ▸ k
theorem mv_iald (hexec : p.tables.exec = Jvm.exec) (hb : c.code = cc) (hK : va_K D cl tys s) (hP : va_P D cl ws H) (q0 t0 : Nat) {cA : ClassId} {n : Nat} {f : Nat → Int32} (ha : ws[q0]? = some (a, .inl (cA, n, .inl f))) (ht : tys[t0]? = some (cA, .int)) {i : Int32} {k : Nat} (hi : i = nI k) (hk : k < n) (hn : n < 2 ^ 31) {v : Int32} (hv : f k = v) (hdg : decode cc pc = .ok (.iaload, 1))
    (kk : W p l e R s m args below meth c H locs cells slots Q (F0 m (pc + 1) ls (.int v :: rest))) : W p l e R s m args below meth c H locs cells slots Q (F0 m pc ls (.int i :: .ref a :: rest)) := by
  subst hi
  subst hv
  refine va_iald hexec hb hK hP q0 t0 ha ht (vp_in_nI hk hn) hdg ?_
  rw [nI_clamp (Nat.lt_trans hk hn)]
  exact kk
theorem mv_iast (hexec : p.tables.exec = Jvm.exec) (hb : c.code = cc) (hK : va_K D cl tys s) (hP : va_P D cl ws H) (hD : va_D A ws) (hS : va_S A H0 H locs) (q0 t0 : Nat) {cA : ClassId} {n : Nat} {f : Nat → Int32} (ha : ws[q0]? = some (a, .inl (cA, n, .inl f))) (ht : tys[t0]? = some (cA, .int)) {i : Int32} {x : Int32} {k : Nat} (hi : i = nI k) (hk : k < n) (hn : n < 2 ^ 31) {f' : Nat → Int32} (hf : upd f k x = f') (hdg : decode cc pc = .ok (.iastore, 1))
    (kk : ∀ (H1 : Heap) (locs1 : List Loc), va_P D cl (ws.set q0 (a, .inl (cA, n, .inl f'))) H1 → va_D A (ws.set q0 (a, .inl (cA, n, .inl f'))) → va_S A H0 H1 locs1 → W p l e R s m args below meth c H1 locs1 cells slots Q (F0 m (pc + 1) ls rest)) : W p l e R s m args below meth c H locs cells slots Q (F0 m pc ls (.int x :: .int i :: .ref a :: rest)) := by
  subst hi
  subst hf
  refine va_iast hexec hb hK hP hD hS q0 t0 ha ht (vp_in_nI hk hn) hdg (fun H1 locs1 h1 h2 h3 => ?_)
  rw [nI_clamp (Nat.lt_trans hk hn)] at h1 h2
  exact kk H1 locs1 h1 h2 h3
end MV
/-! contracts in short: a reader (the heap stays), a writer (its world turns), no cell made -/
def mPr (D : va_G) (cI : ClassId) (wc : va_W) : State → Prop := fun U => va_P D vwCl wc U.heap ∧ va_K D vwCl [(cI, .int)] U
def mRi (l : Launch) (y : MethodName) (ws : List Cond) (rm : Room) (D : va_G) (cI : ClassId) (av : List Value) (wc : va_W) (post : Int32 → Prop) : Prop := Met l y ws rm (va_Pc av (mPr D cI wc)) (vp_Si post) 0 0 (fun _ => False)
def mPw (D : va_G) (cI : ClassId) (wc : va_W) (sz : Nat) : State → Prop := fun U => U.heap.size = sz ∧ va_P D vwCl wc U.heap ∧ va_K D vwCl [(cI, .int)] U ∧ va_D (fun _ => True) wc
def mBw (D : va_G) (cI : ClassId) (A : Nat → Prop) (w1 : va_W) : State → Prop := fun t => va_P D vwCl w1 t.heap ∧ va_K D vwCl [(cI, .int)] t ∧ va_D A w1
def mWi {S : Type} (l : Launch) (y : MethodName) (ws : List Cond) (rm : Room) (D : va_G) (cI : ClassId) (av : List Value) (wc : va_W) (post : Int32 → S → Prop) (w1 : S → va_W) : Prop := ∀ sz : Nat, Met l y ws rm (va_Pc av (mPw D cI wc sz)) (va_Qi post (fun u => mBw D cI (va_A wc sz) (w1 u)) (va_A wc sz)) 0 0 (va_A wc sz)
def mWv {S : Type} (l : Launch) (y : MethodName) (ws : List Cond) (rm : Room) (D : va_G) (cI : ClassId) (av : List Value) (wc : va_W) (post : S → Prop) (w1 : S → va_W) : Prop := ∀ sz : Nat, Met l y ws rm (va_Pc av (mPw D cI wc sz)) (va_Qv post (fun u => mBw D cI (va_A wc sz) (w1 u)) (va_A wc sz)) 0 0 (va_A wc sz)
theorem mPr_blind {D : va_G} {cI : ClassId} {wc : va_W} {av : List Value} : FrameBlind (va_Pc av (mPr D cI wc)) := fun a U g mk q => by
  obtain ⟨q0, qP, qK⟩ := q
  exact ⟨q0, qP, va_K.moved (u := U) (U := U.calling g mk a) (Vm.Alike.refl U.vm) qK⟩
theorem mPw_blind {D : va_G} {cI : ClassId} {wc : va_W} {sz : Nat} {av : List Value} : FrameBlind (va_Pc av (mPw D cI wc sz)) := fun a U g mk q => by
  obtain ⟨q0, q1, qP, qK, qD⟩ := q
  exact ⟨q0, q1, qP, va_K.moved (u := U) (U := U.calling g mk a) (Vm.Alike.refl U.vm) qK, qD⟩
/-- two worlds, one beside the other -/
theorem ma_idx (wr wc : va_W) : (List.range' wr.length wc.length).map (fun i => (wr ++ wc)[i]?) = wc.map some := by
  apply List.ext_getElem?
  intro i
  by_cases h : i < wc.length
  · simp [List.getElem?_range', h, List.getElem?_append_right]
  · simp [List.getElem?_range', h]
theorem ma_idl (wr wc : va_W) : (List.range wr.length).map (fun i => (wr ++ wc)[i]?) = wr.map some := by
  apply List.ext_getElem?
  intro i
  by_cases h : i < wr.length
  · simp [List.getElem?_range, h, List.getElem?_append_left]
  · simp [List.getElem?_range, h]
theorem ma_nd (n : Nat) : ∀ k, va_nd (List.range' k n) = true := by
  induction n with
  | zero => intro k; rfl
  | succ n ih =>
    intro k
    rw [List.range'_succ]
    simp only [va_nd, Bool.and_eq_true]
    refine ⟨?_, ih (k + 1)⟩
    simp [List.mem_range']
    try omega
theorem ma_P {D : va_G} {cl : List vw_C} {wr wc : va_W} {H : Heap} (h : va_P D cl (wr ++ wc) H) : va_P D cl wc H := fun k q hk => h (wr.length + k) q (by rw [List.getElem?_append_right (by omega)]; simpa using hk)
theorem ma_Pl {D : va_G} {cl : List vw_C} {wr wc : va_W} {H : Heap} (h : va_P D cl (wr ++ wc) H) : va_P D cl wr H := fun k q hk => h k q (by rw [List.getElem?_append_left (List.getElem?_eq_some_iff.mp hk).1]; exact hk)
theorem ma_D {A : Nat → Prop} {wr wc : va_W} (h : va_D A (wr ++ wc)) : va_D A wc := h.sub _ (ma_nd _ _) (ma_idx wr wc)
theorem ma_swapP {D : va_G} {cl : List vw_C} {a b : va_W} {H : Heap} (h : va_P D cl (a ++ b) H) : va_P D cl (b ++ a) H := va_P.app (ma_P h) (ma_Pl h)
theorem ma_Dl {A : Nat → Prop} {wr wc : va_W} (h : va_D A (wr ++ wc)) : va_D A wr := h.sub (List.range wr.length) (by rw [List.range_eq_range']; exact ma_nd _ _) (ma_idl wr wc)
theorem ma_swapD {A : Nat → Prop} {a b : va_W} (h : va_D A (a ++ b)) : va_D A (b ++ a) := by
  refine va_D.app (ma_D h) (ma_Dl h) (fun i j x y hx hy hxy => ?_)
  have h1 : (a ++ b)[a.length + i]? = some x := by rw [List.getElem?_append_right (by omega)]; simpa using hx
  have h2 : (a ++ b)[j]? = some y := by rw [List.getElem?_append_left (List.getElem?_eq_some_iff.mp hy).1]; exact hy
  have h3 := h.1 _ _ _ _ h1 h2 hxy
  have h4 := (List.getElem?_eq_some_iff.mp hy).1
  omega
theorem ma_join {A0 : Nat → Prop} {D : va_G} {cl : List vw_C} {wc wr w1 : va_W} {H H1 : Heap} (hP : va_P D cl (wr ++ wc) H) (hD : va_D A0 (wr ++ wc)) (hk : ∀ q : Nat, q < H.size → ¬ va_A wc H.size q → H1[q]? = H[q]?) (hF : ∀ q, va_A wc H.size q → A0 q) (hP1 : va_P D cl w1 H1) (hD1 : va_D (va_A wc H.size) w1) : va_P D cl (wr ++ w1) H1 ∧ va_D A0 (wr ++ w1) :=
  va_join (wc := wc) (wr := wr) hP hD (List.range' wr.length wc.length) (List.range wr.length) (ma_idx wr wc) (ma_idl wr wc) (by rw [List.range_eq_range']; exact ma_nd _ _) (fun i h1 h2 => by
    rw [List.mem_range] at h1
    rw [List.mem_range'] at h2
    obtain ⟨j, -, h⟩ := h2
    omega) hk hF hP1 hD1
theorem ma_free {A0 : Nat → Prop} {wr wc : va_W} {H0 H : Heap} {locs : List Loc} (hD : va_D A0 (wr ++ wc)) (hS : va_S A0 H0 H locs) (hA : ∀ q, H0.size ≤ q → A0 q) : ∀ q, va_A wc H.size q → A0 q := va_free (wc := wc) hD hS hA (List.range' wr.length wc.length) (ma_idx wr wc)
end
section
section MC
variable {p : Program} {l : Launch} {e : Env} {R : Room} {s : State} {m : MethodId} {args : Array Value} {below : List Frame} {meth : Method} {c : Code} {H : Heap} {locs : List Loc} {cells slots : Nat} {Q : State → Prop}
variable {cc bytes : ByteArray} {pc maxL nL n index : Nat} {ret : Option FieldType} {ls : Array Slot} {rest st0 As : List Value} {D : va_G} {cI : ClassId} {A : Nat → Prop} {b : Nat} {H0 : Heap} {y : MethodName} {ws Ts : List Cond} {rm : Room} {own C : String} {wc wr : va_W}
/-- a reader on an object -/
theorem m_rV {post : Int32 → Prop} (S : CallFix p m c cc nL s args Ts own) (hM : mRi l y ws rm D cI (.ref b :: As) wc post) (cw : CallW R s args own C index y bytes maxL ret ws rm 0 0 n) (hP : va_P D vwCl wc H) (hK : va_K D vwCl [(cI, .int)] s) (ci q0 : Nat) {T : u_T} {N : Nat} {fs : List Value} (hc : vwCl[ci]? = some (C, T, N)) (he : wc[q0]? = some (b, .inr (ci, fs)))
    (hn : As.length = n) (hsize : ls.size = nL) (hst : st0 = As.reverse ++ .ref b :: rest) (hW : (rest.map fun v => v.category).sum ≤ 8) (hdg : decode cc pc = .ok (.invokevirtual index, 3)) (hf : cells ≤ R.cells ∧ slots ≤ R.slots)
    (kk : ∀ r : Int32, post r → W p l e R s m args below meth c H locs cells slots Q (F0 m (pc + 3) ls (.int r :: rest))) : W p l e R s m args below meth c H locs cells slots Q (F0 m pc ls st0) :=
  vp_callSi (va_runV (As := As) (rest := rest) S hM cw ⟨mPr_blind, va_recv hK hP hc he, fun U hU hW => ⟨rfl, by rw [hU]; exact hP, va_K.moved hW.alike hK⟩⟩ rfl hn hsize hst (lv_room hW) hdg hf).run kk
/-- a reader that is static -/
theorem m_rS {post : Int32 → Prop} (S : CallFix p m c cc nL s args Ts own) (hM : mRi l y ws rm D cI As wc post) (cw : CallB R s args own index y bytes maxL ret ws rm 0 0 n ∧ (Cond.static y).before args s = true) (hP : va_P D vwCl wc H) (hK : va_K D vwCl [(cI, .int)] s)
    (hn : As.length = n) (hsize : ls.size = nL) (hst : st0 = As.reverse ++ rest) (hW : (rest.map fun v => v.category).sum ≤ 8) (hdg : decode cc pc = .ok (.invokestatic index, 3)) (hf : cells ≤ R.cells ∧ slots ≤ R.slots)
    (kk : ∀ r : Int32, post r → W p l e R s m args below meth c H locs cells slots Q (F0 m (pc + 3) ls (.int r :: rest))) : W p l e R s m args below meth c H locs cells slots Q (F0 m pc ls st0) :=
  vp_callSi (va_runS (As := As) (rest := rest) S hM cw ⟨mPr_blind, fun U hU hW => ⟨rfl, by rw [hU]; exact hP, va_K.moved hW.alike hK⟩⟩ rfl hn hsize hst (lv_room hW) hdg hf).run kk
/-- a writer on an object that answers an int; its world is the last of the caller's -/
theorem m_wVi {S0 : Type} {post : Int32 → S0 → Prop} {w1 : S0 → va_W} (S : CallFix p m c cc nL s args Ts own) (hM : mWi l y ws rm D cI (.ref b :: As) wc post w1) (cw : CallW R s args own C index y bytes maxL ret ws rm 0 0 n) (hP : va_P D vwCl (wr ++ wc) H) (hK : va_K D vwCl [(cI, .int)] s) (hD : va_D A (wr ++ wc)) (hS : va_S A H0 H locs) (hA : ∀ q, H0.size ≤ q → A q) (ci q0 : Nat) {T : u_T} {N : Nat} {fs : List Value} (hc : vwCl[ci]? = some (C, T, N)) (he : wc[q0]? = some (b, .inr (ci, fs)))
    (hn : As.length = n) (hsize : ls.size = nL) (hst : st0 = As.reverse ++ .ref b :: rest) (hW : (rest.map fun v => v.category).sum ≤ 8) (hdg : decode cc pc = .ok (.invokevirtual index, 3)) (hf : cells ≤ R.cells ∧ slots ≤ R.slots)
    (kk : ∀ (r : Int32) (u : S0) (H1 : Heap) (locs1 : List Loc), post r u → va_P D vwCl (wr ++ w1 u) H1 → va_D A (wr ++ w1 u) → va_S A H0 H1 locs1 → W p l e R s m args below meth c H1 locs1 cells slots Q (F0 m (pc + 3) ls (.int r :: rest))) : W p l e R s m args below meth c H locs cells slots Q (F0 m pc ls st0) := by
  have hPc := ma_P hP
  have hF := ma_free hD hS hA
  refine va_calli (va_runV (As := As) (rest := rest) S (hM H.size) cw ⟨mPw_blind, va_recv hK hPc hc he, fun U hU hW => ⟨rfl, by rw [hU], by rw [hU]; exact hPc, va_K.moved hW.alike hK, (ma_D hD).weaken (fun _ _ _ _ => trivial)⟩⟩ rfl hn hsize hst (lv_room hW) hdg hf) hS (fun q _ h => hF q h) hF (fun r u t H1 locs1 ht hvm hw hB hz1 hk1 hS1 => ?_)
  obtain ⟨hP1, -, hD1⟩ := hB
  rw [ht] at hP1
  obtain ⟨hP2, hD2⟩ := ma_join hP hD hk1 hF hP1 hD1
  exact kk r u H1 locs1 hw hP2 hD2 hS1
/-- .. that answers nothing -/
theorem m_wVv {S0 : Type} {post : S0 → Prop} {w1 : S0 → va_W} (S : CallFix p m c cc nL s args Ts own) (hM : mWv l y ws rm D cI (.ref b :: As) wc post w1) (cw : CallW R s args own C index y bytes maxL ret ws rm 0 0 n) (hP : va_P D vwCl (wr ++ wc) H) (hK : va_K D vwCl [(cI, .int)] s) (hD : va_D A (wr ++ wc)) (hS : va_S A H0 H locs) (hA : ∀ q, H0.size ≤ q → A q) (ci q0 : Nat) {T : u_T} {N : Nat} {fs : List Value} (hc : vwCl[ci]? = some (C, T, N)) (he : wc[q0]? = some (b, .inr (ci, fs)))
    (hn : As.length = n) (hsize : ls.size = nL) (hst : st0 = As.reverse ++ .ref b :: rest) (hW : (rest.map fun v => v.category).sum ≤ 8) (hdg : decode cc pc = .ok (.invokevirtual index, 3)) (hf : cells ≤ R.cells ∧ slots ≤ R.slots)
    (kk : ∀ (u : S0) (H1 : Heap) (locs1 : List Loc), post u → va_P D vwCl (wr ++ w1 u) H1 → va_D A (wr ++ w1 u) → va_S A H0 H1 locs1 → W p l e R s m args below meth c H1 locs1 cells slots Q (F0 m (pc + 3) ls rest)) : W p l e R s m args below meth c H locs cells slots Q (F0 m pc ls st0) := by
  have hPc := ma_P hP
  have hF := ma_free hD hS hA
  refine va_callv (va_runV (As := As) (rest := rest) S (hM H.size) cw ⟨mPw_blind, va_recv hK hPc hc he, fun U hU hW => ⟨rfl, by rw [hU], by rw [hU]; exact hPc, va_K.moved hW.alike hK, (ma_D hD).weaken (fun _ _ _ _ => trivial)⟩⟩ rfl hn hsize hst (lv_room hW) hdg hf) hS (fun q _ h => hF q h) hF (fun u t H1 locs1 ht hvm hw hB hz1 hk1 hS1 => ?_)
  obtain ⟨hP1, -, hD1⟩ := hB
  rw [ht] at hP1
  obtain ⟨hP2, hD2⟩ := ma_join hP hD hk1 hF hP1 hD1
  exact kk u H1 locs1 hw hP2 hD2 hS1
/-- a reader's end -/
theorem m_retR {post : Int32 → Prop} {ty : FieldType} {v : Int32} (hx : p.tables.exec = Jvm.exec) (hb : c.code = cc) (hr : meth.sig.returnType = some ty) (hlocks : meth.locks = false) (hn : narrow ty (.int v) = .int v) (hp : post v) (hdg : decode cc pc = .ok (.ireturn, 1)) : W p l e R s m args below meth c s.heap [] 0 0 (MQ below (vp_Si post) args s 0 0 (fun _ => False)) (F0 m pc ls [.int v]) :=
  W.zret hx hb hr hn (fun t ht hW => ⟨v, rfl, hp, ht⟩) (fun _ h => by cases h) hdg hlocks
/-- a writer's ends -/
theorem m_reti {S0 : Type} {post : Int32 → S0 → Prop} {w1 : S0 → va_W} {ty : FieldType} {v : Int32} (hx : p.tables.exec = Jvm.exec) (hb : c.code = cc) (hr : meth.sig.returnType = some ty) (hlocks : meth.locks = false) (hn : narrow ty (.int v) = .int v) (u : S0) (hp : post v u) (hP : va_P D vwCl (w1 u) H) (hK : va_K D vwCl [(cI, .int)] s) (hD : va_D A (w1 u)) (hS : va_S A s.heap H locs) (hdg : decode cc pc = .ok (.ireturn, 1)) : W p l e R s m args below meth c H locs cells slots (MQ below (va_Qi post (fun u => mBw D cI A (w1 u)) A) args s cells slots A) (F0 m pc ls [.int v]) :=
  W.zret hx hb hr hn (fun t ht hW => ⟨⟨v, u, rfl, hp, by rw [ht]; exact hP, va_K.moved hW.alike hK, hD⟩, hS.F ht⟩) hS.2.2 hdg hlocks
theorem m_retv {S0 : Type} {post : S0 → Prop} {w1 : S0 → va_W} (hx : p.tables.exec = Jvm.exec) (hb : c.code = cc) (hr : meth.sig.returnType = none) (hlocks : meth.locks = false) (u : S0) (hp : post u) (hP : va_P D vwCl (w1 u) H) (hK : va_K D vwCl [(cI, .int)] s) (hD : va_D A (w1 u)) (hS : va_S A s.heap H locs) (hdg : decode cc pc = .ok (.return_, 1)) : W p l e R s m args below meth c H locs cells slots (MQ below (va_Qv post (fun u => mBw D cI A (w1 u)) A) args s cells slots A) (F0 m pc ls []) :=
  W.vret hx hb hr (fun t ht hW => ⟨⟨u, rfl, hp, by rw [ht]; exact hP, va_K.moved hW.alike hK, hD⟩, hS.F ht⟩) hS.2.2 hdg hlocks
end MC
/-- a reader's body: its end is told by 'hret' -/
theorem m_ofR {l : Launch} {y : MethodName} {ws ws' : List Cond} {rm : Room} {D : va_G} {cI : ClassId} {av : List Value} {wc : va_W} {post : Int32 → Prop} {cc : ByteArray} {maxL : Nat} {ty : FieldType} (hy : plainName y.cls = true) (hw : ws = Cond.code y cc maxL (some ty) :: ws') (hL : (lg_sl av).length ≤ maxL)
    (body : ∀ (p : Program) (e : Env) (s : State) (m : MethodId) (args : Array Value) (below : List Frame) (meth : Method) (c : Code) (ls : Array Slot) (Q : State → Prop), p.tables.exec = Jvm.exec → c.code = cc → (∀ w ∈ ws, w.before args s = true) → s.vm.findClass y.cls = some m.cls → c.maxLocals = maxL → va_P D vwCl wc s.heap → va_K D vwCl [(cI, .int)] s → lv_has ls maxL (lv_args 0 av) →
      (∀ {pc : Nat} {ls : Array Slot} (v : Int32), narrow ty (.int v) = .int v → post v → decode cc pc = .ok (.ireturn, 1) → W p l e rm s m args below meth c s.heap [] 0 0 Q (F0 m pc ls [.int v])) →
      W p l e rm s m args below meth c s.heap [] 0 0 Q (F0 m 0 ls [])) : mRi l y ws rm D cI av wc post := by
  refine Met.ofW (cc := cc) (maxL := maxL) (ret := some ty) hy hw ?_
  intro p e s m args below meth c s₁ B hml hv
  obtain ⟨rfl, hP, hK⟩ := hv
  rw [lg_entry_eq]
  exact body p e s m _ below meth c _ _ B.exec B.bytes (atoms_spec (ws := ws) B.pre) (findClass_of_methodNamed B.named) hml hP hK (lv_entry av hL) (fun v hn hp hd => m_retR B.exec B.bytes B.returns B.notSynchronized hn hp hd)
/-- a writer's body -/
theorem m_ofWi {S0 : Type} {l : Launch} {y : MethodName} {ws ws' : List Cond} {rm : Room} {D : va_G} {cI : ClassId} {av : List Value} {wc : va_W} {post : Int32 → S0 → Prop} {w1 : S0 → va_W} {cc : ByteArray} {maxL : Nat} {ty : FieldType} (hy : plainName y.cls = true) (hw : ws = Cond.code y cc maxL (some ty) :: ws') (hL : (lg_sl av).length ≤ maxL)
    (body : ∀ (p : Program) (e : Env) (s : State) (m : MethodId) (args : Array Value) (below : List Frame) (meth : Method) (c : Code) (ls : Array Slot) (A : Nat → Prop) (Q : State → Prop), p.tables.exec = Jvm.exec → c.code = cc → (∀ w ∈ ws, w.before args s = true) → s.vm.findClass y.cls = some m.cls → c.maxLocals = maxL → va_P D vwCl wc s.heap → va_K D vwCl [(cI, .int)] s → va_D A wc → (∀ q : Nat, s.heap.size ≤ q → A q) → va_S A s.heap s.heap [] → lv_has ls maxL (lv_args 0 av) →
      (∀ {pc : Nat} {ls : Array Slot} {H : Heap} {locs : List Loc} (v : Int32) (u : S0), narrow ty (.int v) = .int v → post v u → va_P D vwCl (w1 u) H → va_D A (w1 u) → va_S A s.heap H locs → decode cc pc = .ok (.ireturn, 1) → W p l e rm s m args below meth c H locs 0 0 Q (F0 m pc ls [.int v])) →
      W p l e rm s m args below meth c s.heap [] 0 0 Q (F0 m 0 ls [])) : mWi l y ws rm D cI av wc post w1 := by
  intro sz
  refine Met.ofW (cc := cc) (maxL := maxL) (ret := some ty) hy hw ?_
  intro p e s m args below meth c s₁ B hml hv
  obtain ⟨rfl, rfl, hP, hK, hD0⟩ := hv
  rw [lg_entry_eq]
  exact body p e s m _ below meth c _ _ _ B.exec B.bytes (atoms_spec (ws := ws) B.pre) (findClass_of_methodNamed B.named) hml hP hK hD0.self (fun q h => Or.inr h) va_S.rf (lv_entry av hL) (fun v u hn hp hP hD hS hd => m_reti B.exec B.bytes B.returns B.notSynchronized hn u hp hP hK hD hS hd)
theorem m_ofWv {S0 : Type} {l : Launch} {y : MethodName} {ws ws' : List Cond} {rm : Room} {D : va_G} {cI : ClassId} {av : List Value} {wc : va_W} {post : S0 → Prop} {w1 : S0 → va_W} {cc : ByteArray} {maxL : Nat} (hy : plainName y.cls = true) (hw : ws = Cond.code y cc maxL none :: ws') (hL : (lg_sl av).length ≤ maxL)
    (body : ∀ (p : Program) (e : Env) (s : State) (m : MethodId) (args : Array Value) (below : List Frame) (meth : Method) (c : Code) (ls : Array Slot) (A : Nat → Prop) (Q : State → Prop), p.tables.exec = Jvm.exec → c.code = cc → (∀ w ∈ ws, w.before args s = true) → s.vm.findClass y.cls = some m.cls → c.maxLocals = maxL → va_P D vwCl wc s.heap → va_K D vwCl [(cI, .int)] s → va_D A wc → (∀ q : Nat, s.heap.size ≤ q → A q) → va_S A s.heap s.heap [] → lv_has ls maxL (lv_args 0 av) →
      (∀ {pc : Nat} {ls : Array Slot} {H : Heap} {locs : List Loc} (u : S0), post u → va_P D vwCl (w1 u) H → va_D A (w1 u) → va_S A s.heap H locs → decode cc pc = .ok (.return_, 1) → W p l e rm s m args below meth c H locs 0 0 Q (F0 m pc ls [])) →
      W p l e rm s m args below meth c s.heap [] 0 0 Q (F0 m 0 ls [])) : mWv l y ws rm D cI av wc post w1 := by
  intro sz
  refine Met.ofW (cc := cc) (maxL := maxL) (ret := none) hy hw ?_
  intro p e s m args below meth c s₁ B hml hv
  obtain ⟨rfl, rfl, hP, hK, hD0⟩ := hv
  rw [lg_entry_eq]
  exact body p e s m _ below meth c _ _ _ B.exec B.bytes (atoms_spec (ws := ws) B.pre) (findClass_of_methodNamed B.named) hml hP hK hD0.self (fun q h => Or.inr h) va_S.rf (lv_entry av hL) (fun u hp hP hD hS hd => m_retv B.exec B.bytes B.returns B.notSynchronized u hp hP hK hD hS hd)
theorem ma_nil {D : va_G} {cl : List vw_C} {H : Heap} : va_P D cl [] H := fun k q h => by simp at h
end
section
/-! the worlds of the class and of the reference -/
abbrev wR (cI : ClassId) (r0 r1 r2 r3 r4 : Nat) (nu : Nat → Int32) (st le : Nat → Nat) (te : Nat → Int32) (ma ds dl : Nat) (ke : Int32) : va_W :=
  [(r0, .inr (1, [.ref r1, .ref r2, .ref r3, .ref r4, .int (nI ma), .int (nI ds), .int (nI dl), .int ke])), (r1, .inl (cI, 512, .inl nu)), (r2, .inl (cI, 513, .inl (nF st))), (r3, .inl (cI, 513, .inl (nF le))), (r4, .inl (cI, 513, .inl te))]
abbrev wP (cI : ClassId) (r0 p0 p1 p2 p3 p4 p5 p6 : Nat) (ki va : Nat → Int32) (sp sg : Nat → Nat) (sk sv : Nat → Int32) (sc og : Nat) : va_W :=
  [(p0, .inr (0, [.ref r0, .ref p1, .ref p2, .ref p3, .ref p4, .ref p5, .ref p6, .int (nI sc), .int (nI og)])), (p1, .inl (cI, 3367, .inl ki)), (p2, .inl (cI, 3367, .inl va)), (p3, .inl (cI, 512, .inl (nF sp))), (p4, .inl (cI, 512, .inl (nF sg))), (p5, .inl (cI, 512, .inl sk)), (p6, .inl (cI, 512, .inl sv))]
abbrev wG (g0 r0 p0 : Nat) : va_W := [(g0, .inr (2, [.ref r0, .ref p0]))]
abbrev wM (cI : ClassId) (m0 m1 m2 m3 m4 m5 m6 : Nat) (th : Int32) (gr co : Nat) (ofs grp : Nat → Nat) (kd vl : Nat → Int32) (ro : Nat) (fr : Nat → Nat) (nm : Nat → Int32) (dr : Nat) : va_W :=
  [(m0, .inr (3, [.int th, .int (nI gr), .int (nI co), .ref m1, .ref m2, .ref m3, .ref m4, .int (nI ro), .ref m5, .ref m6, .int (nI dr)])), (m1, .inl (cI, 4200, .inl (nF ofs))), (m2, .inl (cI, 4200, .inl (nF grp))), (m3, .inl (cI, 4200, .inl kd)), (m4, .inl (cI, 4200, .inl vl)), (m5, .inl (cI, 4200, .inl (nF fr))), (m6, .inl (cI, 4400, .inl nm))]
/-! what the methods do, as functions -/
def lenR (ma : Nat) (le : Nat → Nat) (x : Int32) : Int32 := if isR ma x then nI (le (rj x)) else 0
def hasR (ma : Nat) (le : Nat → Nat) (x k : Int32) : Bool := decide (¬ k < 0) && decide (¬ lenR ma le x ≤ k)
def numR (ma : Nat) (st le : Nat → Nat) (nu : Nat → Int32) (x k : Int32) : Int32 := if hasR ma le x k then nu (st (rj x) + rj k) else 0
def joinF (nu : Nat → Int32) (ds dl : Nat) (v : Int32) : Int32 × (Nat → Int32) × Nat := if dl < 200 ∧ ds + dl < 512 then (1, upd nu (ds + dl) v, dl + 1) else (0, nu, dl)
def takeF (st le : Nat → Nat) (ma ds dl : Nat) : Int32 × (Nat → Nat) × (Nat → Nat) × Nat × Nat × Nat := if dl = 0 ∨ 513 ≤ ma then (0, st, le, ma, ds, dl) else (nI ma, va_up st ma ds, va_up le ma dl, ma + 1, ds + dl, 0)
def addT (ma : Nat) (le : Nat → Nat) (x : Int32) (te : Nat → Int32) (ke : Int32) : (Nat → Int32) × Int32 := if isR ma x then (upd te (rj x) (te (rj x) + 1), if te (rj x) = 0 then ke + nI (le (rj x)) else ke) else (te, ke)
def dropT (ma : Nat) (le : Nat → Nat) (x : Int32) (te : Nat → Int32) (ke : Int32) : (Nat → Int32) × Int32 := if isR ma x then (if te (rj x) = 0 then (te, ke) else (upd te (rj x) (te (rj x) - 1), if te (rj x) - 1 = 0 then ke - nI (le (rj x)) else ke)) else (te, ke)
def tellT (ma : Nat) (le : Nat → Nat) (k x : Int32) (te : Nat → Int32) (ke : Int32) : (Nat → Int32) × Int32 := if k = 3 then addT ma le x te ke else (te, ke)
def untellT (ma : Nat) (le : Nat → Nat) (k x : Int32) (te : Nat → Int32) (ke : Int32) : (Nat → Int32) × Int32 := if k = 3 then dropT ma le x te ke else (te, ke)
def atP (f : Nat → Int32) (x : Int32) : Int32 := if isR 3367 x then f (rj x) else 0
/-- is there no row for the place among those of the innermost group, the last n ones looked at from behind -/
def srch (sp sg : Nat → Nat) (og pl : Nat) : Nat → Bool
  | 0 => true
  | i + 1 => if sg i = og then (if sp i = pl then false else srch sp sg og pl i) else true
def mustB (sp sg : Nat → Nat) (sc og pl : Nat) : Bool := if og = 0 then false else if 512 ≤ sc then false else srch sp sg og pl sc
/-- leave: what n saved rows put back, from behind -/
def leaveF (ma : Nat) (le : Nat → Nat) (sp sg : Nat → Nat) (sk sv : Nat → Int32) (og : Nat) : Nat → (Nat → Int32) → (Nat → Int32) → (Nat → Int32) → Int32 → Nat × (Nat → Int32) × (Nat → Int32) × (Nat → Int32) × Int32
  | 0, ki, va, te, ke => (0, ki, va, te, ke)
  | n + 1, ki, va, te, ke => if sg n = og then
      leaveF ma le sp sg sk sv og n (upd ki (sp n) (sk n)) (upd va (sp n) (sv n)) (untellT ma le (ki (sp n)) (va (sp n)) te ke).1 (untellT ma le (ki (sp n)) (va (sp n)) te ke).2
    else (n + 1, ki, va, te, ke)
/-- forgetSaved: n rows are left to look at, from i on; those kept stand at 0 .. left - 1 -/
def forgF (ma : Nat) (le : Nat → Nat) (pl : Nat) : Nat → Nat → Nat → (Nat → Nat) → (Nat → Nat) → (Nat → Int32) → (Nat → Int32) → (Nat → Int32) → Int32 → Nat × (Nat → Nat) × (Nat → Nat) × (Nat → Int32) × (Nat → Int32) × (Nat → Int32) × Int32
  | 0, _, left, sp, sg, sk, sv, te, ke => (left, sp, sg, sk, sv, te, ke)
  | n + 1, i, left, sp, sg, sk, sv, te, ke => if sp i = pl then
      forgF ma le pl n (i + 1) left sp sg sk sv (untellT ma le (sk i) (sv i) te ke).1 (untellT ma le (sk i) (sv i) te ke).2
    else forgF ma le pl n (i + 1) (left + 1) (va_up sp left (sp i)) (va_up sg left (sg i)) (upd sk left (sk i)) (upd sv left (sv i)) te ke
/-- the reference's drop: n entries are left to look at, from k on; those kept stand at 0 .. j - 1 -/
def dropF (keep : Nat → Nat → Bool) : Nat → Nat → Nat → (Nat → Nat) → (Nat → Nat) → (Nat → Int32) → (Nat → Int32) → Nat × (Nat → Nat) × (Nat → Nat) × (Nat → Int32) × (Nat → Int32)
  | 0, _, j, ofs, grp, kd, vl => (j, ofs, grp, kd, vl)
  | n + 1, k, j, ofs, grp, kd, vl => if keep (ofs k) (grp k) then dropF keep n (k + 1) (j + 1) (va_up ofs j (ofs k)) (va_up grp j (grp k)) (upd kd j (kd k)) (upd vl j (vl k)) else dropF keep n (k + 1) j ofs grp kd vl
/-- the last of the first n entries that is of w -/
def lastF (ofs : Nat → Nat) (w : Nat) : Nat → Option Nat
  | 0 => none
  | n + 1 => if ofs n = w then some n else lastF ofs w n
def atM (ofs : Nat → Nat) (f : Nat → Int32) (w co : Nat) : Int32 := match lastF ofs w co with
  | none => 0
  | some k => f k
def sizeM (fr : Nat → Nat) (row : Nat) : Int32 := if row = 0 then 0 else nI (fr (row + 1)) - nI (fr row)
end
section
set_option maxHeartbeats 4000000 in
set_option maxRecDepth 100000 in
theorem c_X1_isRow (l : Launch) (dC : Nat → ClassId) (dI : Nat → Nat → Nat) (cI : ClassId) (r0 r1 r2 r3 r4 : Nat) (nu : Nat → Int32) (st le : Nat → Nat) (te : Nat → Int32) (ma ds dl : Nat) (ke : Int32) (x : Int32)  : mRi l yX1_isRow wsX1_isRow ({ frames := 0, cells := 0, slots := 0, locals := 0 }) (dC, dI) cI [.ref r0, .int x] (wR cI r0 r1 r2 r3 r4 nu st le te ma ds dl ke) (fun r => r = b2i (isR ma x)) := by
  refine m_ofR (cc := cX1_isRow) (maxL := 2) (by decide) rfl (Nat.le_of_ble_eq_true rfl) ?_
  intro p e s m args below meth c ls Q hx hb hts hown hml hP hK hl hret
  have hown : s.vm.findClass RX1 = some m.cls := hown
  have hl : lv_has ls 2 [(0, .ref r0), (1, .int x)] := hl
  have l24 := hts (.fieldLink RX1 24 "GroupDesk$Rows" "made" "I") (by decide +kernel)
  have iX1 : ∀ w ∈ u_ws RX1 TX1 8, w ∈ wsX1_isRow := by decide +kernel
  refine lv_iload_n hx hb dX1_isRow_0 rfl (lv_at hl 1 rfl) ?_
  refine lv_if_lt (tgt := 16) hx hb dX1_isRow_1 (by decide) (fun c1 => ?_) (fun c1 => ?_)
  · refine lv_iconst (v := 0) hx hb dX1_isRow_16 (by decide) ?_
    exact hret 0 (rfl) (by rw [isR_f1 c1]; rfl) dX1_isRow_17
  · refine lv_iload_n hx hb dX1_isRow_4 rfl (lv_at hl 1 rfl) ?_
    refine lv_aload_n hx hb dX1_isRow_5 rfl (lv_at hl 0 rfl) ?_
    refine va_get (D := (dC, dI)) (ci := 1) (v := .int (nI ma)) (C := RX1) (T := TX1) (N := 8) hx hb hts iX1 hown hK hP 0 rfl rfl 4 (by decide) l24 (fun _ h9 => h9) rfl dX1_isRow_6 ?_
    refine lv_icmp_ge (tgt := 16) hx hb dX1_isRow_9 (by decide) (fun c9 => ?_) (fun c9 => ?_)
    · refine lv_iconst (v := 0) hx hb dX1_isRow_16 (by decide) ?_
      exact hret 0 (rfl) (by rw [isR_f2 c9]; rfl) dX1_isRow_17
    · refine lv_iconst (v := 1) hx hb dX1_isRow_12 (by decide) ?_
      refine lv_goto (tgt := 17) hx hb dX1_isRow_13 (by decide) ?_
      exact hret 1 (rfl) (by rw [isR_t c1 c9]; rfl) dX1_isRow_17
set_option maxHeartbeats 4000000 in
set_option maxRecDepth 100000 in
theorem c_X1_lengthOf (l : Launch) (dC : Nat → ClassId) (dI : Nat → Nat → Nat) (cI : ClassId) (r0 r1 r2 r3 r4 : Nat) (nu : Nat → Int32) (st le : Nat → Nat) (te : Nat → Int32) (ma ds dl : Nat) (ke : Int32) (x : Int32) (hm : ma ≤ 513) : mRi l yX1_lengthOf wsX1_lengthOf ({ frames := 1, cells := 0, slots := 0, locals := 21 }) (dC, dI) cI [.ref r0, .int x] (wR cI r0 r1 r2 r3 r4 nu st le te ma ds dl ke) (fun r => r = lenR ma le x) := by
  refine m_ofR (cc := cX1_lengthOf) (maxL := 2) (by decide) rfl (Nat.le_of_ble_eq_true rfl) ?_
  intro p e s m args below meth c ls Q hx hb hts hown hml hP hK hl hret
  have hown : s.vm.findClass RX1 = some m.cls := hown
  have hl : lv_has ls 2 [(0, .ref r0), (1, .int x)] := hl
  have l18 := hts (.fieldLink RX1 18 "GroupDesk$Rows" "lengths" "[I") (by decide +kernel)
  have iX1 : ∀ w ∈ u_ws RX1 TX1 8, w ∈ wsX1_lengthOf := by decide +kernel
  refine lv_aload_n hx hb dX1_lengthOf_0 rfl (lv_at hl 0 rfl) ?_
  refine lv_iload_n hx hb dX1_lengthOf_1 rfl (lv_at hl 1 rfl) ?_
  refine m_rV (As := [.int x]) (rest := []) ⟨hx, hb, hml, hown, hts⟩ (c_X1_isRow l dC dI cI r0 r1 r2 r3 r4 nu st le te ma ds dl ke x) (cwV 1 hts gX1_lengthOf_X1_isRow rfl rfl rfl (by decide +kernel) ⟨Nat.le_of_ble_eq_true rfl, Nat.le_of_ble_eq_true rfl⟩) hP hK 1 0 rfl rfl rfl hl.1 rfl (Nat.le_of_ble_eq_true rfl) dX1_lengthOf_2 ⟨Nat.zero_le _, Nat.zero_le _⟩ (fun r hw => ?_)
  subst hw
  refine lv_if_eq (tgt := 17) hx hb dX1_lengthOf_5 (by decide) (fun c5 => ?_) (fun c5 => ?_)
  · have hj := b2i_0 c5
    refine lv_iconst (v := 0) hx hb dX1_lengthOf_17 (by decide) ?_
    exact hret 0 (rfl) (by unfold lenR; rw [hj]; rfl) dX1_lengthOf_18
  · have hj := b2i_n c5
    have hi := isR_of (by omega) hj
    refine lv_aload_n hx hb dX1_lengthOf_8 rfl (lv_at hl 0 rfl) ?_
    refine va_get (D := (dC, dI)) (ci := 1) (v := .ref r3) (C := RX1) (T := TX1) (N := 8) hx hb hts iX1 hown hK hP 0 rfl rfl 2 (by decide) l18 (fun _ h9 => h9) rfl dX1_lengthOf_9 ?_
    refine lv_iload_n hx hb dX1_lengthOf_12 rfl (lv_at hl 1 rfl) ?_
    refine mv_iald hx hb hK hP 3 0 rfl rfl (k := rj x) (hi.2) (by omega) (by decide) (v := nI (le (rj x))) rfl dX1_lengthOf_13 ?_
    refine lv_goto (tgt := 18) hx hb dX1_lengthOf_14 (by decide) ?_
    exact hret (nI (le (rj x))) (rfl) (by unfold lenR; rw [hj]; rfl) dX1_lengthOf_18
set_option maxHeartbeats 4000000 in
set_option maxRecDepth 100000 in
theorem c_X1_has (l : Launch) (dC : Nat → ClassId) (dI : Nat → Nat → Nat) (cI : ClassId) (r0 r1 r2 r3 r4 : Nat) (nu : Nat → Int32) (st le : Nat → Nat) (te : Nat → Int32) (ma ds dl : Nat) (ke : Int32) (x k : Int32) (hm : ma ≤ 513) : mRi l yX1_has wsX1_has ({ frames := 2, cells := 0, slots := 0, locals := 42 }) (dC, dI) cI [.ref r0, .int x, .int k] (wR cI r0 r1 r2 r3 r4 nu st le te ma ds dl ke) (fun r => r = b2i (hasR ma le x k)) := by
  refine m_ofR (cc := cX1_has) (maxL := 3) (by decide) rfl (Nat.le_of_ble_eq_true rfl) ?_
  intro p e s m args below meth c ls Q hx hb hts hown hml hP hK hl hret
  have hown : s.vm.findClass RX1 = some m.cls := hown
  have hl : lv_has ls 3 [(0, .ref r0), (1, .int x), (2, .int k)] := hl
  refine lv_iload_n hx hb dX1_has_0 rfl (lv_at hl 2 rfl) ?_
  refine lv_if_lt (tgt := 17) hx hb dX1_has_1 (by decide) (fun c1 => ?_) (fun c1 => ?_)
  · refine lv_iconst (v := 0) hx hb dX1_has_17 (by decide) ?_
    exact hret 0 (rfl) (by unfold hasR; rw [decide_eq_false (not_not_intro c1)]; rfl) dX1_has_18
  · refine lv_iload_n hx hb dX1_has_4 rfl (lv_at hl 2 rfl) ?_
    refine lv_aload_n hx hb dX1_has_5 rfl (lv_at hl 0 rfl) ?_
    refine lv_iload_n hx hb dX1_has_6 rfl (lv_at hl 1 rfl) ?_
    refine m_rV (As := [.int x]) (rest := [.int k]) ⟨hx, hb, hml, hown, hts⟩ (c_X1_lengthOf l dC dI cI r0 r1 r2 r3 r4 nu st le te ma ds dl ke x hm) (cwV 1 hts gX1_has_X1_lengthOf rfl rfl rfl (by decide +kernel) ⟨Nat.le_of_ble_eq_true rfl, Nat.le_of_ble_eq_true rfl⟩) hP hK 1 0 rfl rfl rfl hl.1 rfl (Nat.le_of_ble_eq_true rfl) dX1_has_7 ⟨Nat.zero_le _, Nat.zero_le _⟩ (fun r hw => ?_)
    subst hw
    refine lv_icmp_ge (tgt := 17) hx hb dX1_has_10 (by decide) (fun c10 => ?_) (fun c10 => ?_)
    · refine lv_iconst (v := 0) hx hb dX1_has_17 (by decide) ?_
      exact hret 0 (rfl) (by unfold hasR; rw [decide_eq_false (not_not_intro c10), Bool.and_false]; rfl) dX1_has_18
    · refine lv_iconst (v := 1) hx hb dX1_has_13 (by decide) ?_
      refine lv_goto (tgt := 18) hx hb dX1_has_14 (by decide) ?_
      exact hret 1 (rfl) (by unfold hasR; rw [decide_eq_true c1, decide_eq_true c10]; rfl) dX1_has_18
theorem hasR_of {ma : Nat} {le : Nat → Nat} {x k : Int32} (hm : ma < 2 ^ 31) (hle : ∀ j, j < ma → le j < 2 ^ 31) (h : hasR ma le x k = true) : (rj x < ma ∧ x = nI (rj x)) ∧ (rj k < le (rj x) ∧ k = nI (rj k)) := by
  unfold hasR at h
  simp only [Bool.and_eq_true, decide_eq_true_eq] at h
  obtain ⟨h1, h2⟩ := h
  unfold lenR at h2
  by_cases hj : isR ma x = true
  · rw [if_pos hj] at h2
    have hi := isR_of hm hj
    refine ⟨hi, isR_of (hle _ hi.1) (isR_t h1 h2)⟩
  · rw [if_neg hj] at h2
    exact absurd (Int32.not_lt.mp h1) h2
set_option maxHeartbeats 4000000 in
set_option maxRecDepth 100000 in
theorem c_X1_numberAt (l : Launch) (dC : Nat → ClassId) (dI : Nat → Nat → Nat) (cI : ClassId) (r0 r1 r2 r3 r4 : Nat) (nu : Nat → Int32) (st le : Nat → Nat) (te : Nat → Int32) (ma ds dl : Nat) (ke : Int32) (x k : Int32) (hm : ma ≤ 513) (hst : ∀ j, j < ma → st j + le j ≤ 512) : mRi l yX1_numberAt wsX1_numberAt ({ frames := 3, cells := 0, slots := 0, locals := 64 }) (dC, dI) cI [.ref r0, .int x, .int k] (wR cI r0 r1 r2 r3 r4 nu st le te ma ds dl ke) (fun r => r = numR ma st le nu x k) := by
  refine m_ofR (cc := cX1_numberAt) (maxL := 3) (by decide) rfl (Nat.le_of_ble_eq_true rfl) ?_
  intro p e s m args below meth c ls Q hx hb hts hown hml hP hK hl hret
  have hown : s.vm.findClass RX1 = some m.cls := hown
  have hl : lv_has ls 3 [(0, .ref r0), (1, .int x), (2, .int k)] := hl
  have l9 := hts (.fieldLink RX1 9 "GroupDesk$Rows" "numbers" "[I") (by decide +kernel)
  have l15 := hts (.fieldLink RX1 15 "GroupDesk$Rows" "starts" "[I") (by decide +kernel)
  have iX1 : ∀ w ∈ u_ws RX1 TX1 8, w ∈ wsX1_numberAt := by decide +kernel
  refine lv_aload_n hx hb dX1_numberAt_0 rfl (lv_at hl 0 rfl) ?_
  refine lv_iload_n hx hb dX1_numberAt_1 rfl (lv_at hl 1 rfl) ?_
  refine lv_iload_n hx hb dX1_numberAt_2 rfl (lv_at hl 2 rfl) ?_
  refine m_rV (As := [.int x, .int k]) (rest := []) ⟨hx, hb, hml, hown, hts⟩ (c_X1_has l dC dI cI r0 r1 r2 r3 r4 nu st le te ma ds dl ke x k hm) (cwV 2 hts gX1_numberAt_X1_has rfl rfl rfl (by decide +kernel) ⟨Nat.le_of_ble_eq_true rfl, Nat.le_of_ble_eq_true rfl⟩) hP hK 1 0 rfl rfl rfl hl.1 rfl (Nat.le_of_ble_eq_true rfl) dX1_numberAt_3 ⟨Nat.zero_le _, Nat.zero_le _⟩ (fun r hw => ?_)
  subst hw
  refine lv_if_eq (tgt := 25) hx hb dX1_numberAt_6 (by decide) (fun c6 => ?_) (fun c6 => ?_)
  · have hj := b2i_0 c6
    refine lv_iconst (v := 0) hx hb dX1_numberAt_25 (by decide) ?_
    exact hret 0 (rfl) (by unfold numR; rw [hj]; rfl) dX1_numberAt_26
  · have hj := b2i_n c6
    have hi := hasR_of (by omega) (fun j h => by have := hst j h; omega) hj
    refine lv_aload_n hx hb dX1_numberAt_9 rfl (lv_at hl 0 rfl) ?_
    refine va_get (D := (dC, dI)) (ci := 1) (v := .ref r1) (C := RX1) (T := TX1) (N := 8) hx hb hts iX1 hown hK hP 0 rfl rfl 0 (by decide) l9 (fun _ h9 => h9) rfl dX1_numberAt_10 ?_
    refine lv_aload_n hx hb dX1_numberAt_13 rfl (lv_at hl 0 rfl) ?_
    refine va_get (D := (dC, dI)) (ci := 1) (v := .ref r2) (C := RX1) (T := TX1) (N := 8) hx hb hts iX1 hown hK hP 0 rfl rfl 1 (by decide) l15 (fun _ h9 => h9) rfl dX1_numberAt_14 ?_
    refine lv_iload_n hx hb dX1_numberAt_17 rfl (lv_at hl 1 rfl) ?_
    refine mv_iald hx hb hK hP 2 0 rfl rfl (k := rj x) (hi.1.2) (by have := hi.1.1; omega) (by decide) (v := nI (st (rj x))) rfl dX1_numberAt_18 ?_
    refine lv_iload_n hx hb dX1_numberAt_19 rfl (lv_at hl 2 rfl) ?_
    refine lv_iadd hx hb dX1_numberAt_20 ?_
    refine mv_top (v := nI (st (rj x) + rj k)) (by rw [hi.2.2, rj_nI (by have := hi.2.1; have := hst (rj x) hi.1.1; omega)]; exact nI_add _ _) ?_
    refine mv_iald hx hb hK hP 1 0 rfl rfl (k := st (rj x) + rj k) (rfl) (by have h9 := hst (rj x) hi.1.1; have h8 := hi.2.1; omega) (by decide) (v := nu (st (rj x) + rj k)) rfl dX1_numberAt_21 ?_
    refine lv_goto (tgt := 26) hx hb dX1_numberAt_22 (by decide) ?_
    exact hret (nu (st (rj x) + rj k)) (rfl) (by unfold numR; rw [hj]; rfl) dX1_numberAt_26
set_option maxHeartbeats 4000000 in
set_option maxRecDepth 100000 in
theorem c_X1_drafted (l : Launch) (dC : Nat → ClassId) (dI : Nat → Nat → Nat) (cI : ClassId) (r0 r1 r2 r3 r4 : Nat) (nu : Nat → Int32) (st le : Nat → Nat) (te : Nat → Int32) (ma ds dl : Nat) (ke : Int32)   : mRi l yX1_drafted wsX1_drafted ({ frames := 0, cells := 0, slots := 0, locals := 0 }) (dC, dI) cI [.ref r0] (wR cI r0 r1 r2 r3 r4 nu st le te ma ds dl ke) (fun r => r = nI dl) := by
  refine m_ofR (cc := cX1_drafted) (maxL := 1) (by decide) rfl (Nat.le_of_ble_eq_true rfl) ?_
  intro p e s m args below meth c ls Q hx hb hts hown hml hP hK hl hret
  have hown : s.vm.findClass RX1 = some m.cls := hown
  have hl : lv_has ls 1 [(0, .ref r0)] := hl
  have l31 := hts (.fieldLink RX1 31 "GroupDesk$Rows" "draftLength" "I") (by decide +kernel)
  have iX1 : ∀ w ∈ u_ws RX1 TX1 8, w ∈ wsX1_drafted := by decide +kernel
  refine lv_aload_n hx hb dX1_drafted_0 rfl (lv_at hl 0 rfl) ?_
  refine va_get (D := (dC, dI)) (ci := 1) (v := .int (nI dl)) (C := RX1) (T := TX1) (N := 8) hx hb hts iX1 hown hK hP 0 rfl rfl 6 (by decide) l31 (fun _ h9 => h9) rfl dX1_drafted_1 ?_
  exact hret (nI dl) (rfl) (rfl) dX1_drafted_4
set_option maxHeartbeats 4000000 in
set_option maxRecDepth 100000 in
theorem c_X1_kept (l : Launch) (dC : Nat → ClassId) (dI : Nat → Nat → Nat) (cI : ClassId) (r0 r1 r2 r3 r4 : Nat) (nu : Nat → Int32) (st le : Nat → Nat) (te : Nat → Int32) (ma ds dl : Nat) (ke : Int32)   : mRi l yX1_kept wsX1_kept ({ frames := 0, cells := 0, slots := 0, locals := 0 }) (dC, dI) cI [.ref r0] (wR cI r0 r1 r2 r3 r4 nu st le te ma ds dl ke) (fun r => r = ke) := by
  refine m_ofR (cc := cX1_kept) (maxL := 1) (by decide) rfl (Nat.le_of_ble_eq_true rfl) ?_
  intro p e s m args below meth c ls Q hx hb hts hown hml hP hK hl hret
  have hown : s.vm.findClass RX1 = some m.cls := hown
  have hl : lv_has ls 1 [(0, .ref r0)] := hl
  have l34 := hts (.fieldLink RX1 34 "GroupDesk$Rows" "keptNumbers" "I") (by decide +kernel)
  have iX1 : ∀ w ∈ u_ws RX1 TX1 8, w ∈ wsX1_kept := by decide +kernel
  refine lv_aload_n hx hb dX1_kept_0 rfl (lv_at hl 0 rfl) ?_
  refine va_get (D := (dC, dI)) (ci := 1) (v := .int ke) (C := RX1) (T := TX1) (N := 8) hx hb hts iX1 hown hK hP 0 rfl rfl 7 (by decide) l34 (fun _ h9 => h9) rfl dX1_kept_1 ?_
  exact hret ke (rfl) (rfl) dX1_kept_4
set_option maxHeartbeats 4000000 in
set_option maxRecDepth 100000 in
theorem c_X1_join (l : Launch) (dC : Nat → ClassId) (dI : Nat → Nat → Nat) (cI : ClassId) (r0 r1 r2 r3 r4 : Nat) (nu : Nat → Int32) (st le : Nat → Nat) (te : Nat → Int32) (ma ds dl : Nat) (ke : Int32) (v : Int32) (hd : ds + dl ≤ 512) : mWi l yX1_join wsX1_join ({ frames := 0, cells := 0, slots := 0, locals := 0 }) (dC, dI) cI [.ref r0, .int v] (wR cI r0 r1 r2 r3 r4 nu st le te ma ds dl ke) (fun r u => r = (joinF nu ds dl v).1 ∧ u = (joinF nu ds dl v).2) (fun u : (Nat → Int32) × Nat => wR cI r0 r1 r2 r3 r4 u.1 st le te ma ds u.2 ke) := by
  refine m_ofWi (cc := cX1_join) (maxL := 3) (by decide) rfl (Nat.le_of_ble_eq_true rfl) ?_
  intro p e s m args below meth c ls A Q hx hb hts hown hml hP hK hD hA hS hl hret
  have hown : s.vm.findClass RX1 = some m.cls := hown
  have hl : lv_has ls 3 [(0, .ref r0), (1, .int v)] := hl
  have l28 := hts (.fieldLink RX1 28 "GroupDesk$Rows" "draftStart" "I") (by decide +kernel)
  have l31 := hts (.fieldLink RX1 31 "GroupDesk$Rows" "draftLength" "I") (by decide +kernel)
  have l9 := hts (.fieldLink RX1 9 "GroupDesk$Rows" "numbers" "[I") (by decide +kernel)
  have iX1 : ∀ w ∈ u_ws RX1 TX1 8, w ∈ wsX1_join := by decide +kernel
  refine lv_aload_n hx hb dX1_join_0 rfl (lv_at hl 0 rfl) ?_
  refine va_get (D := (dC, dI)) (ci := 1) (v := .int (nI ds)) (C := RX1) (T := TX1) (N := 8) hx hb hts iX1 hown hK hP 0 rfl rfl 5 (by decide) l28 (fun _ h9 => h9) rfl dX1_join_1 ?_
  refine lv_aload_n hx hb dX1_join_4 rfl (lv_at hl 0 rfl) ?_
  refine va_get (D := (dC, dI)) (ci := 1) (v := .int (nI dl)) (C := RX1) (T := TX1) (N := 8) hx hb hts iX1 hown hK hP 0 rfl rfl 6 (by decide) l31 (fun _ h9 => h9) rfl dX1_join_5 ?_
  refine lv_iadd hx hb dX1_join_8 ?_
  refine mv_top (v := nI (ds + dl)) (nI_add ds dl) ?_
  refine lv_istore_n (lv' := [(2, .int (nI (ds + dl))), (0, .ref r0), (1, .int v)]) hx hb dX1_join_9 rfl hl (by decide) rfl (fun ls hl => ?_)
  refine lv_aload_n hx hb dX1_join_10 rfl (lv_at hl 1 rfl) ?_
  refine va_get (D := (dC, dI)) (ci := 1) (v := .int (nI dl)) (C := RX1) (T := TX1) (N := 8) hx hb hts iX1 hown hK hP 0 rfl rfl 6 (by decide) l31 (fun _ h9 => h9) rfl dX1_join_11 ?_
  refine lv_sipush (v := nI 200) hx hb dX1_join_14 (by decide) ?_
  refine lv_icmp_ge (tgt := 29) hx hb dX1_join_17 (by decide) (fun c17 => ?_) (fun c17 => ?_)
  · refine lv_iconst (v := 0) hx hb dX1_join_29 (by decide) ?_
    exact hret 0 ((nu, dl)) (rfl) (by unfold joinF; rw [if_neg (fun h => by have := (nI_leI (by omega) (by omega)).mp c17; omega)]; exact ⟨rfl, rfl⟩) hP hD hS dX1_join_30
  · refine lv_iload_n hx hb dX1_join_20 rfl (lv_at hl 0 rfl) ?_
    refine lv_aload_n hx hb dX1_join_21 rfl (lv_at hl 1 rfl) ?_
    refine va_get (D := (dC, dI)) (ci := 1) (v := .ref r1) (C := RX1) (T := TX1) (N := 8) hx hb hts iX1 hown hK hP 0 rfl rfl 0 (by decide) l9 (fun _ h9 => h9) rfl dX1_join_22 ?_
    refine va_alen hx hb hK hP 1 0 rfl rfl (v := nI 512) rfl dX1_join_25 ?_
    refine lv_icmp_lt (tgt := 31) hx hb dX1_join_26 (by decide) (fun c26 => ?_) (fun c26 => ?_)
    · have h9 : dl < 200 ∧ ds + dl < 512 := ⟨Nat.lt_of_not_le fun h => c17 ((nI_leI (a := 200) (b := dl) (by omega) (by omega)).mpr h), (nI_ltI (by omega) (by omega)).mp c26⟩
      refine lv_aload_n hx hb dX1_join_31 rfl (lv_at hl 1 rfl) ?_
      refine va_get (D := (dC, dI)) (ci := 1) (v := .ref r1) (C := RX1) (T := TX1) (N := 8) hx hb hts iX1 hown hK hP 0 rfl rfl 0 (by decide) l9 (fun _ h9 => h9) rfl dX1_join_32 ?_
      refine lv_iload_n hx hb dX1_join_35 rfl (lv_at hl 0 rfl) ?_
      refine lv_iload_n hx hb dX1_join_36 rfl (lv_at hl 2 rfl) ?_
      refine mv_iast hx hb hK hP hD hS 1 0 rfl rfl (k := ds + dl) (rfl) (h9.2) (by decide) (f' := upd nu (ds + dl) v) (rfl) dX1_join_37 (fun H locs hP hD hS => ?_)
      have hP : va_P (dC, dI) vwCl (wR cI r0 r1 r2 r3 r4 (upd nu (ds + dl) v) st le te ma ds dl ke) _ := hP
      have hD : va_D A (wR cI r0 r1 r2 r3 r4 (upd nu (ds + dl) v) st le te ma ds dl ke) := hD
      refine lv_aload_n hx hb dX1_join_38 rfl (lv_at hl 1 rfl) ?_
      refine lv_dup hx hb dX1_join_39 rfl ?_
      refine va_get (D := (dC, dI)) (ci := 1) (v := .int (nI dl)) (C := RX1) (T := TX1) (N := 8) hx hb hts iX1 hown hK hP 0 rfl rfl 6 (by decide) l31 (fun _ h9 => h9) rfl dX1_join_40 ?_
      refine lv_iconst (v := 1) hx hb dX1_join_43 (by decide) ?_
      refine lv_iadd hx hb dX1_join_44 ?_
      refine mv_top (v := nI (dl + 1)) (nI_1 dl) ?_
      refine va_put (D := (dC, dI)) (ci := 1) (v := .int (nI (dl + 1))) (ty := .int) (C := RX1) (T := TX1) (N := 8) hx hb hts iX1 tyX1 tyX1_ok nmX1 hown hK hP hD hS 0 rfl rfl 6 (by decide) l31 (fun _ h9 => h9) rfl (by decide +kernel) rfl rfl (Nat.le_of_ble_eq_true rfl) dX1_join_45 (fun H locs hP hD hS => ?_)
      have hP : va_P (dC, dI) vwCl (wR cI r0 r1 r2 r3 r4 (upd nu (ds + dl) v) st le te ma ds (dl + 1) ke) _ := hP
      have hD : va_D A (wR cI r0 r1 r2 r3 r4 (upd nu (ds + dl) v) st le te ma ds (dl + 1) ke) := hD
      refine lv_iconst (v := 1) hx hb dX1_join_48 (by decide) ?_
      exact hret 1 ((upd nu (ds + dl) v, dl + 1)) (rfl) (by unfold joinF; rw [if_pos h9]; exact ⟨rfl, rfl⟩) hP hD hS dX1_join_49
    · refine lv_iconst (v := 0) hx hb dX1_join_29 (by decide) ?_
      exact hret 0 ((nu, dl)) (rfl) (by unfold joinF; rw [if_neg (fun h => c26 ((nI_ltI (by omega) (by omega)).mpr h.2))]; exact ⟨rfl, rfl⟩) hP hD hS dX1_join_30
set_option maxHeartbeats 4000000 in
set_option maxRecDepth 100000 in
theorem c_X1_takeDraft (l : Launch) (dC : Nat → ClassId) (dI : Nat → Nat → Nat) (cI : ClassId) (r0 r1 r2 r3 r4 : Nat) (nu : Nat → Int32) (st le : Nat → Nat) (te : Nat → Int32) (ma ds dl : Nat) (ke : Int32)  (hm : ma ≤ 513) (hd : ds + dl ≤ 512) : mWi l yX1_takeDraft wsX1_takeDraft ({ frames := 0, cells := 0, slots := 0, locals := 0 }) (dC, dI) cI [.ref r0] (wR cI r0 r1 r2 r3 r4 nu st le te ma ds dl ke) (fun r u => r = (takeF st le ma ds dl).1 ∧ u = (takeF st le ma ds dl).2) (fun u : (Nat → Nat) × (Nat → Nat) × Nat × Nat × Nat => wR cI r0 r1 r2 r3 r4 nu u.1 u.2.1 te u.2.2.1 u.2.2.2.1 u.2.2.2.2 ke) := by
  refine m_ofWi (cc := cX1_takeDraft) (maxL := 2) (by decide) rfl (Nat.le_of_ble_eq_true rfl) ?_
  intro p e s m args below meth c ls A Q hx hb hts hown hml hP hK hD hA hS hl hret
  have hown : s.vm.findClass RX1 = some m.cls := hown
  have hl : lv_has ls 2 [(0, .ref r0)] := hl
  have l31 := hts (.fieldLink RX1 31 "GroupDesk$Rows" "draftLength" "I") (by decide +kernel)
  have l24 := hts (.fieldLink RX1 24 "GroupDesk$Rows" "made" "I") (by decide +kernel)
  have l15 := hts (.fieldLink RX1 15 "GroupDesk$Rows" "starts" "[I") (by decide +kernel)
  have l28 := hts (.fieldLink RX1 28 "GroupDesk$Rows" "draftStart" "I") (by decide +kernel)
  have l18 := hts (.fieldLink RX1 18 "GroupDesk$Rows" "lengths" "[I") (by decide +kernel)
  have iX1 : ∀ w ∈ u_ws RX1 TX1 8, w ∈ wsX1_takeDraft := by decide +kernel
  refine lv_aload_n hx hb dX1_takeDraft_0 rfl (lv_at hl 0 rfl) ?_
  refine va_get (D := (dC, dI)) (ci := 1) (v := .int (nI dl)) (C := RX1) (T := TX1) (N := 8) hx hb hts iX1 hown hK hP 0 rfl rfl 6 (by decide) l31 (fun _ h9 => h9) rfl dX1_takeDraft_1 ?_
  refine lv_if_eq (tgt := 19) hx hb dX1_takeDraft_4 (by decide) (fun c4 => ?_) (fun c4 => ?_)
  · refine lv_iconst (v := 0) hx hb dX1_takeDraft_19 (by decide) ?_
    exact hret 0 ((st, le, ma, ds, dl)) (rfl) (by unfold takeF; rw [if_pos (Or.inl ((nI_eq (by omega) (by decide)).mp (c4.trans nI_0.symm)))]; exact ⟨rfl, rfl⟩) hP hD hS dX1_takeDraft_20
  · refine lv_aload_n hx hb dX1_takeDraft_7 rfl (lv_at hl 0 rfl) ?_
    refine va_get (D := (dC, dI)) (ci := 1) (v := .int (nI ma)) (C := RX1) (T := TX1) (N := 8) hx hb hts iX1 hown hK hP 0 rfl rfl 4 (by decide) l24 (fun _ h9 => h9) rfl dX1_takeDraft_8 ?_
    refine lv_aload_n hx hb dX1_takeDraft_11 rfl (lv_at hl 0 rfl) ?_
    refine va_get (D := (dC, dI)) (ci := 1) (v := .ref r2) (C := RX1) (T := TX1) (N := 8) hx hb hts iX1 hown hK hP 0 rfl rfl 1 (by decide) l15 (fun _ h9 => h9) rfl dX1_takeDraft_12 ?_
    refine va_alen hx hb hK hP 2 0 rfl rfl (v := nI 513) rfl dX1_takeDraft_15 ?_
    refine lv_icmp_lt (tgt := 21) hx hb dX1_takeDraft_16 (by decide) (fun c16 => ?_) (fun c16 => ?_)
    · have h8 : ma < 513 := (nI_ltI (by omega) (by omega)).mp c16
      have h9 : ¬ (dl = 0 ∨ 513 ≤ ma) := fun h => h.elim (fun h => c4 (by rw [h]; rfl)) (fun h => by omega)
      refine lv_aload_n hx hb dX1_takeDraft_21 rfl (lv_at hl 0 rfl) ?_
      refine va_get (D := (dC, dI)) (ci := 1) (v := .int (nI ma)) (C := RX1) (T := TX1) (N := 8) hx hb hts iX1 hown hK hP 0 rfl rfl 4 (by decide) l24 (fun _ h9 => h9) rfl dX1_takeDraft_22 ?_
      refine lv_istore_n (lv' := [(1, .int (nI ma)), (0, .ref r0)]) hx hb dX1_takeDraft_25 rfl hl (by decide) rfl (fun ls hl => ?_)
      refine lv_aload_n hx hb dX1_takeDraft_26 rfl (lv_at hl 1 rfl) ?_
      refine va_get (D := (dC, dI)) (ci := 1) (v := .ref r2) (C := RX1) (T := TX1) (N := 8) hx hb hts iX1 hown hK hP 0 rfl rfl 1 (by decide) l15 (fun _ h9 => h9) rfl dX1_takeDraft_27 ?_
      refine lv_iload_n hx hb dX1_takeDraft_30 rfl (lv_at hl 0 rfl) ?_
      refine lv_aload_n hx hb dX1_takeDraft_31 rfl (lv_at hl 1 rfl) ?_
      refine va_get (D := (dC, dI)) (ci := 1) (v := .int (nI ds)) (C := RX1) (T := TX1) (N := 8) hx hb hts iX1 hown hK hP 0 rfl rfl 5 (by decide) l28 (fun _ h9 => h9) rfl dX1_takeDraft_32 ?_
      refine mv_iast hx hb hK hP hD hS 2 0 rfl rfl (k := ma) (rfl) (h8) (by decide) (f' := nF (va_up st ma ds)) (nF_up _ _ _) dX1_takeDraft_35 (fun H locs hP hD hS => ?_)
      have hP : va_P (dC, dI) vwCl (wR cI r0 r1 r2 r3 r4 nu (va_up st ma ds) le te ma ds dl ke) _ := hP
      have hD : va_D A (wR cI r0 r1 r2 r3 r4 nu (va_up st ma ds) le te ma ds dl ke) := hD
      refine lv_aload_n hx hb dX1_takeDraft_36 rfl (lv_at hl 1 rfl) ?_
      refine va_get (D := (dC, dI)) (ci := 1) (v := .ref r3) (C := RX1) (T := TX1) (N := 8) hx hb hts iX1 hown hK hP 0 rfl rfl 2 (by decide) l18 (fun _ h9 => h9) rfl dX1_takeDraft_37 ?_
      refine lv_iload_n hx hb dX1_takeDraft_40 rfl (lv_at hl 0 rfl) ?_
      refine lv_aload_n hx hb dX1_takeDraft_41 rfl (lv_at hl 1 rfl) ?_
      refine va_get (D := (dC, dI)) (ci := 1) (v := .int (nI dl)) (C := RX1) (T := TX1) (N := 8) hx hb hts iX1 hown hK hP 0 rfl rfl 6 (by decide) l31 (fun _ h9 => h9) rfl dX1_takeDraft_42 ?_
      refine mv_iast hx hb hK hP hD hS 3 0 rfl rfl (k := ma) (rfl) (h8) (by decide) (f' := nF (va_up le ma dl)) (nF_up _ _ _) dX1_takeDraft_45 (fun H locs hP hD hS => ?_)
      have hP : va_P (dC, dI) vwCl (wR cI r0 r1 r2 r3 r4 nu (va_up st ma ds) (va_up le ma dl) te ma ds dl ke) _ := hP
      have hD : va_D A (wR cI r0 r1 r2 r3 r4 nu (va_up st ma ds) (va_up le ma dl) te ma ds dl ke) := hD
      refine lv_aload_n hx hb dX1_takeDraft_46 rfl (lv_at hl 1 rfl) ?_
      refine lv_dup hx hb dX1_takeDraft_47 rfl ?_
      refine va_get (D := (dC, dI)) (ci := 1) (v := .int (nI ma)) (C := RX1) (T := TX1) (N := 8) hx hb hts iX1 hown hK hP 0 rfl rfl 4 (by decide) l24 (fun _ h9 => h9) rfl dX1_takeDraft_48 ?_
      refine lv_iconst (v := 1) hx hb dX1_takeDraft_51 (by decide) ?_
      refine lv_iadd hx hb dX1_takeDraft_52 ?_
      refine mv_top (v := nI (ma + 1)) (nI_1 ma) ?_
      refine va_put (D := (dC, dI)) (ci := 1) (v := .int (nI (ma + 1))) (ty := .int) (C := RX1) (T := TX1) (N := 8) hx hb hts iX1 tyX1 tyX1_ok nmX1 hown hK hP hD hS 0 rfl rfl 4 (by decide) l24 (fun _ h9 => h9) rfl (by decide +kernel) rfl rfl (Nat.le_of_ble_eq_true rfl) dX1_takeDraft_53 (fun H locs hP hD hS => ?_)
      have hP : va_P (dC, dI) vwCl (wR cI r0 r1 r2 r3 r4 nu (va_up st ma ds) (va_up le ma dl) te (ma + 1) ds dl ke) _ := hP
      have hD : va_D A (wR cI r0 r1 r2 r3 r4 nu (va_up st ma ds) (va_up le ma dl) te (ma + 1) ds dl ke) := hD
      refine lv_aload_n hx hb dX1_takeDraft_56 rfl (lv_at hl 1 rfl) ?_
      refine lv_dup hx hb dX1_takeDraft_57 rfl ?_
      refine va_get (D := (dC, dI)) (ci := 1) (v := .int (nI ds)) (C := RX1) (T := TX1) (N := 8) hx hb hts iX1 hown hK hP 0 rfl rfl 5 (by decide) l28 (fun _ h9 => h9) rfl dX1_takeDraft_58 ?_
      refine lv_aload_n hx hb dX1_takeDraft_61 rfl (lv_at hl 1 rfl) ?_
      refine va_get (D := (dC, dI)) (ci := 1) (v := .int (nI dl)) (C := RX1) (T := TX1) (N := 8) hx hb hts iX1 hown hK hP 0 rfl rfl 6 (by decide) l31 (fun _ h9 => h9) rfl dX1_takeDraft_62 ?_
      refine lv_iadd hx hb dX1_takeDraft_65 ?_
      refine mv_top (v := nI (ds + dl)) (nI_add ds dl) ?_
      refine va_put (D := (dC, dI)) (ci := 1) (v := .int (nI (ds + dl))) (ty := .int) (C := RX1) (T := TX1) (N := 8) hx hb hts iX1 tyX1 tyX1_ok nmX1 hown hK hP hD hS 0 rfl rfl 5 (by decide) l28 (fun _ h9 => h9) rfl (by decide +kernel) rfl rfl (Nat.le_of_ble_eq_true rfl) dX1_takeDraft_66 (fun H locs hP hD hS => ?_)
      have hP : va_P (dC, dI) vwCl (wR cI r0 r1 r2 r3 r4 nu (va_up st ma ds) (va_up le ma dl) te (ma + 1) (ds + dl) dl ke) _ := hP
      have hD : va_D A (wR cI r0 r1 r2 r3 r4 nu (va_up st ma ds) (va_up le ma dl) te (ma + 1) (ds + dl) dl ke) := hD
      refine lv_aload_n hx hb dX1_takeDraft_69 rfl (lv_at hl 1 rfl) ?_
      refine lv_iconst (v := 0) hx hb dX1_takeDraft_70 (by decide) ?_
      refine mv_top (v := nI 0) rfl ?_
      refine va_put (D := (dC, dI)) (ci := 1) (v := .int (nI 0)) (ty := .int) (C := RX1) (T := TX1) (N := 8) hx hb hts iX1 tyX1 tyX1_ok nmX1 hown hK hP hD hS 0 rfl rfl 6 (by decide) l31 (fun _ h9 => h9) rfl (by decide +kernel) rfl rfl (Nat.le_of_ble_eq_true rfl) dX1_takeDraft_71 (fun H locs hP hD hS => ?_)
      have hP : va_P (dC, dI) vwCl (wR cI r0 r1 r2 r3 r4 nu (va_up st ma ds) (va_up le ma dl) te (ma + 1) (ds + dl) 0 ke) _ := hP
      have hD : va_D A (wR cI r0 r1 r2 r3 r4 nu (va_up st ma ds) (va_up le ma dl) te (ma + 1) (ds + dl) 0 ke) := hD
      refine lv_iload_n hx hb dX1_takeDraft_74 rfl (lv_at hl 0 rfl) ?_
      exact hret (nI ma) ((va_up st ma ds, va_up le ma dl, ma + 1, ds + dl, 0)) (rfl) (by unfold takeF; rw [if_neg h9]; exact ⟨rfl, rfl⟩) hP hD hS dX1_takeDraft_75
    · refine lv_iconst (v := 0) hx hb dX1_takeDraft_19 (by decide) ?_
      exact hret 0 ((st, le, ma, ds, dl)) (rfl) (by unfold takeF; rw [if_pos (Or.inr (Nat.le_of_not_lt fun h => c16 ((nI_ltI (by omega) (by omega)).mpr h)))]; exact ⟨rfl, rfl⟩) hP hD hS dX1_takeDraft_20
set_option maxHeartbeats 4000000 in
set_option maxRecDepth 100000 in
theorem c_X1_addTeller (l : Launch) (dC : Nat → ClassId) (dI : Nat → Nat → Nat) (cI : ClassId) (r0 r1 r2 r3 r4 : Nat) (nu : Nat → Int32) (st le : Nat → Nat) (te : Nat → Int32) (ma ds dl : Nat) (ke : Int32) (x : Int32) (hm : ma ≤ 513) : mWv l yX1_addTeller wsX1_addTeller ({ frames := 1, cells := 0, slots := 0, locals := 21 }) (dC, dI) cI [.ref r0, .int x] (wR cI r0 r1 r2 r3 r4 nu st le te ma ds dl ke) (fun u => u = addT ma le x te ke) (fun u : (Nat → Int32) × Int32 => wR cI r0 r1 r2 r3 r4 nu st le u.1 ma ds dl u.2) := by
  refine m_ofWv (cc := cX1_addTeller) (maxL := 2) (by decide) rfl (Nat.le_of_ble_eq_true rfl) ?_
  intro p e s m args below meth c ls A Q hx hb hts hown hml hP hK hD hA hS hl hret
  have hown : s.vm.findClass RX1 = some m.cls := hown
  have hl : lv_has ls 2 [(0, .ref r0), (1, .int x)] := hl
  have l21 := hts (.fieldLink RX1 21 "GroupDesk$Rows" "tellers" "[I") (by decide +kernel)
  have l34 := hts (.fieldLink RX1 34 "GroupDesk$Rows" "keptNumbers" "I") (by decide +kernel)
  have l18 := hts (.fieldLink RX1 18 "GroupDesk$Rows" "lengths" "[I") (by decide +kernel)
  have iX1 : ∀ w ∈ u_ws RX1 TX1 8, w ∈ wsX1_addTeller := by decide +kernel
  refine lv_aload_n hx hb dX1_addTeller_0 rfl (lv_at hl 0 rfl) ?_
  refine lv_iload_n hx hb dX1_addTeller_1 rfl (lv_at hl 1 rfl) ?_
  refine m_rV (As := [.int x]) (rest := []) ⟨hx, hb, hml, hown, hts⟩ (c_X1_isRow l dC dI cI r0 r1 r2 r3 r4 nu st le te ma ds dl ke x) (cwV 1 hts gX1_addTeller_X1_isRow rfl rfl rfl (by decide +kernel) ⟨Nat.le_of_ble_eq_true rfl, Nat.le_of_ble_eq_true rfl⟩) hP hK 1 0 rfl rfl rfl hl.1 rfl (Nat.le_of_ble_eq_true rfl) dX1_addTeller_2 ⟨Nat.zero_le _, Nat.zero_le _⟩ (fun r hw => ?_)
  subst hw
  refine lv_if_ne (tgt := 9) hx hb dX1_addTeller_5 (by decide) (fun c5 => ?_) (fun c5 => ?_)
  · have hj := b2i_n c5
    have hi := isR_of (by omega) hj
    refine lv_aload_n hx hb dX1_addTeller_9 rfl (lv_at hl 0 rfl) ?_
    refine va_get (D := (dC, dI)) (ci := 1) (v := .ref r4) (C := RX1) (T := TX1) (N := 8) hx hb hts iX1 hown hK hP 0 rfl rfl 3 (by decide) l21 (fun _ h9 => h9) rfl dX1_addTeller_10 ?_
    refine lv_iload_n hx hb dX1_addTeller_13 rfl (lv_at hl 1 rfl) ?_
    refine mv_iald hx hb hK hP 4 0 rfl rfl (k := rj x) (hi.2) (by omega) (by decide) (v := te (rj x)) rfl dX1_addTeller_14 ?_
    refine lv_if_ne (tgt := 33) hx hb dX1_addTeller_15 (by decide) (fun c15 => ?_) (fun c15 => ?_)
    · refine lv_aload_n hx hb dX1_addTeller_33 rfl (lv_at hl 0 rfl) ?_
      refine va_get (D := (dC, dI)) (ci := 1) (v := .ref r4) (C := RX1) (T := TX1) (N := 8) hx hb hts iX1 hown hK hP 0 rfl rfl 3 (by decide) l21 (fun _ h9 => h9) rfl dX1_addTeller_34 ?_
      refine lv_iload_n hx hb dX1_addTeller_37 rfl (lv_at hl 1 rfl) ?_
      refine lv_dup2_11 hx hb dX1_addTeller_38 rfl rfl ?_
      refine mv_iald hx hb hK hP 4 0 rfl rfl (k := rj x) (hi.2) (by omega) (by decide) (v := te (rj x)) rfl dX1_addTeller_39 ?_
      refine lv_iconst (v := 1) hx hb dX1_addTeller_40 (by decide) ?_
      refine lv_iadd hx hb dX1_addTeller_41 ?_
      refine mv_iast hx hb hK hP hD hS 4 0 rfl rfl (k := rj x) (hi.2) (by omega) (by decide) (f' := upd te (rj x) ((te (rj x)) + 1)) (rfl) dX1_addTeller_42 (fun H locs hP hD hS => ?_)
      have hP : va_P (dC, dI) vwCl (wR cI r0 r1 r2 r3 r4 nu st le (upd te (rj x) ((te (rj x)) + 1)) ma ds dl ke) _ := hP
      have hD : va_D A (wR cI r0 r1 r2 r3 r4 nu st le (upd te (rj x) ((te (rj x)) + 1)) ma ds dl ke) := hD
      exact hret ((upd te (rj x) ((te (rj x)) + 1), ke)) (by unfold addT; rw [hj]; simp only [if_true, if_neg c15]) hP hD hS dX1_addTeller_43
    · refine lv_aload_n hx hb dX1_addTeller_18 rfl (lv_at hl 0 rfl) ?_
      refine lv_dup hx hb dX1_addTeller_19 rfl ?_
      refine va_get (D := (dC, dI)) (ci := 1) (v := .int ke) (C := RX1) (T := TX1) (N := 8) hx hb hts iX1 hown hK hP 0 rfl rfl 7 (by decide) l34 (fun _ h9 => h9) rfl dX1_addTeller_20 ?_
      refine lv_aload_n hx hb dX1_addTeller_23 rfl (lv_at hl 0 rfl) ?_
      refine va_get (D := (dC, dI)) (ci := 1) (v := .ref r3) (C := RX1) (T := TX1) (N := 8) hx hb hts iX1 hown hK hP 0 rfl rfl 2 (by decide) l18 (fun _ h9 => h9) rfl dX1_addTeller_24 ?_
      refine lv_iload_n hx hb dX1_addTeller_27 rfl (lv_at hl 1 rfl) ?_
      refine mv_iald hx hb hK hP 3 0 rfl rfl (k := rj x) (hi.2) (by omega) (by decide) (v := nI (le (rj x))) rfl dX1_addTeller_28 ?_
      refine lv_iadd hx hb dX1_addTeller_29 ?_
      refine va_put (D := (dC, dI)) (ci := 1) (v := .int (ke + (nI (le (rj x))))) (ty := .int) (C := RX1) (T := TX1) (N := 8) hx hb hts iX1 tyX1 tyX1_ok nmX1 hown hK hP hD hS 0 rfl rfl 7 (by decide) l34 (fun _ h9 => h9) rfl (by decide +kernel) rfl rfl (Nat.le_of_ble_eq_true rfl) dX1_addTeller_30 (fun H locs hP hD hS => ?_)
      have hP : va_P (dC, dI) vwCl (wR cI r0 r1 r2 r3 r4 nu st le te ma ds dl (ke + (nI (le (rj x))))) _ := hP
      have hD : va_D A (wR cI r0 r1 r2 r3 r4 nu st le te ma ds dl (ke + (nI (le (rj x))))) := hD
      refine lv_aload_n hx hb dX1_addTeller_33 rfl (lv_at hl 0 rfl) ?_
      refine va_get (D := (dC, dI)) (ci := 1) (v := .ref r4) (C := RX1) (T := TX1) (N := 8) hx hb hts iX1 hown hK hP 0 rfl rfl 3 (by decide) l21 (fun _ h9 => h9) rfl dX1_addTeller_34 ?_
      refine lv_iload_n hx hb dX1_addTeller_37 rfl (lv_at hl 1 rfl) ?_
      refine lv_dup2_11 hx hb dX1_addTeller_38 rfl rfl ?_
      refine mv_iald hx hb hK hP 4 0 rfl rfl (k := rj x) (hi.2) (by omega) (by decide) (v := te (rj x)) rfl dX1_addTeller_39 ?_
      refine lv_iconst (v := 1) hx hb dX1_addTeller_40 (by decide) ?_
      refine lv_iadd hx hb dX1_addTeller_41 ?_
      refine mv_iast hx hb hK hP hD hS 4 0 rfl rfl (k := rj x) (hi.2) (by omega) (by decide) (f' := upd te (rj x) ((te (rj x)) + 1)) (rfl) dX1_addTeller_42 (fun H locs hP hD hS => ?_)
      have hP : va_P (dC, dI) vwCl (wR cI r0 r1 r2 r3 r4 nu st le (upd te (rj x) ((te (rj x)) + 1)) ma ds dl (ke + (nI (le (rj x))))) _ := hP
      have hD : va_D A (wR cI r0 r1 r2 r3 r4 nu st le (upd te (rj x) ((te (rj x)) + 1)) ma ds dl (ke + (nI (le (rj x))))) := hD
      exact hret ((upd te (rj x) ((te (rj x)) + 1), ke + (nI (le (rj x))))) (by unfold addT; rw [hj]; simp only [if_true, if_pos c15]) hP hD hS dX1_addTeller_43
  · have hj := b2i_0 c5
    exact hret ((te, ke)) (by unfold addT; rw [hj]; rfl) hP hD hS dX1_addTeller_8
set_option maxHeartbeats 4000000 in
set_option maxRecDepth 100000 in
theorem c_X1_dropTeller (l : Launch) (dC : Nat → ClassId) (dI : Nat → Nat → Nat) (cI : ClassId) (r0 r1 r2 r3 r4 : Nat) (nu : Nat → Int32) (st le : Nat → Nat) (te : Nat → Int32) (ma ds dl : Nat) (ke : Int32) (x : Int32) (hm : ma ≤ 513) : mWv l yX1_dropTeller wsX1_dropTeller ({ frames := 1, cells := 0, slots := 0, locals := 21 }) (dC, dI) cI [.ref r0, .int x] (wR cI r0 r1 r2 r3 r4 nu st le te ma ds dl ke) (fun u => u = dropT ma le x te ke) (fun u : (Nat → Int32) × Int32 => wR cI r0 r1 r2 r3 r4 nu st le u.1 ma ds dl u.2) := by
  refine m_ofWv (cc := cX1_dropTeller) (maxL := 2) (by decide) rfl (Nat.le_of_ble_eq_true rfl) ?_
  intro p e s m args below meth c ls A Q hx hb hts hown hml hP hK hD hA hS hl hret
  have hown : s.vm.findClass RX1 = some m.cls := hown
  have hl : lv_has ls 2 [(0, .ref r0), (1, .int x)] := hl
  have l21 := hts (.fieldLink RX1 21 "GroupDesk$Rows" "tellers" "[I") (by decide +kernel)
  have l34 := hts (.fieldLink RX1 34 "GroupDesk$Rows" "keptNumbers" "I") (by decide +kernel)
  have l18 := hts (.fieldLink RX1 18 "GroupDesk$Rows" "lengths" "[I") (by decide +kernel)
  have iX1 : ∀ w ∈ u_ws RX1 TX1 8, w ∈ wsX1_dropTeller := by decide +kernel
  refine lv_aload_n hx hb dX1_dropTeller_0 rfl (lv_at hl 0 rfl) ?_
  refine lv_iload_n hx hb dX1_dropTeller_1 rfl (lv_at hl 1 rfl) ?_
  refine m_rV (As := [.int x]) (rest := []) ⟨hx, hb, hml, hown, hts⟩ (c_X1_isRow l dC dI cI r0 r1 r2 r3 r4 nu st le te ma ds dl ke x) (cwV 1 hts gX1_dropTeller_X1_isRow rfl rfl rfl (by decide +kernel) ⟨Nat.le_of_ble_eq_true rfl, Nat.le_of_ble_eq_true rfl⟩) hP hK 1 0 rfl rfl rfl hl.1 rfl (Nat.le_of_ble_eq_true rfl) dX1_dropTeller_2 ⟨Nat.zero_le _, Nat.zero_le _⟩ (fun r hw => ?_)
  subst hw
  refine lv_if_eq (tgt := 17) hx hb dX1_dropTeller_5 (by decide) (fun c5 => ?_) (fun c5 => ?_)
  · have hj := b2i_0 c5
    exact hret ((te, ke)) (by unfold dropT; rw [hj]; rfl) hP hD hS dX1_dropTeller_17
  · have hj := b2i_n c5
    have hi := isR_of (by omega) hj
    refine lv_aload_n hx hb dX1_dropTeller_8 rfl (lv_at hl 0 rfl) ?_
    refine va_get (D := (dC, dI)) (ci := 1) (v := .ref r4) (C := RX1) (T := TX1) (N := 8) hx hb hts iX1 hown hK hP 0 rfl rfl 3 (by decide) l21 (fun _ h9 => h9) rfl dX1_dropTeller_9 ?_
    refine lv_iload_n hx hb dX1_dropTeller_12 rfl (lv_at hl 1 rfl) ?_
    refine mv_iald hx hb hK hP 4 0 rfl rfl (k := rj x) (hi.2) (by omega) (by decide) (v := te (rj x)) rfl dX1_dropTeller_13 ?_
    refine lv_if_ne (tgt := 18) hx hb dX1_dropTeller_14 (by decide) (fun c14 => ?_) (fun c14 => ?_)
    · refine lv_aload_n hx hb dX1_dropTeller_18 rfl (lv_at hl 0 rfl) ?_
      refine va_get (D := (dC, dI)) (ci := 1) (v := .ref r4) (C := RX1) (T := TX1) (N := 8) hx hb hts iX1 hown hK hP 0 rfl rfl 3 (by decide) l21 (fun _ h9 => h9) rfl dX1_dropTeller_19 ?_
      refine lv_iload_n hx hb dX1_dropTeller_22 rfl (lv_at hl 1 rfl) ?_
      refine lv_dup2_11 hx hb dX1_dropTeller_23 rfl rfl ?_
      refine mv_iald hx hb hK hP 4 0 rfl rfl (k := rj x) (hi.2) (by omega) (by decide) (v := te (rj x)) rfl dX1_dropTeller_24 ?_
      refine lv_iconst (v := 1) hx hb dX1_dropTeller_25 (by decide) ?_
      refine lv_isub hx hb dX1_dropTeller_26 ?_
      refine mv_iast hx hb hK hP hD hS 4 0 rfl rfl (k := rj x) (hi.2) (by omega) (by decide) (f' := upd te (rj x) ((te (rj x)) - 1)) (rfl) dX1_dropTeller_27 (fun H locs hP hD hS => ?_)
      have hP : va_P (dC, dI) vwCl (wR cI r0 r1 r2 r3 r4 nu st le (upd te (rj x) ((te (rj x)) - 1)) ma ds dl ke) _ := hP
      have hD : va_D A (wR cI r0 r1 r2 r3 r4 nu st le (upd te (rj x) ((te (rj x)) - 1)) ma ds dl ke) := hD
      refine lv_aload_n hx hb dX1_dropTeller_28 rfl (lv_at hl 0 rfl) ?_
      refine va_get (D := (dC, dI)) (ci := 1) (v := .ref r4) (C := RX1) (T := TX1) (N := 8) hx hb hts iX1 hown hK hP 0 rfl rfl 3 (by decide) l21 (fun _ h9 => h9) rfl dX1_dropTeller_29 ?_
      refine lv_iload_n hx hb dX1_dropTeller_32 rfl (lv_at hl 1 rfl) ?_
      refine mv_iald hx hb hK hP 4 0 rfl rfl (k := rj x) (hi.2) (by omega) (by decide) (v := (upd te (rj x) ((te (rj x)) - 1)) (rj x)) rfl dX1_dropTeller_33 ?_
      refine lv_if_ne (tgt := 52) hx hb dX1_dropTeller_34 (by decide) (fun c34 => ?_) (fun c34 => ?_)
      · have h34 : ¬ te (rj x) - 1 = 0 := by rw [pk_us] at c34; exact c34
        exact hret ((upd te (rj x) ((te (rj x)) - 1), ke)) (by unfold dropT; rw [hj]; simp only [if_true, if_neg c14]; rw [if_neg h34]) hP hD hS dX1_dropTeller_52
      · have h34 : te (rj x) - 1 = 0 := by rw [pk_us] at c34; exact c34
        refine lv_aload_n hx hb dX1_dropTeller_37 rfl (lv_at hl 0 rfl) ?_
        refine lv_dup hx hb dX1_dropTeller_38 rfl ?_
        refine va_get (D := (dC, dI)) (ci := 1) (v := .int ke) (C := RX1) (T := TX1) (N := 8) hx hb hts iX1 hown hK hP 0 rfl rfl 7 (by decide) l34 (fun _ h9 => h9) rfl dX1_dropTeller_39 ?_
        refine lv_aload_n hx hb dX1_dropTeller_42 rfl (lv_at hl 0 rfl) ?_
        refine va_get (D := (dC, dI)) (ci := 1) (v := .ref r3) (C := RX1) (T := TX1) (N := 8) hx hb hts iX1 hown hK hP 0 rfl rfl 2 (by decide) l18 (fun _ h9 => h9) rfl dX1_dropTeller_43 ?_
        refine lv_iload_n hx hb dX1_dropTeller_46 rfl (lv_at hl 1 rfl) ?_
        refine mv_iald hx hb hK hP 3 0 rfl rfl (k := rj x) (hi.2) (by omega) (by decide) (v := nI (le (rj x))) rfl dX1_dropTeller_47 ?_
        refine lv_isub hx hb dX1_dropTeller_48 ?_
        refine va_put (D := (dC, dI)) (ci := 1) (v := .int (ke - (nI (le (rj x))))) (ty := .int) (C := RX1) (T := TX1) (N := 8) hx hb hts iX1 tyX1 tyX1_ok nmX1 hown hK hP hD hS 0 rfl rfl 7 (by decide) l34 (fun _ h9 => h9) rfl (by decide +kernel) rfl rfl (Nat.le_of_ble_eq_true rfl) dX1_dropTeller_49 (fun H locs hP hD hS => ?_)
        have hP : va_P (dC, dI) vwCl (wR cI r0 r1 r2 r3 r4 nu st le (upd te (rj x) ((te (rj x)) - 1)) ma ds dl (ke - (nI (le (rj x))))) _ := hP
        have hD : va_D A (wR cI r0 r1 r2 r3 r4 nu st le (upd te (rj x) ((te (rj x)) - 1)) ma ds dl (ke - (nI (le (rj x))))) := hD
        exact hret ((upd te (rj x) ((te (rj x)) - 1), ke - (nI (le (rj x))))) (by unfold dropT; rw [hj]; simp only [if_true, if_neg c14]; rw [if_pos h34]) hP hD hS dX1_dropTeller_52
    · exact hret ((te, ke)) (by unfold dropT; rw [hj]; simp only [if_true, if_pos c14]) hP hD hS dX1_dropTeller_17
end
section
set_option maxHeartbeats 4000000 in
set_option maxRecDepth 100000 in
theorem c_X0_isPlace (l : Launch) (dC : Nat → ClassId) (dI : Nat → Nat → Nat) (cI : ClassId) (x : Int32)  : mRi l yX0_isPlace wsX0_isPlace ({ frames := 0, cells := 0, slots := 0, locals := 0 }) (dC, dI) cI [.int x] ([]) (fun r => r = b2i (isR 3367 x)) := by
  refine m_ofR (cc := cX0_isPlace) (maxL := 1) (by decide) rfl (Nat.le_of_ble_eq_true rfl) ?_
  intro p e s m args below meth c ls Q hx hb hts hown hml hP hK hl hret
  have hown : s.vm.findClass RX0 = some m.cls := hown
  have hl : lv_has ls 1 [(0, .int x)] := hl
  refine lv_iload_n hx hb dX0_isPlace_0 rfl (lv_at hl 0 rfl) ?_
  refine lv_if_lt (tgt := 15) hx hb dX0_isPlace_1 (by decide) (fun c1 => ?_) (fun c1 => ?_)
  · refine lv_iconst (v := 0) hx hb dX0_isPlace_15 (by decide) ?_
    exact hret 0 (rfl) (by rw [isR_f1 c1]; rfl) dX0_isPlace_16
  · refine lv_iload_n hx hb dX0_isPlace_4 rfl (lv_at hl 0 rfl) ?_
    refine lv_sipush (v := nI 3367) hx hb dX0_isPlace_5 (by decide) ?_
    refine lv_icmp_ge (tgt := 15) hx hb dX0_isPlace_8 (by decide) (fun c8 => ?_) (fun c8 => ?_)
    · refine lv_iconst (v := 0) hx hb dX0_isPlace_15 (by decide) ?_
      exact hret 0 (rfl) (by rw [isR_f2 c8]; rfl) dX0_isPlace_16
    · refine lv_iconst (v := 1) hx hb dX0_isPlace_11 (by decide) ?_
      refine lv_goto (tgt := 16) hx hb dX0_isPlace_12 (by decide) ?_
      exact hret 1 (rfl) (by rw [isR_t c1 c8]; rfl) dX0_isPlace_16
set_option maxHeartbeats 4000000 in
set_option maxRecDepth 100000 in
theorem c_X0_depth (l : Launch) (dC : Nat → ClassId) (dI : Nat → Nat → Nat) (cI : ClassId) (r0 p0 p1 p2 p3 p4 p5 p6 : Nat) (ki va : Nat → Int32) (sp sg : Nat → Nat) (sk sv : Nat → Int32) (sc og : Nat)   : mRi l yX0_depth wsX0_depth ({ frames := 0, cells := 0, slots := 0, locals := 0 }) (dC, dI) cI [.ref p0] (wP cI r0 p0 p1 p2 p3 p4 p5 p6 ki va sp sg sk sv sc og) (fun r => r = nI og) := by
  refine m_ofR (cc := cX0_depth) (maxL := 1) (by decide) rfl (Nat.le_of_ble_eq_true rfl) ?_
  intro p e s m args below meth c ls Q hx hb hts hown hml hP hK hl hret
  have hown : s.vm.findClass RX0 = some m.cls := hown
  have hl : lv_has ls 1 [(0, .ref p0)] := hl
  have l34 := hts (.fieldLink RX0 34 "GroupDesk$Places" "openGroups" "I") (by decide +kernel)
  have iX0 : ∀ w ∈ u_ws RX0 TX0 9, w ∈ wsX0_depth := by decide +kernel
  refine lv_aload_n hx hb dX0_depth_0 rfl (lv_at hl 0 rfl) ?_
  refine va_get (D := (dC, dI)) (ci := 0) (v := .int (nI og)) (C := RX0) (T := TX0) (N := 9) hx hb hts iX0 hown hK hP 0 rfl rfl 8 (by decide) l34 (fun _ h9 => h9) rfl dX0_depth_1 ?_
  exact hret (nI og) (rfl) (rfl) dX0_depth_4
set_option maxHeartbeats 4000000 in
set_option maxRecDepth 100000 in
theorem c_X0_kindAt (l : Launch) (dC : Nat → ClassId) (dI : Nat → Nat → Nat) (cI : ClassId) (r0 p0 p1 p2 p3 p4 p5 p6 : Nat) (ki va : Nat → Int32) (sp sg : Nat → Nat) (sk sv : Nat → Int32) (sc og : Nat) (x : Int32)  : mRi l yX0_kindAt wsX0_kindAt ({ frames := 1, cells := 0, slots := 0, locals := 20 }) (dC, dI) cI [.ref p0, .int x] (wP cI r0 p0 p1 p2 p3 p4 p5 p6 ki va sp sg sk sv sc og) (fun r => r = atP ki x) := by
  refine m_ofR (cc := cX0_kindAt) (maxL := 2) (by decide) rfl (Nat.le_of_ble_eq_true rfl) ?_
  intro p e s m args below meth c ls Q hx hb hts hown hml hP hK hl hret
  have hown : s.vm.findClass RX0 = some m.cls := hown
  have hl : lv_has ls 2 [(0, .ref p0), (1, .int x)] := hl
  have l9 := hts (.fieldLink RX0 9 "GroupDesk$Places" "kinds" "[I") (by decide +kernel)
  have iX0 : ∀ w ∈ u_ws RX0 TX0 9, w ∈ wsX0_kindAt := by decide +kernel
  refine lv_iload_n hx hb dX0_kindAt_0 rfl (lv_at hl 1 rfl) ?_
  refine m_rS (As := [.int x]) (rest := []) ⟨hx, hb, hml, hown, hts⟩ (c_X0_isPlace l dC dI cI x) (va_cwS 1 hts gX0_kindAt_X0_isPlace rfl rfl rfl (by decide +kernel) ⟨Nat.le_of_ble_eq_true rfl, Nat.le_of_ble_eq_true rfl⟩) ma_nil hK rfl hl.1 rfl (Nat.le_of_ble_eq_true rfl) dX0_kindAt_1 ⟨Nat.zero_le _, Nat.zero_le _⟩ (fun r hw => ?_)
  subst hw
  refine lv_if_eq (tgt := 16) hx hb dX0_kindAt_4 (by decide) (fun c4 => ?_) (fun c4 => ?_)
  · have hj := b2i_0 c4
    refine lv_iconst (v := 0) hx hb dX0_kindAt_16 (by decide) ?_
    exact hret 0 (rfl) (by unfold atP; rw [hj]; rfl) dX0_kindAt_17
  · have hj := b2i_n c4
    have hi := isR_of (by decide) hj
    refine lv_aload_n hx hb dX0_kindAt_7 rfl (lv_at hl 0 rfl) ?_
    refine va_get (D := (dC, dI)) (ci := 0) (v := .ref p1) (C := RX0) (T := TX0) (N := 9) hx hb hts iX0 hown hK hP 0 rfl rfl 1 (by decide) l9 (fun _ h9 => h9) rfl dX0_kindAt_8 ?_
    refine lv_iload_n hx hb dX0_kindAt_11 rfl (lv_at hl 1 rfl) ?_
    refine mv_iald hx hb hK hP 1 0 rfl rfl (k := rj x) (hi.2) (hi.1) (by decide) (v := ki (rj x)) rfl dX0_kindAt_12 ?_
    refine lv_goto (tgt := 17) hx hb dX0_kindAt_13 (by decide) ?_
    exact hret (ki (rj x)) (rfl) (by unfold atP; rw [hj]; rfl) dX0_kindAt_17
set_option maxHeartbeats 4000000 in
set_option maxRecDepth 100000 in
theorem c_X0_valueAt (l : Launch) (dC : Nat → ClassId) (dI : Nat → Nat → Nat) (cI : ClassId) (r0 p0 p1 p2 p3 p4 p5 p6 : Nat) (ki va : Nat → Int32) (sp sg : Nat → Nat) (sk sv : Nat → Int32) (sc og : Nat) (x : Int32)  : mRi l yX0_valueAt wsX0_valueAt ({ frames := 1, cells := 0, slots := 0, locals := 20 }) (dC, dI) cI [.ref p0, .int x] (wP cI r0 p0 p1 p2 p3 p4 p5 p6 ki va sp sg sk sv sc og) (fun r => r = atP va x) := by
  refine m_ofR (cc := cX0_valueAt) (maxL := 2) (by decide) rfl (Nat.le_of_ble_eq_true rfl) ?_
  intro p e s m args below meth c ls Q hx hb hts hown hml hP hK hl hret
  have hown : s.vm.findClass RX0 = some m.cls := hown
  have hl : lv_has ls 2 [(0, .ref p0), (1, .int x)] := hl
  have l15 := hts (.fieldLink RX0 15 "GroupDesk$Places" "values" "[I") (by decide +kernel)
  have iX0 : ∀ w ∈ u_ws RX0 TX0 9, w ∈ wsX0_valueAt := by decide +kernel
  refine lv_iload_n hx hb dX0_valueAt_0 rfl (lv_at hl 1 rfl) ?_
  refine m_rS (As := [.int x]) (rest := []) ⟨hx, hb, hml, hown, hts⟩ (c_X0_isPlace l dC dI cI x) (va_cwS 1 hts gX0_valueAt_X0_isPlace rfl rfl rfl (by decide +kernel) ⟨Nat.le_of_ble_eq_true rfl, Nat.le_of_ble_eq_true rfl⟩) ma_nil hK rfl hl.1 rfl (Nat.le_of_ble_eq_true rfl) dX0_valueAt_1 ⟨Nat.zero_le _, Nat.zero_le _⟩ (fun r hw => ?_)
  subst hw
  refine lv_if_eq (tgt := 16) hx hb dX0_valueAt_4 (by decide) (fun c4 => ?_) (fun c4 => ?_)
  · have hj := b2i_0 c4
    refine lv_iconst (v := 0) hx hb dX0_valueAt_16 (by decide) ?_
    exact hret 0 (rfl) (by unfold atP; rw [hj]; rfl) dX0_valueAt_17
  · have hj := b2i_n c4
    have hi := isR_of (by decide) hj
    refine lv_aload_n hx hb dX0_valueAt_7 rfl (lv_at hl 0 rfl) ?_
    refine va_get (D := (dC, dI)) (ci := 0) (v := .ref p2) (C := RX0) (T := TX0) (N := 9) hx hb hts iX0 hown hK hP 0 rfl rfl 2 (by decide) l15 (fun _ h9 => h9) rfl dX0_valueAt_8 ?_
    refine lv_iload_n hx hb dX0_valueAt_11 rfl (lv_at hl 1 rfl) ?_
    refine mv_iald hx hb hK hP 2 0 rfl rfl (k := rj x) (hi.2) (hi.1) (by decide) (v := va (rj x)) rfl dX0_valueAt_12 ?_
    refine lv_goto (tgt := 17) hx hb dX0_valueAt_13 (by decide) ?_
    exact hret (va (rj x)) (rfl) (by unfold atP; rw [hj]; rfl) dX0_valueAt_17
set_option maxHeartbeats 4000000 in
set_option maxRecDepth 100000 in
theorem c_X0_mustSave (l : Launch) (dC : Nat → ClassId) (dI : Nat → Nat → Nat) (cI : ClassId) (r0 p0 p1 p2 p3 p4 p5 p6 : Nat) (ki va : Nat → Int32) (sp sg : Nat → Nat) (sk sv : Nat → Int32) (sc og : Nat) (pl : Nat) (hpl : pl < 3367) (hsc : sc ≤ 512) (hog : og < 2 ^ 31) (hsg : ∀ j, j < sc → sg j < 2 ^ 31) (hsp : ∀ j, j < sc → sp j < 2 ^ 31) : mRi l yX0_mustSave wsX0_mustSave ({ frames := 0, cells := 0, slots := 0, locals := 0 }) (dC, dI) cI [.ref p0, .int (nI pl)] (wP cI r0 p0 p1 p2 p3 p4 p5 p6 ki va sp sg sk sv sc og) (fun r => r = b2i (mustB sp sg sc og pl)) := by
  refine m_ofR (cc := cX0_mustSave) (maxL := 3) (by decide) rfl (Nat.le_of_ble_eq_true rfl) ?_
  intro p e s m args below meth c ls Q hx hb hts hown hml hP hK hl hret
  have hown : s.vm.findClass RX0 = some m.cls := hown
  have hl : lv_has ls 3 [(0, .ref p0), (1, .int (nI pl))] := hl
  have l34 := hts (.fieldLink RX0 34 "GroupDesk$Places" "openGroups" "I") (by decide +kernel)
  have l30 := hts (.fieldLink RX0 30 "GroupDesk$Places" "savedCount" "I") (by decide +kernel)
  have l18 := hts (.fieldLink RX0 18 "GroupDesk$Places" "savedPlaces" "[I") (by decide +kernel)
  have l21 := hts (.fieldLink RX0 21 "GroupDesk$Places" "savedGroups" "[I") (by decide +kernel)
  have iX0 : ∀ w ∈ u_ws RX0 TX0 9, w ∈ wsX0_mustSave := by decide +kernel
  have loop : ∀ (n : Nat) (ls : Array Slot), n ≤ sc → srch sp sg og pl n = srch sp sg og pl sc → lv_has ls 3 [(0, .ref p0), (1, .int (nI pl)), (2, .int (nI n - 1))] → ¬ og = 0 → ¬ 512 ≤ sc → W p l e ({ frames := 0, cells := 0, slots := 0, locals := 0 }) s m args below meth c s.heap [] 0 0 Q (F0 m 28 ls []) := by
    intro n
    induction n with
    | zero =>
      intro ls hn hF hl ho h5
      refine lv_iload_n hx hb dX0_mustSave_28 rfl (lv_at hl 2 rfl) ?_
      refine lv_if_lt (tgt := 63) hx hb dX0_mustSave_29 (by decide) (fun c29 => ?_) (fun c29 => ?_)
      · refine lv_iconst (v := 1) hx hb dX0_mustSave_63 (by decide) ?_
        exact hret 1 (rfl) (by unfold mustB; rw [if_neg ho, if_neg h5, ← hF]; rfl) dX0_mustSave_64
      · exact absurd (by decide) c29
    | succ n ih =>
      intro ls hn hF hl ho h5
      rw [nI_pred] at hl
      have h3 := hsg n (by omega)
      have h4 := hsp n (by omega)
      refine lv_iload_n hx hb dX0_mustSave_28 rfl (lv_at hl 2 rfl) ?_
      refine lv_if_lt (tgt := 63) hx hb dX0_mustSave_29 (by decide) (fun c29 => ?_) (fun c29 => ?_)
      · exact absurd c29 (nI_pos (by omega))
      · refine lv_aload_n hx hb dX0_mustSave_32 rfl (lv_at hl 0 rfl) ?_
        refine va_get (D := (dC, dI)) (ci := 0) (v := .ref p4) (C := RX0) (T := TX0) (N := 9) hx hb hts iX0 hown hK hP 0 rfl rfl 4 (by decide) l21 (fun _ h9 => h9) rfl dX0_mustSave_33 ?_
        refine lv_iload_n hx hb dX0_mustSave_36 rfl (lv_at hl 2 rfl) ?_
        refine mv_iald hx hb hK hP 4 0 rfl rfl (k := n) (rfl) (by omega) (by decide) (v := nI (sg n)) rfl dX0_mustSave_37 ?_
        refine lv_aload_n hx hb dX0_mustSave_38 rfl (lv_at hl 0 rfl) ?_
        refine va_get (D := (dC, dI)) (ci := 0) (v := .int (nI og)) (C := RX0) (T := TX0) (N := 9) hx hb hts iX0 hown hK hP 0 rfl rfl 8 (by decide) l34 (fun _ h9 => h9) rfl dX0_mustSave_39 ?_
        refine lv_icmp_ne (tgt := 63) hx hb dX0_mustSave_42 (by decide) (fun c42 => ?_) (fun c42 => ?_)
        · refine lv_iconst (v := 1) hx hb dX0_mustSave_63 (by decide) ?_
          exact hret 1 (rfl) (by unfold mustB; rw [if_neg ho, if_neg h5, ← hF, srch, if_neg (fun h => c42 (by rw [h]))]; rfl) dX0_mustSave_64
        · refine lv_aload_n hx hb dX0_mustSave_45 rfl (lv_at hl 0 rfl) ?_
          refine va_get (D := (dC, dI)) (ci := 0) (v := .ref p3) (C := RX0) (T := TX0) (N := 9) hx hb hts iX0 hown hK hP 0 rfl rfl 3 (by decide) l18 (fun _ h9 => h9) rfl dX0_mustSave_46 ?_
          refine lv_iload_n hx hb dX0_mustSave_49 rfl (lv_at hl 2 rfl) ?_
          refine mv_iald hx hb hK hP 3 0 rfl rfl (k := n) (rfl) (by omega) (by decide) (v := nI (sp n)) rfl dX0_mustSave_50 ?_
          refine lv_iload_n hx hb dX0_mustSave_51 rfl (lv_at hl 1 rfl) ?_
          refine lv_icmp_ne (tgt := 57) hx hb dX0_mustSave_52 (by decide) (fun c52 => ?_) (fun c52 => ?_)
          · refine lv_iinc (v := nI n - 1) (lv' := [(2, .int (nI n - 1)), (0, .ref p0), (1, .int (nI pl))]) hx hb dX0_mustSave_57 hl (k := 2) rfl (show (nI n) + Int32.ofInt (-1) = nI n - 1 from (Int32.sub_eq_add_neg (nI n) 1).symm) (by decide) rfl (fun ls hl => ?_)
            refine lv_goto (tgt := 28) hx hb dX0_mustSave_60 (by decide) ?_
            exact ih ls (by omega) (by rw [← hF, srch, if_pos ((nI_eq h3 hog).mp c42), if_neg (fun h => c52 (by rw [h]))]) (lv_sub hl [1, 2, 0] rfl) ho h5
          · refine lv_iconst (v := 0) hx hb dX0_mustSave_55 (by decide) ?_
            exact hret 0 (rfl) (by unfold mustB; rw [if_neg ho, if_neg h5, ← hF, srch, if_pos ((nI_eq h3 hog).mp c42), if_pos ((nI_eq h4 (by omega)).mp c52)]; rfl) dX0_mustSave_56
  refine lv_aload_n hx hb dX0_mustSave_0 rfl (lv_at hl 0 rfl) ?_
  refine va_get (D := (dC, dI)) (ci := 0) (v := .int (nI og)) (C := RX0) (T := TX0) (N := 9) hx hb hts iX0 hown hK hP 0 rfl rfl 8 (by decide) l34 (fun _ h9 => h9) rfl dX0_mustSave_1 ?_
  refine lv_if_eq (tgt := 19) hx hb dX0_mustSave_4 (by decide) (fun c4 => ?_) (fun c4 => ?_)
  · refine lv_iconst (v := 0) hx hb dX0_mustSave_19 (by decide) ?_
    exact hret 0 (rfl) (by unfold mustB; rw [if_pos ((nI_eq hog (by decide)).mp (c4.trans nI_0.symm))]; rfl) dX0_mustSave_20
  · refine lv_aload_n hx hb dX0_mustSave_7 rfl (lv_at hl 0 rfl) ?_
    refine va_get (D := (dC, dI)) (ci := 0) (v := .int (nI sc)) (C := RX0) (T := TX0) (N := 9) hx hb hts iX0 hown hK hP 0 rfl rfl 7 (by decide) l30 (fun _ h9 => h9) rfl dX0_mustSave_8 ?_
    refine lv_aload_n hx hb dX0_mustSave_11 rfl (lv_at hl 0 rfl) ?_
    refine va_get (D := (dC, dI)) (ci := 0) (v := .ref p3) (C := RX0) (T := TX0) (N := 9) hx hb hts iX0 hown hK hP 0 rfl rfl 3 (by decide) l18 (fun _ h9 => h9) rfl dX0_mustSave_12 ?_
    refine va_alen hx hb hK hP 3 0 rfl rfl (v := nI 512) rfl dX0_mustSave_15 ?_
    refine lv_icmp_lt (tgt := 21) hx hb dX0_mustSave_16 (by decide) (fun c16 => ?_) (fun c16 => ?_)
    · refine lv_aload_n hx hb dX0_mustSave_21 rfl (lv_at hl 0 rfl) ?_
      refine va_get (D := (dC, dI)) (ci := 0) (v := .int (nI sc)) (C := RX0) (T := TX0) (N := 9) hx hb hts iX0 hown hK hP 0 rfl rfl 7 (by decide) l30 (fun _ h9 => h9) rfl dX0_mustSave_22 ?_
      refine lv_iconst (v := 1) hx hb dX0_mustSave_25 (by decide) ?_
      refine lv_isub hx hb dX0_mustSave_26 ?_
      refine lv_istore_n (lv' := [(2, .int ((nI sc) - 1)), (0, .ref p0), (1, .int (nI pl))]) hx hb dX0_mustSave_27 rfl hl (by decide) rfl (fun ls hl => ?_)
      exact loop sc ls (Nat.le_refl _) rfl (lv_sub hl [1, 2, 0] rfl) (fun h => c4 (by rw [h]; rfl)) (fun h => absurd ((nI_ltI (by omega) (by omega)).mp c16) (by omega))
    · refine lv_iconst (v := 0) hx hb dX0_mustSave_19 (by decide) ?_
      exact hret 0 (rfl) (by unfold mustB; rw [if_neg (fun h => c4 (by rw [h]; rfl)), if_pos (Nat.le_of_not_lt fun h => c16 ((nI_ltI (by omega) (by omega)).mpr h))]; rfl) dX0_mustSave_20
set_option maxHeartbeats 4000000 in
set_option maxRecDepth 100000 in
theorem c_X0_enter (l : Launch) (dC : Nat → ClassId) (dI : Nat → Nat → Nat) (cI : ClassId) (r0 p0 p1 p2 p3 p4 p5 p6 : Nat) (ki va : Nat → Int32) (sp sg : Nat → Nat) (sk sv : Nat → Int32) (sc og r1 r2 r3 r4 : Nat) (nu : Nat → Int32) (st le : Nat → Nat) (te : Nat → Int32) (ma ds dl : Nat) (ke : Int32)  (hog : og < 2 ^ 31) : mWi l yX0_enter wsX0_enter ({ frames := 0, cells := 0, slots := 0, locals := 0 }) (dC, dI) cI [.ref p0] (wP cI r0 p0 p1 p2 p3 p4 p5 p6 ki va sp sg sk sv sc og ++ wR cI r0 r1 r2 r3 r4 nu st le te ma ds dl ke) (fun r u => r = (if og < 200 then ((1 : Int32), og + 1) else (0, og)).1 ∧ u = (if og < 200 then ((1 : Int32), og + 1) else (0, og)).2) (fun u : Nat => wP cI r0 p0 p1 p2 p3 p4 p5 p6 ki va sp sg sk sv sc u ++ wR cI r0 r1 r2 r3 r4 nu st le te ma ds dl ke) := by
  refine m_ofWi (cc := cX0_enter) (maxL := 1) (by decide) rfl (Nat.le_of_ble_eq_true rfl) ?_
  intro p e s m args below meth c ls A Q hx hb hts hown hml hP hK hD hA hS hl hret
  have hown : s.vm.findClass RX0 = some m.cls := hown
  have hl : lv_has ls 1 [(0, .ref p0)] := hl
  have l34 := hts (.fieldLink RX0 34 "GroupDesk$Places" "openGroups" "I") (by decide +kernel)
  have iX0 : ∀ w ∈ u_ws RX0 TX0 9, w ∈ wsX0_enter := by decide +kernel
  refine lv_aload_n hx hb dX0_enter_0 rfl (lv_at hl 0 rfl) ?_
  refine va_get (D := (dC, dI)) (ci := 0) (v := .int (nI og)) (C := RX0) (T := TX0) (N := 9) hx hb hts iX0 hown hK hP 0 rfl rfl 8 (by decide) l34 (fun _ h9 => h9) rfl dX0_enter_1 ?_
  refine lv_sipush (v := nI 200) hx hb dX0_enter_4 (by decide) ?_
  refine lv_icmp_lt (tgt := 12) hx hb dX0_enter_7 (by decide) (fun c7 => ?_) (fun c7 => ?_)
  · refine lv_aload_n hx hb dX0_enter_12 rfl (lv_at hl 0 rfl) ?_
    refine lv_dup hx hb dX0_enter_13 rfl ?_
    refine va_get (D := (dC, dI)) (ci := 0) (v := .int (nI og)) (C := RX0) (T := TX0) (N := 9) hx hb hts iX0 hown hK hP 0 rfl rfl 8 (by decide) l34 (fun _ h9 => h9) rfl dX0_enter_14 ?_
    refine lv_iconst (v := 1) hx hb dX0_enter_17 (by decide) ?_
    refine lv_iadd hx hb dX0_enter_18 ?_
    refine mv_top (v := nI (og + 1)) (nI_1 og) ?_
    refine va_put (D := (dC, dI)) (ci := 0) (v := .int (nI (og + 1))) (ty := .int) (C := RX0) (T := TX0) (N := 9) hx hb hts iX0 tyX0 tyX0_ok nmX0 hown hK hP hD hS 0 rfl rfl 8 (by decide) l34 (fun _ h9 => h9) rfl (by decide +kernel) rfl rfl (Nat.le_of_ble_eq_true rfl) dX0_enter_19 (fun H locs hP hD hS => ?_)
    have hP : va_P (dC, dI) vwCl (wP cI r0 p0 p1 p2 p3 p4 p5 p6 ki va sp sg sk sv sc (og + 1) ++ wR cI r0 r1 r2 r3 r4 nu st le te ma ds dl ke) _ := hP
    have hD : va_D A (wP cI r0 p0 p1 p2 p3 p4 p5 p6 ki va sp sg sk sv sc (og + 1) ++ wR cI r0 r1 r2 r3 r4 nu st le te ma ds dl ke) := hD
    refine lv_iconst (v := 1) hx hb dX0_enter_22 (by decide) ?_
    exact hret 1 (og + 1) (rfl) (by rw [if_pos ((nI_ltI hog (by decide)).mp c7)]; exact ⟨rfl, rfl⟩) hP hD hS dX0_enter_23
  · refine lv_iconst (v := 0) hx hb dX0_enter_10 (by decide) ?_
    exact hret 0 og (rfl) (by rw [if_neg (fun h => c7 ((nI_ltI hog (by decide)).mpr h))]; exact ⟨rfl, rfl⟩) hP hD hS dX0_enter_11
set_option maxHeartbeats 4000000 in
set_option maxRecDepth 100000 in
theorem c_X0_tell (l : Launch) (dC : Nat → ClassId) (dI : Nat → Nat → Nat) (cI : ClassId) (r0 p0 p1 p2 p3 p4 p5 p6 : Nat) (ki va : Nat → Int32) (sp sg : Nat → Nat) (sk sv : Nat → Int32) (sc og r1 r2 r3 r4 : Nat) (nu : Nat → Int32) (st le : Nat → Nat) (te : Nat → Int32) (ma ds dl : Nat) (ke : Int32) (k x : Int32) (hm : ma ≤ 513) : mWv l yX0_tell wsX0_tell ({ frames := 2, cells := 0, slots := 0, locals := 42 }) (dC, dI) cI [.ref p0, .int k, .int x] (wP cI r0 p0 p1 p2 p3 p4 p5 p6 ki va sp sg sk sv sc og ++ wR cI r0 r1 r2 r3 r4 nu st le te ma ds dl ke) (fun u => u = tellT ma le k x te ke) (fun u : (Nat → Int32) × Int32 => wP cI r0 p0 p1 p2 p3 p4 p5 p6 ki va sp sg sk sv sc og ++ wR cI r0 r1 r2 r3 r4 nu st le u.1 ma ds dl u.2) := by
  refine m_ofWv (cc := cX0_tell) (maxL := 3) (by decide) rfl (Nat.le_of_ble_eq_true rfl) ?_
  intro p e s m args below meth c ls A Q hx hb hts hown hml hP hK hD hA hS hl hret
  have hown : s.vm.findClass RX0 = some m.cls := hown
  have hl : lv_has ls 3 [(0, .ref p0), (1, .int k), (2, .int x)] := hl
  have l37 := hts (.fieldLink RX0 37 "GroupDesk$Places" "rows" "LGroupDesk$Rows;") (by decide +kernel)
  have iX0 : ∀ w ∈ u_ws RX0 TX0 9, w ∈ wsX0_tell := by decide +kernel
  refine lv_iload_n hx hb dX0_tell_0 rfl (lv_at hl 1 rfl) ?_
  refine lv_iconst (v := 3) hx hb dX0_tell_1 (by decide) ?_
  refine lv_icmp_ne (tgt := 13) hx hb dX0_tell_2 (by decide) (fun c2 => ?_) (fun c2 => ?_)
  · exact hret ((te, ke)) (by unfold tellT; rw [if_neg c2]) hP hD hS dX0_tell_13
  · refine lv_aload_n hx hb dX0_tell_5 rfl (lv_at hl 0 rfl) ?_
    refine va_get (D := (dC, dI)) (ci := 0) (v := .ref r0) (C := RX0) (T := TX0) (N := 9) hx hb hts iX0 hown hK hP 0 rfl rfl 0 (by decide) l37 (fun _ h9 => h9) rfl dX0_tell_6 ?_
    refine lv_iload_n hx hb dX0_tell_9 rfl (lv_at hl 2 rfl) ?_
    have hP : va_P (dC, dI) vwCl ((wP cI r0 p0 p1 p2 p3 p4 p5 p6 ki va sp sg sk sv sc og) ++ (wR cI r0 r1 r2 r3 r4 nu st le te ma ds dl ke)) _ := hP
    have hD : va_D A ((wP cI r0 p0 p1 p2 p3 p4 p5 p6 ki va sp sg sk sv sc og) ++ (wR cI r0 r1 r2 r3 r4 nu st le te ma ds dl ke)) := hD
    refine m_wVv (As := [.int x]) (rest := []) ⟨hx, hb, hml, hown, hts⟩ (c_X1_addTeller l dC dI cI r0 r1 r2 r3 r4 nu st le te ma ds dl ke x hm) (cwV 1 hts gX0_tell_X1_addTeller rfl rfl rfl (by decide +kernel) ⟨Nat.le_of_ble_eq_true rfl, Nat.le_of_ble_eq_true rfl⟩) hP hK hD hS hA 1 0 rfl rfl rfl hl.1 rfl (Nat.le_of_ble_eq_true rfl) dX0_tell_10 ⟨Nat.zero_le _, Nat.zero_le _⟩ (fun u H locs hw hP hD hS => ?_)
    subst hw
    have hP : va_P (dC, dI) vwCl (wP cI r0 p0 p1 p2 p3 p4 p5 p6 ki va sp sg sk sv sc og ++ wR cI r0 r1 r2 r3 r4 nu st le ((addT ma le x te ke).1) ma ds dl ((addT ma le x te ke).2)) _ := hP
    have hD : va_D A (wP cI r0 p0 p1 p2 p3 p4 p5 p6 ki va sp sg sk sv sc og ++ wR cI r0 r1 r2 r3 r4 nu st le ((addT ma le x te ke).1) ma ds dl ((addT ma le x te ke).2)) := hD
    exact hret (((addT ma le x te ke).1, (addT ma le x te ke).2)) (by unfold tellT; rw [if_pos c2]) hP hD hS dX0_tell_13
set_option maxHeartbeats 4000000 in
set_option maxRecDepth 100000 in
theorem c_X0_untell (l : Launch) (dC : Nat → ClassId) (dI : Nat → Nat → Nat) (cI : ClassId) (r0 p0 p1 p2 p3 p4 p5 p6 : Nat) (ki va : Nat → Int32) (sp sg : Nat → Nat) (sk sv : Nat → Int32) (sc og r1 r2 r3 r4 : Nat) (nu : Nat → Int32) (st le : Nat → Nat) (te : Nat → Int32) (ma ds dl : Nat) (ke : Int32) (k x : Int32) (hm : ma ≤ 513) : mWv l yX0_untell wsX0_untell ({ frames := 2, cells := 0, slots := 0, locals := 42 }) (dC, dI) cI [.ref p0, .int k, .int x] (wP cI r0 p0 p1 p2 p3 p4 p5 p6 ki va sp sg sk sv sc og ++ wR cI r0 r1 r2 r3 r4 nu st le te ma ds dl ke) (fun u => u = untellT ma le k x te ke) (fun u : (Nat → Int32) × Int32 => wP cI r0 p0 p1 p2 p3 p4 p5 p6 ki va sp sg sk sv sc og ++ wR cI r0 r1 r2 r3 r4 nu st le u.1 ma ds dl u.2) := by
  refine m_ofWv (cc := cX0_untell) (maxL := 3) (by decide) rfl (Nat.le_of_ble_eq_true rfl) ?_
  intro p e s m args below meth c ls A Q hx hb hts hown hml hP hK hD hA hS hl hret
  have hown : s.vm.findClass RX0 = some m.cls := hown
  have hl : lv_has ls 3 [(0, .ref p0), (1, .int k), (2, .int x)] := hl
  have l37 := hts (.fieldLink RX0 37 "GroupDesk$Places" "rows" "LGroupDesk$Rows;") (by decide +kernel)
  have iX0 : ∀ w ∈ u_ws RX0 TX0 9, w ∈ wsX0_untell := by decide +kernel
  refine lv_iload_n hx hb dX0_untell_0 rfl (lv_at hl 1 rfl) ?_
  refine lv_iconst (v := 3) hx hb dX0_untell_1 (by decide) ?_
  refine lv_icmp_ne (tgt := 13) hx hb dX0_untell_2 (by decide) (fun c2 => ?_) (fun c2 => ?_)
  · exact hret ((te, ke)) (by unfold untellT; rw [if_neg c2]) hP hD hS dX0_untell_13
  · refine lv_aload_n hx hb dX0_untell_5 rfl (lv_at hl 0 rfl) ?_
    refine va_get (D := (dC, dI)) (ci := 0) (v := .ref r0) (C := RX0) (T := TX0) (N := 9) hx hb hts iX0 hown hK hP 0 rfl rfl 0 (by decide) l37 (fun _ h9 => h9) rfl dX0_untell_6 ?_
    refine lv_iload_n hx hb dX0_untell_9 rfl (lv_at hl 2 rfl) ?_
    have hP : va_P (dC, dI) vwCl ((wP cI r0 p0 p1 p2 p3 p4 p5 p6 ki va sp sg sk sv sc og) ++ (wR cI r0 r1 r2 r3 r4 nu st le te ma ds dl ke)) _ := hP
    have hD : va_D A ((wP cI r0 p0 p1 p2 p3 p4 p5 p6 ki va sp sg sk sv sc og) ++ (wR cI r0 r1 r2 r3 r4 nu st le te ma ds dl ke)) := hD
    refine m_wVv (As := [.int x]) (rest := []) ⟨hx, hb, hml, hown, hts⟩ (c_X1_dropTeller l dC dI cI r0 r1 r2 r3 r4 nu st le te ma ds dl ke x hm) (cwV 1 hts gX0_untell_X1_dropTeller rfl rfl rfl (by decide +kernel) ⟨Nat.le_of_ble_eq_true rfl, Nat.le_of_ble_eq_true rfl⟩) hP hK hD hS hA 1 0 rfl rfl rfl hl.1 rfl (Nat.le_of_ble_eq_true rfl) dX0_untell_10 ⟨Nat.zero_le _, Nat.zero_le _⟩ (fun u H locs hw hP hD hS => ?_)
    subst hw
    have hP : va_P (dC, dI) vwCl (wP cI r0 p0 p1 p2 p3 p4 p5 p6 ki va sp sg sk sv sc og ++ wR cI r0 r1 r2 r3 r4 nu st le ((dropT ma le x te ke).1) ma ds dl ((dropT ma le x te ke).2)) _ := hP
    have hD : va_D A (wP cI r0 p0 p1 p2 p3 p4 p5 p6 ki va sp sg sk sv sc og ++ wR cI r0 r1 r2 r3 r4 nu st le ((dropT ma le x te ke).1) ma ds dl ((dropT ma le x te ke).2)) := hD
    exact hret (((dropT ma le x te ke).1, (dropT ma le x te ke).2)) (by unfold untellT; rw [if_pos c2]) hP hD hS dX0_untell_13
set_option maxHeartbeats 4000000 in
set_option maxRecDepth 100000 in
theorem c_X0_save (l : Launch) (dC : Nat → ClassId) (dI : Nat → Nat → Nat) (cI : ClassId) (r0 p0 p1 p2 p3 p4 p5 p6 : Nat) (ki va : Nat → Int32) (sp sg : Nat → Nat) (sk sv : Nat → Int32) (sc og r1 r2 r3 r4 : Nat) (nu : Nat → Int32) (st le : Nat → Nat) (te : Nat → Int32) (ma ds dl : Nat) (ke : Int32) (pl : Nat) (hpl : pl < 3367) (hsc : sc < 512) : mWv l yX0_save wsX0_save ({ frames := 0, cells := 0, slots := 0, locals := 0 }) (dC, dI) cI [.ref p0, .int (nI pl)] (wP cI r0 p0 p1 p2 p3 p4 p5 p6 ki va sp sg sk sv sc og ++ wR cI r0 r1 r2 r3 r4 nu st le te ma ds dl ke) (fun u => u = (va_up sp sc pl, va_up sg sc og, upd sk sc (ki pl), upd sv sc (va pl), sc + 1)) (fun u : (Nat → Nat) × (Nat → Nat) × (Nat → Int32) × (Nat → Int32) × Nat => wP cI r0 p0 p1 p2 p3 p4 p5 p6 ki va u.1 u.2.1 u.2.2.1 u.2.2.2.1 u.2.2.2.2 og ++ wR cI r0 r1 r2 r3 r4 nu st le te ma ds dl ke) := by
  refine m_ofWv (cc := cX0_save) (maxL := 2) (by decide) rfl (Nat.le_of_ble_eq_true rfl) ?_
  intro p e s m args below meth c ls A Q hx hb hts hown hml hP hK hD hA hS hl hret
  have hown : s.vm.findClass RX0 = some m.cls := hown
  have hl : lv_has ls 2 [(0, .ref p0), (1, .int (nI pl))] := hl
  have l18 := hts (.fieldLink RX0 18 "GroupDesk$Places" "savedPlaces" "[I") (by decide +kernel)
  have l30 := hts (.fieldLink RX0 30 "GroupDesk$Places" "savedCount" "I") (by decide +kernel)
  have l21 := hts (.fieldLink RX0 21 "GroupDesk$Places" "savedGroups" "[I") (by decide +kernel)
  have l34 := hts (.fieldLink RX0 34 "GroupDesk$Places" "openGroups" "I") (by decide +kernel)
  have l24 := hts (.fieldLink RX0 24 "GroupDesk$Places" "savedKinds" "[I") (by decide +kernel)
  have l9 := hts (.fieldLink RX0 9 "GroupDesk$Places" "kinds" "[I") (by decide +kernel)
  have l27 := hts (.fieldLink RX0 27 "GroupDesk$Places" "savedValues" "[I") (by decide +kernel)
  have l15 := hts (.fieldLink RX0 15 "GroupDesk$Places" "values" "[I") (by decide +kernel)
  have iX0 : ∀ w ∈ u_ws RX0 TX0 9, w ∈ wsX0_save := by decide +kernel
  refine lv_aload_n hx hb dX0_save_0 rfl (lv_at hl 0 rfl) ?_
  refine va_get (D := (dC, dI)) (ci := 0) (v := .ref p3) (C := RX0) (T := TX0) (N := 9) hx hb hts iX0 hown hK hP 0 rfl rfl 3 (by decide) l18 (fun _ h9 => h9) rfl dX0_save_1 ?_
  refine lv_aload_n hx hb dX0_save_4 rfl (lv_at hl 0 rfl) ?_
  refine va_get (D := (dC, dI)) (ci := 0) (v := .int (nI sc)) (C := RX0) (T := TX0) (N := 9) hx hb hts iX0 hown hK hP 0 rfl rfl 7 (by decide) l30 (fun _ h9 => h9) rfl dX0_save_5 ?_
  refine lv_iload_n hx hb dX0_save_8 rfl (lv_at hl 1 rfl) ?_
  refine mv_iast hx hb hK hP hD hS 3 0 rfl rfl (k := sc) (rfl) (by omega) (by decide) (f' := nF (va_up sp sc pl)) (nF_up _ _ _) dX0_save_9 (fun H locs hP hD hS => ?_)
  have hP : va_P (dC, dI) vwCl (wP cI r0 p0 p1 p2 p3 p4 p5 p6 ki va (va_up sp sc pl) sg sk sv sc og ++ wR cI r0 r1 r2 r3 r4 nu st le te ma ds dl ke) _ := hP
  have hD : va_D A (wP cI r0 p0 p1 p2 p3 p4 p5 p6 ki va (va_up sp sc pl) sg sk sv sc og ++ wR cI r0 r1 r2 r3 r4 nu st le te ma ds dl ke) := hD
  refine lv_aload_n hx hb dX0_save_10 rfl (lv_at hl 0 rfl) ?_
  refine va_get (D := (dC, dI)) (ci := 0) (v := .ref p4) (C := RX0) (T := TX0) (N := 9) hx hb hts iX0 hown hK hP 0 rfl rfl 4 (by decide) l21 (fun _ h9 => h9) rfl dX0_save_11 ?_
  refine lv_aload_n hx hb dX0_save_14 rfl (lv_at hl 0 rfl) ?_
  refine va_get (D := (dC, dI)) (ci := 0) (v := .int (nI sc)) (C := RX0) (T := TX0) (N := 9) hx hb hts iX0 hown hK hP 0 rfl rfl 7 (by decide) l30 (fun _ h9 => h9) rfl dX0_save_15 ?_
  refine lv_aload_n hx hb dX0_save_18 rfl (lv_at hl 0 rfl) ?_
  refine va_get (D := (dC, dI)) (ci := 0) (v := .int (nI og)) (C := RX0) (T := TX0) (N := 9) hx hb hts iX0 hown hK hP 0 rfl rfl 8 (by decide) l34 (fun _ h9 => h9) rfl dX0_save_19 ?_
  refine mv_iast hx hb hK hP hD hS 4 0 rfl rfl (k := sc) (rfl) (by omega) (by decide) (f' := nF (va_up sg sc og)) (nF_up _ _ _) dX0_save_22 (fun H locs hP hD hS => ?_)
  have hP : va_P (dC, dI) vwCl (wP cI r0 p0 p1 p2 p3 p4 p5 p6 ki va (va_up sp sc pl) (va_up sg sc og) sk sv sc og ++ wR cI r0 r1 r2 r3 r4 nu st le te ma ds dl ke) _ := hP
  have hD : va_D A (wP cI r0 p0 p1 p2 p3 p4 p5 p6 ki va (va_up sp sc pl) (va_up sg sc og) sk sv sc og ++ wR cI r0 r1 r2 r3 r4 nu st le te ma ds dl ke) := hD
  refine lv_aload_n hx hb dX0_save_23 rfl (lv_at hl 0 rfl) ?_
  refine va_get (D := (dC, dI)) (ci := 0) (v := .ref p5) (C := RX0) (T := TX0) (N := 9) hx hb hts iX0 hown hK hP 0 rfl rfl 5 (by decide) l24 (fun _ h9 => h9) rfl dX0_save_24 ?_
  refine lv_aload_n hx hb dX0_save_27 rfl (lv_at hl 0 rfl) ?_
  refine va_get (D := (dC, dI)) (ci := 0) (v := .int (nI sc)) (C := RX0) (T := TX0) (N := 9) hx hb hts iX0 hown hK hP 0 rfl rfl 7 (by decide) l30 (fun _ h9 => h9) rfl dX0_save_28 ?_
  refine lv_aload_n hx hb dX0_save_31 rfl (lv_at hl 0 rfl) ?_
  refine va_get (D := (dC, dI)) (ci := 0) (v := .ref p1) (C := RX0) (T := TX0) (N := 9) hx hb hts iX0 hown hK hP 0 rfl rfl 1 (by decide) l9 (fun _ h9 => h9) rfl dX0_save_32 ?_
  refine lv_iload_n hx hb dX0_save_35 rfl (lv_at hl 1 rfl) ?_
  refine mv_iald hx hb hK hP 1 0 rfl rfl (k := pl) (rfl) (by omega) (by decide) (v := ki pl) rfl dX0_save_36 ?_
  refine mv_iast hx hb hK hP hD hS 5 0 rfl rfl (k := sc) (rfl) (by omega) (by decide) (f' := upd sk sc (ki pl)) (rfl) dX0_save_37 (fun H locs hP hD hS => ?_)
  have hP : va_P (dC, dI) vwCl (wP cI r0 p0 p1 p2 p3 p4 p5 p6 ki va (va_up sp sc pl) (va_up sg sc og) (upd sk sc (ki pl)) sv sc og ++ wR cI r0 r1 r2 r3 r4 nu st le te ma ds dl ke) _ := hP
  have hD : va_D A (wP cI r0 p0 p1 p2 p3 p4 p5 p6 ki va (va_up sp sc pl) (va_up sg sc og) (upd sk sc (ki pl)) sv sc og ++ wR cI r0 r1 r2 r3 r4 nu st le te ma ds dl ke) := hD
  refine lv_aload_n hx hb dX0_save_38 rfl (lv_at hl 0 rfl) ?_
  refine va_get (D := (dC, dI)) (ci := 0) (v := .ref p6) (C := RX0) (T := TX0) (N := 9) hx hb hts iX0 hown hK hP 0 rfl rfl 6 (by decide) l27 (fun _ h9 => h9) rfl dX0_save_39 ?_
  refine lv_aload_n hx hb dX0_save_42 rfl (lv_at hl 0 rfl) ?_
  refine va_get (D := (dC, dI)) (ci := 0) (v := .int (nI sc)) (C := RX0) (T := TX0) (N := 9) hx hb hts iX0 hown hK hP 0 rfl rfl 7 (by decide) l30 (fun _ h9 => h9) rfl dX0_save_43 ?_
  refine lv_aload_n hx hb dX0_save_46 rfl (lv_at hl 0 rfl) ?_
  refine va_get (D := (dC, dI)) (ci := 0) (v := .ref p2) (C := RX0) (T := TX0) (N := 9) hx hb hts iX0 hown hK hP 0 rfl rfl 2 (by decide) l15 (fun _ h9 => h9) rfl dX0_save_47 ?_
  refine lv_iload_n hx hb dX0_save_50 rfl (lv_at hl 1 rfl) ?_
  refine mv_iald hx hb hK hP 2 0 rfl rfl (k := pl) (rfl) (by omega) (by decide) (v := va pl) rfl dX0_save_51 ?_
  refine mv_iast hx hb hK hP hD hS 6 0 rfl rfl (k := sc) (rfl) (by omega) (by decide) (f' := upd sv sc (va pl)) (rfl) dX0_save_52 (fun H locs hP hD hS => ?_)
  have hP : va_P (dC, dI) vwCl (wP cI r0 p0 p1 p2 p3 p4 p5 p6 ki va (va_up sp sc pl) (va_up sg sc og) (upd sk sc (ki pl)) (upd sv sc (va pl)) sc og ++ wR cI r0 r1 r2 r3 r4 nu st le te ma ds dl ke) _ := hP
  have hD : va_D A (wP cI r0 p0 p1 p2 p3 p4 p5 p6 ki va (va_up sp sc pl) (va_up sg sc og) (upd sk sc (ki pl)) (upd sv sc (va pl)) sc og ++ wR cI r0 r1 r2 r3 r4 nu st le te ma ds dl ke) := hD
  refine lv_aload_n hx hb dX0_save_53 rfl (lv_at hl 0 rfl) ?_
  refine lv_dup hx hb dX0_save_54 rfl ?_
  refine va_get (D := (dC, dI)) (ci := 0) (v := .int (nI sc)) (C := RX0) (T := TX0) (N := 9) hx hb hts iX0 hown hK hP 0 rfl rfl 7 (by decide) l30 (fun _ h9 => h9) rfl dX0_save_55 ?_
  refine lv_iconst (v := 1) hx hb dX0_save_58 (by decide) ?_
  refine lv_iadd hx hb dX0_save_59 ?_
  refine mv_top (v := nI (sc + 1)) (nI_1 sc) ?_
  refine va_put (D := (dC, dI)) (ci := 0) (v := .int (nI (sc + 1))) (ty := .int) (C := RX0) (T := TX0) (N := 9) hx hb hts iX0 tyX0 tyX0_ok nmX0 hown hK hP hD hS 0 rfl rfl 7 (by decide) l30 (fun _ h9 => h9) rfl (by decide +kernel) rfl rfl (Nat.le_of_ble_eq_true rfl) dX0_save_60 (fun H locs hP hD hS => ?_)
  have hP : va_P (dC, dI) vwCl (wP cI r0 p0 p1 p2 p3 p4 p5 p6 ki va (va_up sp sc pl) (va_up sg sc og) (upd sk sc (ki pl)) (upd sv sc (va pl)) (sc + 1) og ++ wR cI r0 r1 r2 r3 r4 nu st le te ma ds dl ke) _ := hP
  have hD : va_D A (wP cI r0 p0 p1 p2 p3 p4 p5 p6 ki va (va_up sp sc pl) (va_up sg sc og) (upd sk sc (ki pl)) (upd sv sc (va pl)) (sc + 1) og ++ wR cI r0 r1 r2 r3 r4 nu st le te ma ds dl ke) := hD
  exact hret ((va_up sp sc pl, va_up sg sc og, upd sk sc (ki pl), upd sv sc (va pl), sc + 1)) (rfl) hP hD hS dX0_save_63
set_option maxHeartbeats 4000000 in
set_option maxRecDepth 100000 in
theorem c_X0_moveSaved (l : Launch) (dC : Nat → ClassId) (dI : Nat → Nat → Nat) (cI : ClassId) (r0 p0 p1 p2 p3 p4 p5 p6 : Nat) (ki va : Nat → Int32) (sp sg : Nat → Nat) (sk sv : Nat → Int32) (sc og r1 r2 r3 r4 : Nat) (nu : Nat → Int32) (st le : Nat → Nat) (te : Nat → Int32) (ma ds dl : Nat) (ke : Int32) (a b : Nat) (ha : a < 512) (hb9 : b < 512) : mWv l yX0_moveSaved wsX0_moveSaved ({ frames := 0, cells := 0, slots := 0, locals := 0 }) (dC, dI) cI [.ref p0, .int (nI a), .int (nI b)] (wP cI r0 p0 p1 p2 p3 p4 p5 p6 ki va sp sg sk sv sc og ++ wR cI r0 r1 r2 r3 r4 nu st le te ma ds dl ke) (fun u => u = (va_up sp b (sp a), va_up sg b (sg a), upd sk b (sk a), upd sv b (sv a))) (fun u : (Nat → Nat) × (Nat → Nat) × (Nat → Int32) × (Nat → Int32) => wP cI r0 p0 p1 p2 p3 p4 p5 p6 ki va u.1 u.2.1 u.2.2.1 u.2.2.2 sc og ++ wR cI r0 r1 r2 r3 r4 nu st le te ma ds dl ke) := by
  refine m_ofWv (cc := cX0_moveSaved) (maxL := 3) (by decide) rfl (Nat.le_of_ble_eq_true rfl) ?_
  intro p e s m args below meth c ls A Q hx hb hts hown hml hP hK hD hA hS hl hret
  have hown : s.vm.findClass RX0 = some m.cls := hown
  have hl : lv_has ls 3 [(0, .ref p0), (1, .int (nI a)), (2, .int (nI b))] := hl
  have l18 := hts (.fieldLink RX0 18 "GroupDesk$Places" "savedPlaces" "[I") (by decide +kernel)
  have l21 := hts (.fieldLink RX0 21 "GroupDesk$Places" "savedGroups" "[I") (by decide +kernel)
  have l24 := hts (.fieldLink RX0 24 "GroupDesk$Places" "savedKinds" "[I") (by decide +kernel)
  have l27 := hts (.fieldLink RX0 27 "GroupDesk$Places" "savedValues" "[I") (by decide +kernel)
  have iX0 : ∀ w ∈ u_ws RX0 TX0 9, w ∈ wsX0_moveSaved := by decide +kernel
  refine lv_aload_n hx hb dX0_moveSaved_0 rfl (lv_at hl 0 rfl) ?_
  refine va_get (D := (dC, dI)) (ci := 0) (v := .ref p3) (C := RX0) (T := TX0) (N := 9) hx hb hts iX0 hown hK hP 0 rfl rfl 3 (by decide) l18 (fun _ h9 => h9) rfl dX0_moveSaved_1 ?_
  refine lv_iload_n hx hb dX0_moveSaved_4 rfl (lv_at hl 2 rfl) ?_
  refine lv_aload_n hx hb dX0_moveSaved_5 rfl (lv_at hl 0 rfl) ?_
  refine va_get (D := (dC, dI)) (ci := 0) (v := .ref p3) (C := RX0) (T := TX0) (N := 9) hx hb hts iX0 hown hK hP 0 rfl rfl 3 (by decide) l18 (fun _ h9 => h9) rfl dX0_moveSaved_6 ?_
  refine lv_iload_n hx hb dX0_moveSaved_9 rfl (lv_at hl 1 rfl) ?_
  refine mv_iald hx hb hK hP 3 0 rfl rfl (k := a) (rfl) (by omega) (by decide) (v := nI (sp a)) rfl dX0_moveSaved_10 ?_
  refine mv_iast hx hb hK hP hD hS 3 0 rfl rfl (k := b) (rfl) (by omega) (by decide) (f' := nF (va_up sp b (sp a))) (nF_up _ _ _) dX0_moveSaved_11 (fun H locs hP hD hS => ?_)
  have hP : va_P (dC, dI) vwCl (wP cI r0 p0 p1 p2 p3 p4 p5 p6 ki va (va_up sp b (sp a)) sg sk sv sc og ++ wR cI r0 r1 r2 r3 r4 nu st le te ma ds dl ke) _ := hP
  have hD : va_D A (wP cI r0 p0 p1 p2 p3 p4 p5 p6 ki va (va_up sp b (sp a)) sg sk sv sc og ++ wR cI r0 r1 r2 r3 r4 nu st le te ma ds dl ke) := hD
  refine lv_aload_n hx hb dX0_moveSaved_12 rfl (lv_at hl 0 rfl) ?_
  refine va_get (D := (dC, dI)) (ci := 0) (v := .ref p4) (C := RX0) (T := TX0) (N := 9) hx hb hts iX0 hown hK hP 0 rfl rfl 4 (by decide) l21 (fun _ h9 => h9) rfl dX0_moveSaved_13 ?_
  refine lv_iload_n hx hb dX0_moveSaved_16 rfl (lv_at hl 2 rfl) ?_
  refine lv_aload_n hx hb dX0_moveSaved_17 rfl (lv_at hl 0 rfl) ?_
  refine va_get (D := (dC, dI)) (ci := 0) (v := .ref p4) (C := RX0) (T := TX0) (N := 9) hx hb hts iX0 hown hK hP 0 rfl rfl 4 (by decide) l21 (fun _ h9 => h9) rfl dX0_moveSaved_18 ?_
  refine lv_iload_n hx hb dX0_moveSaved_21 rfl (lv_at hl 1 rfl) ?_
  refine mv_iald hx hb hK hP 4 0 rfl rfl (k := a) (rfl) (by omega) (by decide) (v := nI (sg a)) rfl dX0_moveSaved_22 ?_
  refine mv_iast hx hb hK hP hD hS 4 0 rfl rfl (k := b) (rfl) (by omega) (by decide) (f' := nF (va_up sg b (sg a))) (nF_up _ _ _) dX0_moveSaved_23 (fun H locs hP hD hS => ?_)
  have hP : va_P (dC, dI) vwCl (wP cI r0 p0 p1 p2 p3 p4 p5 p6 ki va (va_up sp b (sp a)) (va_up sg b (sg a)) sk sv sc og ++ wR cI r0 r1 r2 r3 r4 nu st le te ma ds dl ke) _ := hP
  have hD : va_D A (wP cI r0 p0 p1 p2 p3 p4 p5 p6 ki va (va_up sp b (sp a)) (va_up sg b (sg a)) sk sv sc og ++ wR cI r0 r1 r2 r3 r4 nu st le te ma ds dl ke) := hD
  refine lv_aload_n hx hb dX0_moveSaved_24 rfl (lv_at hl 0 rfl) ?_
  refine va_get (D := (dC, dI)) (ci := 0) (v := .ref p5) (C := RX0) (T := TX0) (N := 9) hx hb hts iX0 hown hK hP 0 rfl rfl 5 (by decide) l24 (fun _ h9 => h9) rfl dX0_moveSaved_25 ?_
  refine lv_iload_n hx hb dX0_moveSaved_28 rfl (lv_at hl 2 rfl) ?_
  refine lv_aload_n hx hb dX0_moveSaved_29 rfl (lv_at hl 0 rfl) ?_
  refine va_get (D := (dC, dI)) (ci := 0) (v := .ref p5) (C := RX0) (T := TX0) (N := 9) hx hb hts iX0 hown hK hP 0 rfl rfl 5 (by decide) l24 (fun _ h9 => h9) rfl dX0_moveSaved_30 ?_
  refine lv_iload_n hx hb dX0_moveSaved_33 rfl (lv_at hl 1 rfl) ?_
  refine mv_iald hx hb hK hP 5 0 rfl rfl (k := a) (rfl) (by omega) (by decide) (v := sk a) rfl dX0_moveSaved_34 ?_
  refine mv_iast hx hb hK hP hD hS 5 0 rfl rfl (k := b) (rfl) (by omega) (by decide) (f' := upd sk b (sk a)) (rfl) dX0_moveSaved_35 (fun H locs hP hD hS => ?_)
  have hP : va_P (dC, dI) vwCl (wP cI r0 p0 p1 p2 p3 p4 p5 p6 ki va (va_up sp b (sp a)) (va_up sg b (sg a)) (upd sk b (sk a)) sv sc og ++ wR cI r0 r1 r2 r3 r4 nu st le te ma ds dl ke) _ := hP
  have hD : va_D A (wP cI r0 p0 p1 p2 p3 p4 p5 p6 ki va (va_up sp b (sp a)) (va_up sg b (sg a)) (upd sk b (sk a)) sv sc og ++ wR cI r0 r1 r2 r3 r4 nu st le te ma ds dl ke) := hD
  refine lv_aload_n hx hb dX0_moveSaved_36 rfl (lv_at hl 0 rfl) ?_
  refine va_get (D := (dC, dI)) (ci := 0) (v := .ref p6) (C := RX0) (T := TX0) (N := 9) hx hb hts iX0 hown hK hP 0 rfl rfl 6 (by decide) l27 (fun _ h9 => h9) rfl dX0_moveSaved_37 ?_
  refine lv_iload_n hx hb dX0_moveSaved_40 rfl (lv_at hl 2 rfl) ?_
  refine lv_aload_n hx hb dX0_moveSaved_41 rfl (lv_at hl 0 rfl) ?_
  refine va_get (D := (dC, dI)) (ci := 0) (v := .ref p6) (C := RX0) (T := TX0) (N := 9) hx hb hts iX0 hown hK hP 0 rfl rfl 6 (by decide) l27 (fun _ h9 => h9) rfl dX0_moveSaved_42 ?_
  refine lv_iload_n hx hb dX0_moveSaved_45 rfl (lv_at hl 1 rfl) ?_
  refine mv_iald hx hb hK hP 6 0 rfl rfl (k := a) (rfl) (by omega) (by decide) (v := sv a) rfl dX0_moveSaved_46 ?_
  refine mv_iast hx hb hK hP hD hS 6 0 rfl rfl (k := b) (rfl) (by omega) (by decide) (f' := upd sv b (sv a)) (rfl) dX0_moveSaved_47 (fun H locs hP hD hS => ?_)
  have hP : va_P (dC, dI) vwCl (wP cI r0 p0 p1 p2 p3 p4 p5 p6 ki va (va_up sp b (sp a)) (va_up sg b (sg a)) (upd sk b (sk a)) (upd sv b (sv a)) sc og ++ wR cI r0 r1 r2 r3 r4 nu st le te ma ds dl ke) _ := hP
  have hD : va_D A (wP cI r0 p0 p1 p2 p3 p4 p5 p6 ki va (va_up sp b (sp a)) (va_up sg b (sg a)) (upd sk b (sk a)) (upd sv b (sv a)) sc og ++ wR cI r0 r1 r2 r3 r4 nu st le te ma ds dl ke) := hD
  exact hret ((va_up sp b (sp a), va_up sg b (sg a), upd sk b (sk a), upd sv b (sv a))) (rfl) hP hD hS dX0_moveSaved_48
set_option maxHeartbeats 4000000 in
set_option maxRecDepth 100000 in
theorem c_X0_putBack (l : Launch) (dC : Nat → ClassId) (dI : Nat → Nat → Nat) (cI : ClassId) (r0 p0 p1 p2 p3 p4 p5 p6 : Nat) (ki va : Nat → Int32) (sp sg : Nat → Nat) (sk sv : Nat → Int32) (sc og r1 r2 r3 r4 : Nat) (nu : Nat → Int32) (st le : Nat → Nat) (te : Nat → Int32) (ma ds dl : Nat) (ke : Int32) (i : Nat) (hm : ma ≤ 513) (hi : i < 512) (hsp : sp i < 3367) : mWv l yX0_putBack wsX0_putBack ({ frames := 3, cells := 0, slots := 0, locals := 64 }) (dC, dI) cI [.ref p0, .int (nI i)] (wP cI r0 p0 p1 p2 p3 p4 p5 p6 ki va sp sg sk sv sc og ++ wR cI r0 r1 r2 r3 r4 nu st le te ma ds dl ke) (fun u => u = (upd ki (sp i) (sk i), upd va (sp i) (sv i), (untellT ma le (ki (sp i)) (va (sp i)) te ke).1, (untellT ma le (ki (sp i)) (va (sp i)) te ke).2)) (fun u : (Nat → Int32) × (Nat → Int32) × (Nat → Int32) × Int32 => wP cI r0 p0 p1 p2 p3 p4 p5 p6 u.1 u.2.1 sp sg sk sv sc og ++ wR cI r0 r1 r2 r3 r4 nu st le u.2.2.1 ma ds dl u.2.2.2) := by
  refine m_ofWv (cc := cX0_putBack) (maxL := 3) (by decide) rfl (Nat.le_of_ble_eq_true rfl) ?_
  intro p e s m args below meth c ls A Q hx hb hts hown hml hP hK hD hA hS hl hret
  have hown : s.vm.findClass RX0 = some m.cls := hown
  have hl : lv_has ls 3 [(0, .ref p0), (1, .int (nI i))] := hl
  have l18 := hts (.fieldLink RX0 18 "GroupDesk$Places" "savedPlaces" "[I") (by decide +kernel)
  have l9 := hts (.fieldLink RX0 9 "GroupDesk$Places" "kinds" "[I") (by decide +kernel)
  have l15 := hts (.fieldLink RX0 15 "GroupDesk$Places" "values" "[I") (by decide +kernel)
  have l24 := hts (.fieldLink RX0 24 "GroupDesk$Places" "savedKinds" "[I") (by decide +kernel)
  have l27 := hts (.fieldLink RX0 27 "GroupDesk$Places" "savedValues" "[I") (by decide +kernel)
  have iX0 : ∀ w ∈ u_ws RX0 TX0 9, w ∈ wsX0_putBack := by decide +kernel
  refine lv_aload_n hx hb dX0_putBack_0 rfl (lv_at hl 0 rfl) ?_
  refine va_get (D := (dC, dI)) (ci := 0) (v := .ref p3) (C := RX0) (T := TX0) (N := 9) hx hb hts iX0 hown hK hP 0 rfl rfl 3 (by decide) l18 (fun _ h9 => h9) rfl dX0_putBack_1 ?_
  refine lv_iload_n hx hb dX0_putBack_4 rfl (lv_at hl 1 rfl) ?_
  refine mv_iald hx hb hK hP 3 0 rfl rfl (k := i) (rfl) (by omega) (by decide) (v := nI (sp i)) rfl dX0_putBack_5 ?_
  refine lv_istore_n (lv' := [(2, .int (nI (sp i))), (0, .ref p0), (1, .int (nI i))]) hx hb dX0_putBack_6 rfl hl (by decide) rfl (fun ls hl => ?_)
  refine lv_aload_n hx hb dX0_putBack_7 rfl (lv_at hl 1 rfl) ?_
  refine lv_aload_n hx hb dX0_putBack_8 rfl (lv_at hl 1 rfl) ?_
  refine va_get (D := (dC, dI)) (ci := 0) (v := .ref p1) (C := RX0) (T := TX0) (N := 9) hx hb hts iX0 hown hK hP 0 rfl rfl 1 (by decide) l9 (fun _ h9 => h9) rfl dX0_putBack_9 ?_
  refine lv_iload_n hx hb dX0_putBack_12 rfl (lv_at hl 0 rfl) ?_
  refine mv_iald hx hb hK hP 1 0 rfl rfl (k := sp i) (rfl) (by omega) (by decide) (v := ki (sp i)) rfl dX0_putBack_13 ?_
  refine lv_aload_n hx hb dX0_putBack_14 rfl (lv_at hl 1 rfl) ?_
  refine va_get (D := (dC, dI)) (ci := 0) (v := .ref p2) (C := RX0) (T := TX0) (N := 9) hx hb hts iX0 hown hK hP 0 rfl rfl 2 (by decide) l15 (fun _ h9 => h9) rfl dX0_putBack_15 ?_
  refine lv_iload_n hx hb dX0_putBack_18 rfl (lv_at hl 0 rfl) ?_
  refine mv_iald hx hb hK hP 2 0 rfl rfl (k := sp i) (rfl) (by omega) (by decide) (v := va (sp i)) rfl dX0_putBack_19 ?_
  have hP : va_P (dC, dI) vwCl ([] ++ (wP cI r0 p0 p1 p2 p3 p4 p5 p6 ki va sp sg sk sv sc og ++ wR cI r0 r1 r2 r3 r4 nu st le te ma ds dl ke)) _ := hP
  have hD : va_D A ([] ++ (wP cI r0 p0 p1 p2 p3 p4 p5 p6 ki va sp sg sk sv sc og ++ wR cI r0 r1 r2 r3 r4 nu st le te ma ds dl ke)) := hD
  refine m_wVv (As := [.int (ki (sp i)), .int (va (sp i))]) (rest := []) ⟨hx, hb, hml, hown, hts⟩ (c_X0_untell l dC dI cI r0 p0 p1 p2 p3 p4 p5 p6 ki va sp sg sk sv sc og r1 r2 r3 r4 nu st le te ma ds dl ke (ki (sp i)) (va (sp i)) hm) (cwV 2 hts gX0_putBack_X0_untell rfl rfl rfl (by decide +kernel) ⟨Nat.le_of_ble_eq_true rfl, Nat.le_of_ble_eq_true rfl⟩) hP hK hD hS hA 0 0 rfl rfl rfl hl.1 rfl (Nat.le_of_ble_eq_true rfl) dX0_putBack_20 ⟨Nat.zero_le _, Nat.zero_le _⟩ (fun u H locs hw hP hD hS => ?_)
  subst hw
  have hP : va_P (dC, dI) vwCl (wP cI r0 p0 p1 p2 p3 p4 p5 p6 ki va sp sg sk sv sc og ++ wR cI r0 r1 r2 r3 r4 nu st le ((untellT ma le (ki (sp i)) (va (sp i)) te ke).1) ma ds dl ((untellT ma le (ki (sp i)) (va (sp i)) te ke).2)) _ := hP
  have hD : va_D A (wP cI r0 p0 p1 p2 p3 p4 p5 p6 ki va sp sg sk sv sc og ++ wR cI r0 r1 r2 r3 r4 nu st le ((untellT ma le (ki (sp i)) (va (sp i)) te ke).1) ma ds dl ((untellT ma le (ki (sp i)) (va (sp i)) te ke).2)) := hD
  refine lv_aload_n hx hb dX0_putBack_23 rfl (lv_at hl 1 rfl) ?_
  refine va_get (D := (dC, dI)) (ci := 0) (v := .ref p1) (C := RX0) (T := TX0) (N := 9) hx hb hts iX0 hown hK hP 0 rfl rfl 1 (by decide) l9 (fun _ h9 => h9) rfl dX0_putBack_24 ?_
  refine lv_iload_n hx hb dX0_putBack_27 rfl (lv_at hl 0 rfl) ?_
  refine lv_aload_n hx hb dX0_putBack_28 rfl (lv_at hl 1 rfl) ?_
  refine va_get (D := (dC, dI)) (ci := 0) (v := .ref p5) (C := RX0) (T := TX0) (N := 9) hx hb hts iX0 hown hK hP 0 rfl rfl 5 (by decide) l24 (fun _ h9 => h9) rfl dX0_putBack_29 ?_
  refine lv_iload_n hx hb dX0_putBack_32 rfl (lv_at hl 2 rfl) ?_
  refine mv_iald hx hb hK hP 5 0 rfl rfl (k := i) (rfl) (by omega) (by decide) (v := sk i) rfl dX0_putBack_33 ?_
  refine mv_iast hx hb hK hP hD hS 1 0 rfl rfl (k := sp i) (rfl) (by omega) (by decide) (f' := upd ki (sp i) (sk i)) (rfl) dX0_putBack_34 (fun H locs hP hD hS => ?_)
  have hP : va_P (dC, dI) vwCl (wP cI r0 p0 p1 p2 p3 p4 p5 p6 (upd ki (sp i) (sk i)) va sp sg sk sv sc og ++ wR cI r0 r1 r2 r3 r4 nu st le ((untellT ma le (ki (sp i)) (va (sp i)) te ke).1) ma ds dl ((untellT ma le (ki (sp i)) (va (sp i)) te ke).2)) _ := hP
  have hD : va_D A (wP cI r0 p0 p1 p2 p3 p4 p5 p6 (upd ki (sp i) (sk i)) va sp sg sk sv sc og ++ wR cI r0 r1 r2 r3 r4 nu st le ((untellT ma le (ki (sp i)) (va (sp i)) te ke).1) ma ds dl ((untellT ma le (ki (sp i)) (va (sp i)) te ke).2)) := hD
  refine lv_aload_n hx hb dX0_putBack_35 rfl (lv_at hl 1 rfl) ?_
  refine va_get (D := (dC, dI)) (ci := 0) (v := .ref p2) (C := RX0) (T := TX0) (N := 9) hx hb hts iX0 hown hK hP 0 rfl rfl 2 (by decide) l15 (fun _ h9 => h9) rfl dX0_putBack_36 ?_
  refine lv_iload_n hx hb dX0_putBack_39 rfl (lv_at hl 0 rfl) ?_
  refine lv_aload_n hx hb dX0_putBack_40 rfl (lv_at hl 1 rfl) ?_
  refine va_get (D := (dC, dI)) (ci := 0) (v := .ref p6) (C := RX0) (T := TX0) (N := 9) hx hb hts iX0 hown hK hP 0 rfl rfl 6 (by decide) l27 (fun _ h9 => h9) rfl dX0_putBack_41 ?_
  refine lv_iload_n hx hb dX0_putBack_44 rfl (lv_at hl 2 rfl) ?_
  refine mv_iald hx hb hK hP 6 0 rfl rfl (k := i) (rfl) (by omega) (by decide) (v := sv i) rfl dX0_putBack_45 ?_
  refine mv_iast hx hb hK hP hD hS 2 0 rfl rfl (k := sp i) (rfl) (by omega) (by decide) (f' := upd va (sp i) (sv i)) (rfl) dX0_putBack_46 (fun H locs hP hD hS => ?_)
  have hP : va_P (dC, dI) vwCl (wP cI r0 p0 p1 p2 p3 p4 p5 p6 (upd ki (sp i) (sk i)) (upd va (sp i) (sv i)) sp sg sk sv sc og ++ wR cI r0 r1 r2 r3 r4 nu st le ((untellT ma le (ki (sp i)) (va (sp i)) te ke).1) ma ds dl ((untellT ma le (ki (sp i)) (va (sp i)) te ke).2)) _ := hP
  have hD : va_D A (wP cI r0 p0 p1 p2 p3 p4 p5 p6 (upd ki (sp i) (sk i)) (upd va (sp i) (sv i)) sp sg sk sv sc og ++ wR cI r0 r1 r2 r3 r4 nu st le ((untellT ma le (ki (sp i)) (va (sp i)) te ke).1) ma ds dl ((untellT ma le (ki (sp i)) (va (sp i)) te ke).2)) := hD
  exact hret ((upd ki (sp i) (sk i), upd va (sp i) (sv i), (untellT ma le (ki (sp i)) (va (sp i)) te ke).1, (untellT ma le (ki (sp i)) (va (sp i)) te ke).2)) (rfl) hP hD hS dX0_putBack_47
end
section
/-- leave() -/
def leaveG (ma : Nat) (le : Nat → Nat) (sp sg : Nat → Nat) (sk sv : Nat → Int32) (og sc : Nat) (ki va te : Nat → Int32) (ke : Int32) : Int32 × Nat × Nat × (Nat → Int32) × (Nat → Int32) × (Nat → Int32) × Int32 :=
  if og = 0 then (0, sc, og, ki, va, te, ke) else (1, (leaveF ma le sp sg sk sv og sc ki va te ke).1, og - 1, (leaveF ma le sp sg sk sv og sc ki va te ke).2.1, (leaveF ma le sp sg sk sv og sc ki va te ke).2.2.1, (leaveF ma le sp sg sk sv og sc ki va te ke).2.2.2.1, (leaveF ma le sp sg sk sv og sc ki va te ke).2.2.2.2)
/-- assign(pl, k, v, g) -/
def assignF (ma : Nat) (le : Nat → Nat) (pl : Nat) (k v g : Int32) (ki va : Nat → Int32) (sp sg : Nat → Nat) (sk sv : Nat → Int32) (sc og : Nat) (te : Nat → Int32) (ke : Int32) : (Nat → Int32) × (Nat → Int32) × (Nat → Nat) × (Nat → Nat) × (Nat → Int32) × (Nat → Int32) × Nat × (Nat → Int32) × Int32 :=
  if g = 0 then
    (if mustB sp sg sc og pl then (upd ki pl k, upd va pl v, va_up sp sc pl, va_up sg sc og, upd sk sc (ki pl), upd sv sc (va pl), sc + 1, (tellT ma le k v te ke).1, (tellT ma le k v te ke).2)
     else (upd ki pl k, upd va pl v, sp, sg, sk, sv, sc, (untellT ma le (ki pl) (va pl) (tellT ma le k v te ke).1 (tellT ma le k v te ke).2).1, (untellT ma le (ki pl) (va pl) (tellT ma le k v te ke).1 (tellT ma le k v te ke).2).2))
  else (upd ki pl k, upd va pl v, (forgF ma le pl sc 0 0 sp sg sk sv (tellT ma le k v te ke).1 (tellT ma le k v te ke).2).2.1, (forgF ma le pl sc 0 0 sp sg sk sv (tellT ma le k v te ke).1 (tellT ma le k v te ke).2).2.2.1, (forgF ma le pl sc 0 0 sp sg sk sv (tellT ma le k v te ke).1 (tellT ma le k v te ke).2).2.2.2.1, (forgF ma le pl sc 0 0 sp sg sk sv (tellT ma le k v te ke).1 (tellT ma le k v te ke).2).2.2.2.2.1, (forgF ma le pl sc 0 0 sp sg sk sv (tellT ma le k v te ke).1 (tellT ma le k v te ke).2).1,
    (untellT ma le (ki pl) (va pl) (forgF ma le pl sc 0 0 sp sg sk sv (tellT ma le k v te ke).1 (tellT ma le k v te ke).2).2.2.2.2.2.1 (forgF ma le pl sc 0 0 sp sg sk sv (tellT ma le k v te ke).1 (tellT ma le k v te ke).2).2.2.2.2.2.2).1, (untellT ma le (ki pl) (va pl) (forgF ma le pl sc 0 0 sp sg sk sv (tellT ma le k v te ke).1 (tellT ma le k v te ke).2).2.2.2.2.2.1 (forgF ma le pl sc 0 0 sp sg sk sv (tellT ma le k v te ke).1 (tellT ma le k v te ke).2).2.2.2.2.2.2).2)
set_option maxHeartbeats 4000000 in
set_option maxRecDepth 100000 in
theorem c_X0_leave (l : Launch) (dC : Nat → ClassId) (dI : Nat → Nat → Nat) (cI : ClassId) (r0 p0 p1 p2 p3 p4 p5 p6 : Nat) (ki va : Nat → Int32) (sp sg : Nat → Nat) (sk sv : Nat → Int32) (sc og r1 r2 r3 r4 : Nat) (nu : Nat → Int32) (st le : Nat → Nat) (te : Nat → Int32) (ma ds dl : Nat) (ke : Int32)  (hm : ma ≤ 513) (hsc : sc ≤ 512) (hog : og < 2 ^ 31) (hsg : ∀ j, j < sc → sg j < 2 ^ 31) (hsp : ∀ j, j < sc → sp j < 3367) : mWi l yX0_leave wsX0_leave ({ frames := 4, cells := 0, slots := 0, locals := 86 }) (dC, dI) cI [.ref p0] (wP cI r0 p0 p1 p2 p3 p4 p5 p6 ki va sp sg sk sv sc og ++ wR cI r0 r1 r2 r3 r4 nu st le te ma ds dl ke) (fun r u => r = (leaveG ma le sp sg sk sv og sc ki va te ke).1 ∧ u = (leaveG ma le sp sg sk sv og sc ki va te ke).2) (fun u : Nat × Nat × (Nat → Int32) × (Nat → Int32) × (Nat → Int32) × Int32 => wP cI r0 p0 p1 p2 p3 p4 p5 p6 u.2.2.1 u.2.2.2.1 sp sg sk sv u.1 u.2.1 ++ wR cI r0 r1 r2 r3 r4 nu st le u.2.2.2.2.1 ma ds dl u.2.2.2.2.2) := by
  refine m_ofWi (cc := cX0_leave) (maxL := 2) (by decide) rfl (Nat.le_of_ble_eq_true rfl) ?_
  intro p e s m args below meth c ls A Q hx hb hts hown hml hP hK hD hA hS hl hret
  have hown : s.vm.findClass RX0 = some m.cls := hown
  have hl : lv_has ls 2 [(0, .ref p0)] := hl
  have l34 := hts (.fieldLink RX0 34 "GroupDesk$Places" "openGroups" "I") (by decide +kernel)
  have l30 := hts (.fieldLink RX0 30 "GroupDesk$Places" "savedCount" "I") (by decide +kernel)
  have l21 := hts (.fieldLink RX0 21 "GroupDesk$Places" "savedGroups" "[I") (by decide +kernel)
  have iX0 : ∀ w ∈ u_ws RX0 TX0 9, w ∈ wsX0_leave := by decide +kernel
  have loop : ∀ (n : Nat) (ki' va' te' : Nat → Int32) (ke' : Int32) (H : Heap) (locs : List Loc) (ls : Array Slot), n ≤ sc → leaveF ma le sp sg sk sv og n ki' va' te' ke' = leaveF ma le sp sg sk sv og sc ki va te ke → va_P (dC, dI) vwCl (wP cI r0 p0 p1 p2 p3 p4 p5 p6 ki' va' sp sg sk sv sc og ++ wR cI r0 r1 r2 r3 r4 nu st le te' ma ds dl ke') H → va_D A (wP cI r0 p0 p1 p2 p3 p4 p5 p6 ki' va' sp sg sk sv sc og ++ wR cI r0 r1 r2 r3 r4 nu st le te' ma ds dl ke') → va_S A s.heap H locs → lv_has ls 2 [(0, .ref p0), (1, .int (nI n))] → ¬ og = 0 → W p l e ({ frames := 4, cells := 0, slots := 0, locals := 86 }) s m args below meth c H locs 0 0 Q (F0 m 14 ls []) := by
    intro n
    induction n with
    | zero =>
      intro ki' va' te' ke' H locs ls hn hF hP hD hS hl h0
      refine lv_iload_n hx hb dX0_leave_14 rfl (lv_at hl 1 rfl) ?_
      refine lv_if_le (tgt := 46) hx hb dX0_leave_15 (by decide) (fun c15 => ?_) (fun c15 => ?_)
      · refine lv_aload_n hx hb dX0_leave_46 rfl (lv_at hl 0 rfl) ?_
        refine lv_iload_n hx hb dX0_leave_47 rfl (lv_at hl 1 rfl) ?_
        refine va_put (D := (dC, dI)) (ci := 0) (v := .int (nI 0)) (ty := .int) (C := RX0) (T := TX0) (N := 9) hx hb hts iX0 tyX0 tyX0_ok nmX0 hown hK hP hD hS 0 rfl rfl 7 (by decide) l30 (fun _ h9 => h9) rfl (by decide +kernel) rfl rfl (Nat.le_of_ble_eq_true rfl) dX0_leave_48 (fun H locs hP hD hS => ?_)
        have hP : va_P (dC, dI) vwCl (wP cI r0 p0 p1 p2 p3 p4 p5 p6 ki' va' sp sg sk sv 0 og ++ wR cI r0 r1 r2 r3 r4 nu st le te' ma ds dl ke') _ := hP
        have hD : va_D A (wP cI r0 p0 p1 p2 p3 p4 p5 p6 ki' va' sp sg sk sv 0 og ++ wR cI r0 r1 r2 r3 r4 nu st le te' ma ds dl ke') := hD
        refine lv_aload_n hx hb dX0_leave_51 rfl (lv_at hl 0 rfl) ?_
        refine lv_dup hx hb dX0_leave_52 rfl ?_
        refine va_get (D := (dC, dI)) (ci := 0) (v := .int (nI og)) (C := RX0) (T := TX0) (N := 9) hx hb hts iX0 hown hK hP 0 rfl rfl 8 (by decide) l34 (fun _ h9 => h9) rfl dX0_leave_53 ?_
        refine lv_iconst (v := 1) hx hb dX0_leave_56 (by decide) ?_
        refine lv_isub hx hb dX0_leave_57 ?_
        refine mv_top (v := nI (og - 1)) (by rw [show (1 : Int32) = nI 1 from rfl]; exact pk_sub (by omega)) ?_
        refine va_put (D := (dC, dI)) (ci := 0) (v := .int (nI (og - 1))) (ty := .int) (C := RX0) (T := TX0) (N := 9) hx hb hts iX0 tyX0 tyX0_ok nmX0 hown hK hP hD hS 0 rfl rfl 8 (by decide) l34 (fun _ h9 => h9) rfl (by decide +kernel) rfl rfl (Nat.le_of_ble_eq_true rfl) dX0_leave_58 (fun H locs hP hD hS => ?_)
        have hP : va_P (dC, dI) vwCl (wP cI r0 p0 p1 p2 p3 p4 p5 p6 ki' va' sp sg sk sv 0 (og - 1) ++ wR cI r0 r1 r2 r3 r4 nu st le te' ma ds dl ke') _ := hP
        have hD : va_D A (wP cI r0 p0 p1 p2 p3 p4 p5 p6 ki' va' sp sg sk sv 0 (og - 1) ++ wR cI r0 r1 r2 r3 r4 nu st le te' ma ds dl ke') := hD
        refine lv_iconst (v := 1) hx hb dX0_leave_61 (by decide) ?_
        exact hret 1 ((0, og - 1, ki', va', te', ke')) (rfl) (by unfold leaveG; rw [if_neg h0, ← hF]; exact ⟨rfl, rfl⟩) hP hD hS dX0_leave_62
      · exact absurd (by decide) c15
    | succ n ih =>
      intro ki' va' te' ke' H locs ls hn hF hP hD hS hl h0
      have h3 := hsg n (by omega)
      have h4 := hsp n (by omega)
      refine lv_iload_n hx hb dX0_leave_14 rfl (lv_at hl 1 rfl) ?_
      refine lv_if_le (tgt := 46) hx hb dX0_leave_15 (by decide) (fun c15 => ?_) (fun c15 => ?_)
      · exact absurd c15 (nI_nle (by omega) (by omega))
      · refine lv_aload_n hx hb dX0_leave_18 rfl (lv_at hl 0 rfl) ?_
        refine va_get (D := (dC, dI)) (ci := 0) (v := .ref p4) (C := RX0) (T := TX0) (N := 9) hx hb hts iX0 hown hK hP 0 rfl rfl 4 (by decide) l21 (fun _ h9 => h9) rfl dX0_leave_19 ?_
        refine lv_iload_n hx hb dX0_leave_22 rfl (lv_at hl 1 rfl) ?_
        refine lv_iconst (v := 1) hx hb dX0_leave_23 (by decide) ?_
        refine lv_isub hx hb dX0_leave_24 ?_
        refine mv_top (v := nI n) (nI_pred n) ?_
        refine mv_iald hx hb hK hP 4 0 rfl rfl (k := n) (rfl) (by omega) (by decide) (v := nI (sg n)) rfl dX0_leave_25 ?_
        refine lv_aload_n hx hb dX0_leave_26 rfl (lv_at hl 0 rfl) ?_
        refine va_get (D := (dC, dI)) (ci := 0) (v := .int (nI og)) (C := RX0) (T := TX0) (N := 9) hx hb hts iX0 hown hK hP 0 rfl rfl 8 (by decide) l34 (fun _ h9 => h9) rfl dX0_leave_27 ?_
        refine lv_icmp_ne (tgt := 46) hx hb dX0_leave_30 (by decide) (fun c30 => ?_) (fun c30 => ?_)
        · refine lv_aload_n hx hb dX0_leave_46 rfl (lv_at hl 0 rfl) ?_
          refine lv_iload_n hx hb dX0_leave_47 rfl (lv_at hl 1 rfl) ?_
          refine va_put (D := (dC, dI)) (ci := 0) (v := .int (nI (n + 1))) (ty := .int) (C := RX0) (T := TX0) (N := 9) hx hb hts iX0 tyX0 tyX0_ok nmX0 hown hK hP hD hS 0 rfl rfl 7 (by decide) l30 (fun _ h9 => h9) rfl (by decide +kernel) rfl rfl (Nat.le_of_ble_eq_true rfl) dX0_leave_48 (fun H locs hP hD hS => ?_)
          have hP : va_P (dC, dI) vwCl (wP cI r0 p0 p1 p2 p3 p4 p5 p6 ki' va' sp sg sk sv (n + 1) og ++ wR cI r0 r1 r2 r3 r4 nu st le te' ma ds dl ke') _ := hP
          have hD : va_D A (wP cI r0 p0 p1 p2 p3 p4 p5 p6 ki' va' sp sg sk sv (n + 1) og ++ wR cI r0 r1 r2 r3 r4 nu st le te' ma ds dl ke') := hD
          refine lv_aload_n hx hb dX0_leave_51 rfl (lv_at hl 0 rfl) ?_
          refine lv_dup hx hb dX0_leave_52 rfl ?_
          refine va_get (D := (dC, dI)) (ci := 0) (v := .int (nI og)) (C := RX0) (T := TX0) (N := 9) hx hb hts iX0 hown hK hP 0 rfl rfl 8 (by decide) l34 (fun _ h9 => h9) rfl dX0_leave_53 ?_
          refine lv_iconst (v := 1) hx hb dX0_leave_56 (by decide) ?_
          refine lv_isub hx hb dX0_leave_57 ?_
          refine mv_top (v := nI (og - 1)) (by rw [show (1 : Int32) = nI 1 from rfl]; exact pk_sub (by omega)) ?_
          refine va_put (D := (dC, dI)) (ci := 0) (v := .int (nI (og - 1))) (ty := .int) (C := RX0) (T := TX0) (N := 9) hx hb hts iX0 tyX0 tyX0_ok nmX0 hown hK hP hD hS 0 rfl rfl 8 (by decide) l34 (fun _ h9 => h9) rfl (by decide +kernel) rfl rfl (Nat.le_of_ble_eq_true rfl) dX0_leave_58 (fun H locs hP hD hS => ?_)
          have hP : va_P (dC, dI) vwCl (wP cI r0 p0 p1 p2 p3 p4 p5 p6 ki' va' sp sg sk sv (n + 1) (og - 1) ++ wR cI r0 r1 r2 r3 r4 nu st le te' ma ds dl ke') _ := hP
          have hD : va_D A (wP cI r0 p0 p1 p2 p3 p4 p5 p6 ki' va' sp sg sk sv (n + 1) (og - 1) ++ wR cI r0 r1 r2 r3 r4 nu st le te' ma ds dl ke') := hD
          refine lv_iconst (v := 1) hx hb dX0_leave_61 (by decide) ?_
          exact hret 1 ((n + 1, og - 1, ki', va', te', ke')) (rfl) (by unfold leaveG; rw [if_neg h0, ← hF, leaveF, if_neg (fun h => c30 (by rw [h]))]; exact ⟨rfl, rfl⟩) hP hD hS dX0_leave_62
        · refine lv_aload_n hx hb dX0_leave_33 rfl (lv_at hl 0 rfl) ?_
          refine lv_iload_n hx hb dX0_leave_34 rfl (lv_at hl 1 rfl) ?_
          refine lv_iconst (v := 1) hx hb dX0_leave_35 (by decide) ?_
          refine lv_isub hx hb dX0_leave_36 ?_
          refine mv_top (v := nI n) (nI_pred n) ?_
          have hP : va_P (dC, dI) vwCl ([] ++ (wP cI r0 p0 p1 p2 p3 p4 p5 p6 ki' va' sp sg sk sv sc og ++ wR cI r0 r1 r2 r3 r4 nu st le te' ma ds dl ke')) _ := hP
          have hD : va_D A ([] ++ (wP cI r0 p0 p1 p2 p3 p4 p5 p6 ki' va' sp sg sk sv sc og ++ wR cI r0 r1 r2 r3 r4 nu st le te' ma ds dl ke')) := hD
          refine m_wVv (As := [.int (nI n)]) (rest := []) ⟨hx, hb, hml, hown, hts⟩ (c_X0_putBack l dC dI cI r0 p0 p1 p2 p3 p4 p5 p6 ki' va' sp sg sk sv sc og r1 r2 r3 r4 nu st le te' ma ds dl ke' n hm (by omega) h4) (cwV 1 hts gX0_leave_X0_putBack rfl rfl rfl (by decide +kernel) ⟨Nat.le_of_ble_eq_true rfl, Nat.le_of_ble_eq_true rfl⟩) hP hK hD hS hA 0 0 rfl rfl rfl hl.1 rfl (Nat.le_of_ble_eq_true rfl) dX0_leave_37 ⟨Nat.zero_le _, Nat.zero_le _⟩ (fun u H locs hw hP hD hS => ?_)
          subst hw
          have hP : va_P (dC, dI) vwCl (wP cI r0 p0 p1 p2 p3 p4 p5 p6 (upd ki' (sp n) (sk n)) (upd va' (sp n) (sv n)) sp sg sk sv sc og ++ wR cI r0 r1 r2 r3 r4 nu st le ((untellT ma le (ki' (sp n)) (va' (sp n)) te' ke').1) ma ds dl ((untellT ma le (ki' (sp n)) (va' (sp n)) te' ke').2)) _ := hP
          have hD : va_D A (wP cI r0 p0 p1 p2 p3 p4 p5 p6 (upd ki' (sp n) (sk n)) (upd va' (sp n) (sv n)) sp sg sk sv sc og ++ wR cI r0 r1 r2 r3 r4 nu st le ((untellT ma le (ki' (sp n)) (va' (sp n)) te' ke').1) ma ds dl ((untellT ma le (ki' (sp n)) (va' (sp n)) te' ke').2)) := hD
          refine lv_iinc (v := nI n) (lv' := [(1, .int (nI n)), (0, .ref p0)]) hx hb dX0_leave_40 hl (k := 1) rfl (show (nI (n + 1)) + Int32.ofInt (-1) = nI n from pk_m1 n) (by decide) rfl (fun ls hl => ?_)
          refine lv_goto (tgt := 14) hx hb dX0_leave_43 (by decide) ?_
          exact ih _ _ _ _ _ _ _ (by omega) (by rw [← hF, leaveF, if_pos ((nI_eq (by omega) hog).mp c30)]) hP hD hS (lv_sub hl [1, 0] rfl) h0
  refine lv_aload_n hx hb dX0_leave_0 rfl (lv_at hl 0 rfl) ?_
  refine va_get (D := (dC, dI)) (ci := 0) (v := .int (nI og)) (C := RX0) (T := TX0) (N := 9) hx hb hts iX0 hown hK hP 0 rfl rfl 8 (by decide) l34 (fun _ h9 => h9) rfl dX0_leave_1 ?_
  refine lv_if_ne (tgt := 9) hx hb dX0_leave_4 (by decide) (fun c4 => ?_) (fun c4 => ?_)
  · refine lv_aload_n hx hb dX0_leave_9 rfl (lv_at hl 0 rfl) ?_
    refine va_get (D := (dC, dI)) (ci := 0) (v := .int (nI sc)) (C := RX0) (T := TX0) (N := 9) hx hb hts iX0 hown hK hP 0 rfl rfl 7 (by decide) l30 (fun _ h9 => h9) rfl dX0_leave_10 ?_
    refine lv_istore_n (lv' := [(1, .int (nI sc)), (0, .ref p0)]) hx hb dX0_leave_13 rfl hl (by decide) rfl (fun ls hl => ?_)
    exact loop sc ki va te ke _ _ _ (Nat.le_refl _) rfl hP hD hS (lv_sub hl [1, 0] rfl) (fun h => c4 (by rw [h]; rfl))
  · refine lv_iconst (v := 0) hx hb dX0_leave_7 (by decide) ?_
    exact hret 0 ((sc, og, ki, va, te, ke)) (rfl) (by unfold leaveG; rw [if_pos ((nI_eq hog (by decide)).mp (c4.trans nI_0.symm))]; exact ⟨rfl, rfl⟩) hP hD hS dX0_leave_8
set_option maxHeartbeats 4000000 in
set_option maxRecDepth 100000 in
theorem c_X0_forgetSaved (l : Launch) (dC : Nat → ClassId) (dI : Nat → Nat → Nat) (cI : ClassId) (r0 p0 p1 p2 p3 p4 p5 p6 : Nat) (ki va : Nat → Int32) (sp sg : Nat → Nat) (sk sv : Nat → Int32) (sc og r1 r2 r3 r4 : Nat) (nu : Nat → Int32) (st le : Nat → Nat) (te : Nat → Int32) (ma ds dl : Nat) (ke : Int32) (pl : Nat) (hm : ma ≤ 513) (hpl : pl < 3367) (hsc : sc ≤ 512) (hsp : ∀ j, j < sc → sp j < 2 ^ 31) : mWv l yX0_forgetSaved wsX0_forgetSaved ({ frames := 3, cells := 0, slots := 0, locals := 64 }) (dC, dI) cI [.ref p0, .int (nI pl)] (wP cI r0 p0 p1 p2 p3 p4 p5 p6 ki va sp sg sk sv sc og ++ wR cI r0 r1 r2 r3 r4 nu st le te ma ds dl ke) (fun u => forgF ma le pl sc 0 0 sp sg sk sv te ke = u) (fun u : Nat × (Nat → Nat) × (Nat → Nat) × (Nat → Int32) × (Nat → Int32) × (Nat → Int32) × Int32 => wP cI r0 p0 p1 p2 p3 p4 p5 p6 ki va u.2.1 u.2.2.1 u.2.2.2.1 u.2.2.2.2.1 u.1 og ++ wR cI r0 r1 r2 r3 r4 nu st le u.2.2.2.2.2.1 ma ds dl u.2.2.2.2.2.2) := by
  refine m_ofWv (cc := cX0_forgetSaved) (maxL := 4) (by decide) rfl (Nat.le_of_ble_eq_true rfl) ?_
  intro p e s m args below meth c ls A Q hx hb hts hown hml hP hK hD hA hS hl hret
  have hown : s.vm.findClass RX0 = some m.cls := hown
  have hl : lv_has ls 4 [(0, .ref p0), (1, .int (nI pl))] := hl
  have l30 := hts (.fieldLink RX0 30 "GroupDesk$Places" "savedCount" "I") (by decide +kernel)
  have l18 := hts (.fieldLink RX0 18 "GroupDesk$Places" "savedPlaces" "[I") (by decide +kernel)
  have l24 := hts (.fieldLink RX0 24 "GroupDesk$Places" "savedKinds" "[I") (by decide +kernel)
  have l27 := hts (.fieldLink RX0 27 "GroupDesk$Places" "savedValues" "[I") (by decide +kernel)
  have iX0 : ∀ w ∈ u_ws RX0 TX0 9, w ∈ wsX0_forgetSaved := by decide +kernel
  have loop : ∀ (n i left : Nat) (sp' sg' : Nat → Nat) (sk' sv' te' : Nat → Int32) (ke' : Int32) (H : Heap) (locs : List Loc) (ls : Array Slot), n + i = sc → left ≤ i → (∀ j, i ≤ j → j < sc → sp' j < 2 ^ 31) → forgF ma le pl n i left sp' sg' sk' sv' te' ke' = forgF ma le pl sc 0 0 sp sg sk sv te ke → va_P (dC, dI) vwCl (wP cI r0 p0 p1 p2 p3 p4 p5 p6 ki va sp' sg' sk' sv' sc og ++ wR cI r0 r1 r2 r3 r4 nu st le te' ma ds dl ke') H → va_D A (wP cI r0 p0 p1 p2 p3 p4 p5 p6 ki va sp' sg' sk' sv' sc og ++ wR cI r0 r1 r2 r3 r4 nu st le te' ma ds dl ke') → va_S A s.heap H locs → lv_has ls 4 [(0, .ref p0), (1, .int (nI pl)), (2, .int (nI left)), (3, .int (nI i))] → W p l e ({ frames := 3, cells := 0, slots := 0, locals := 64 }) s m args below meth c H locs 0 0 Q (F0 m 4 ls []) := by
    intro n
    induction n with
    | zero =>
      intro i left sp' sg' sk' sv' te' ke' H locs ls hn hle hsp hF hP hD hS hl
      refine lv_iload_n hx hb dX0_forgetSaved_4 rfl (lv_at hl 3 rfl) ?_
      refine lv_aload_n hx hb dX0_forgetSaved_5 rfl (lv_at hl 0 rfl) ?_
      refine va_get (D := (dC, dI)) (ci := 0) (v := .int (nI sc)) (C := RX0) (T := TX0) (N := 9) hx hb hts iX0 hown hK hP 0 rfl rfl 7 (by decide) l30 (fun _ h9 => h9) rfl dX0_forgetSaved_6 ?_
      refine lv_icmp_ge (tgt := 56) hx hb dX0_forgetSaved_9 (by decide) (fun c9 => ?_) (fun c9 => ?_)
      · refine lv_aload_n hx hb dX0_forgetSaved_56 rfl (lv_at hl 0 rfl) ?_
        refine lv_iload_n hx hb dX0_forgetSaved_57 rfl (lv_at hl 2 rfl) ?_
        refine va_put (D := (dC, dI)) (ci := 0) (v := .int (nI left)) (ty := .int) (C := RX0) (T := TX0) (N := 9) hx hb hts iX0 tyX0 tyX0_ok nmX0 hown hK hP hD hS 0 rfl rfl 7 (by decide) l30 (fun _ h9 => h9) rfl (by decide +kernel) rfl rfl (Nat.le_of_ble_eq_true rfl) dX0_forgetSaved_58 (fun H locs hP hD hS => ?_)
        have hP : va_P (dC, dI) vwCl (wP cI r0 p0 p1 p2 p3 p4 p5 p6 ki va sp' sg' sk' sv' left og ++ wR cI r0 r1 r2 r3 r4 nu st le te' ma ds dl ke') _ := hP
        have hD : va_D A (wP cI r0 p0 p1 p2 p3 p4 p5 p6 ki va sp' sg' sk' sv' left og ++ wR cI r0 r1 r2 r3 r4 nu st le te' ma ds dl ke') := hD
        exact hret ((left, sp', sg', sk', sv', te', ke')) (by rw [← hF]; rfl) hP hD hS dX0_forgetSaved_61
      · exact absurd (nI_le (by omega) (by omega)) c9
    | succ n ih =>
      intro i left sp' sg' sk' sv' te' ke' H locs ls hn hle hsp hF hP hD hS hl
      have h4 := hsp i (Nat.le_refl _) (by omega)
      refine lv_iload_n hx hb dX0_forgetSaved_4 rfl (lv_at hl 3 rfl) ?_
      refine lv_aload_n hx hb dX0_forgetSaved_5 rfl (lv_at hl 0 rfl) ?_
      refine va_get (D := (dC, dI)) (ci := 0) (v := .int (nI sc)) (C := RX0) (T := TX0) (N := 9) hx hb hts iX0 hown hK hP 0 rfl rfl 7 (by decide) l30 (fun _ h9 => h9) rfl dX0_forgetSaved_6 ?_
      refine lv_icmp_ge (tgt := 56) hx hb dX0_forgetSaved_9 (by decide) (fun c9 => ?_) (fun c9 => ?_)
      · exact absurd c9 (nI_ge (by omega) (by omega))
      · refine lv_aload_n hx hb dX0_forgetSaved_12 rfl (lv_at hl 0 rfl) ?_
        refine va_get (D := (dC, dI)) (ci := 0) (v := .ref p3) (C := RX0) (T := TX0) (N := 9) hx hb hts iX0 hown hK hP 0 rfl rfl 3 (by decide) l18 (fun _ h9 => h9) rfl dX0_forgetSaved_13 ?_
        refine lv_iload_n hx hb dX0_forgetSaved_16 rfl (lv_at hl 3 rfl) ?_
        refine mv_iald hx hb hK hP 3 0 rfl rfl (k := i) (rfl) (by omega) (by decide) (v := nI (sp' i)) rfl dX0_forgetSaved_17 ?_
        refine lv_iload_n hx hb dX0_forgetSaved_18 rfl (lv_at hl 1 rfl) ?_
        refine lv_icmp_ne (tgt := 41) hx hb dX0_forgetSaved_19 (by decide) (fun c19 => ?_) (fun c19 => ?_)
        · refine lv_aload_n hx hb dX0_forgetSaved_41 rfl (lv_at hl 0 rfl) ?_
          refine lv_iload_n hx hb dX0_forgetSaved_42 rfl (lv_at hl 3 rfl) ?_
          refine lv_iload_n hx hb dX0_forgetSaved_43 rfl (lv_at hl 2 rfl) ?_
          have hP : va_P (dC, dI) vwCl ([] ++ (wP cI r0 p0 p1 p2 p3 p4 p5 p6 ki va sp' sg' sk' sv' sc og ++ wR cI r0 r1 r2 r3 r4 nu st le te' ma ds dl ke')) _ := hP
          have hD : va_D A ([] ++ (wP cI r0 p0 p1 p2 p3 p4 p5 p6 ki va sp' sg' sk' sv' sc og ++ wR cI r0 r1 r2 r3 r4 nu st le te' ma ds dl ke')) := hD
          refine m_wVv (As := [.int (nI i), .int (nI left)]) (rest := []) ⟨hx, hb, hml, hown, hts⟩ (c_X0_moveSaved l dC dI cI r0 p0 p1 p2 p3 p4 p5 p6 ki va sp' sg' sk' sv' sc og r1 r2 r3 r4 nu st le te' ma ds dl ke' i left (by omega) (by omega)) (cwV 2 hts gX0_forgetSaved_X0_moveSaved rfl rfl rfl (by decide +kernel) ⟨Nat.le_of_ble_eq_true rfl, Nat.le_of_ble_eq_true rfl⟩) hP hK hD hS hA 0 0 rfl rfl rfl hl.1 rfl (Nat.le_of_ble_eq_true rfl) dX0_forgetSaved_44 ⟨Nat.zero_le _, Nat.zero_le _⟩ (fun u H locs hw hP hD hS => ?_)
          subst hw
          have hP : va_P (dC, dI) vwCl (wP cI r0 p0 p1 p2 p3 p4 p5 p6 ki va (va_up sp' left (sp' i)) (va_up sg' left (sg' i)) (upd sk' left (sk' i)) (upd sv' left (sv' i)) sc og ++ wR cI r0 r1 r2 r3 r4 nu st le te' ma ds dl ke') _ := hP
          have hD : va_D A (wP cI r0 p0 p1 p2 p3 p4 p5 p6 ki va (va_up sp' left (sp' i)) (va_up sg' left (sg' i)) (upd sk' left (sk' i)) (upd sv' left (sv' i)) sc og ++ wR cI r0 r1 r2 r3 r4 nu st le te' ma ds dl ke') := hD
          refine lv_iinc (v := nI (left + 1)) (lv' := [(2, .int (nI (left + 1))), (0, .ref p0), (1, .int (nI pl)), (3, .int (nI i))]) hx hb dX0_forgetSaved_47 hl (k := 2) rfl (show (nI left) + Int32.ofInt (1) = nI (left + 1) from nI_1 left) (by decide) rfl (fun ls hl => ?_)
          refine lv_iinc (v := nI (i + 1)) (lv' := [(3, .int (nI (i + 1))), (2, .int (nI (left + 1))), (0, .ref p0), (1, .int (nI pl))]) hx hb dX0_forgetSaved_50 hl (k := 3) rfl (show (nI i) + Int32.ofInt (1) = nI (i + 1) from nI_1 i) (by decide) rfl (fun ls hl => ?_)
          refine lv_goto (tgt := 4) hx hb dX0_forgetSaved_53 (by decide) ?_
          exact ih _ _ _ _ _ _ _ _ _ _ _ (by omega) (by omega) (fun j h1 h2 => by rw [va_up_ne _ _ (by omega)]; exact hsp j (by omega) h2) (by rw [← hF, forgF, if_neg (fun h => c19 (by rw [h]))]) hP hD hS (lv_sub hl [2, 3, 1, 0] rfl)
        · refine lv_aload_n hx hb dX0_forgetSaved_22 rfl (lv_at hl 0 rfl) ?_
          refine lv_aload_n hx hb dX0_forgetSaved_23 rfl (lv_at hl 0 rfl) ?_
          refine va_get (D := (dC, dI)) (ci := 0) (v := .ref p5) (C := RX0) (T := TX0) (N := 9) hx hb hts iX0 hown hK hP 0 rfl rfl 5 (by decide) l24 (fun _ h9 => h9) rfl dX0_forgetSaved_24 ?_
          refine lv_iload_n hx hb dX0_forgetSaved_27 rfl (lv_at hl 3 rfl) ?_
          refine mv_iald hx hb hK hP 5 0 rfl rfl (k := i) (rfl) (by omega) (by decide) (v := sk' i) rfl dX0_forgetSaved_28 ?_
          refine lv_aload_n hx hb dX0_forgetSaved_29 rfl (lv_at hl 0 rfl) ?_
          refine va_get (D := (dC, dI)) (ci := 0) (v := .ref p6) (C := RX0) (T := TX0) (N := 9) hx hb hts iX0 hown hK hP 0 rfl rfl 6 (by decide) l27 (fun _ h9 => h9) rfl dX0_forgetSaved_30 ?_
          refine lv_iload_n hx hb dX0_forgetSaved_33 rfl (lv_at hl 3 rfl) ?_
          refine mv_iald hx hb hK hP 6 0 rfl rfl (k := i) (rfl) (by omega) (by decide) (v := sv' i) rfl dX0_forgetSaved_34 ?_
          have hP : va_P (dC, dI) vwCl ([] ++ (wP cI r0 p0 p1 p2 p3 p4 p5 p6 ki va sp' sg' sk' sv' sc og ++ wR cI r0 r1 r2 r3 r4 nu st le te' ma ds dl ke')) _ := hP
          have hD : va_D A ([] ++ (wP cI r0 p0 p1 p2 p3 p4 p5 p6 ki va sp' sg' sk' sv' sc og ++ wR cI r0 r1 r2 r3 r4 nu st le te' ma ds dl ke')) := hD
          refine m_wVv (As := [.int (sk' i), .int (sv' i)]) (rest := []) ⟨hx, hb, hml, hown, hts⟩ (c_X0_untell l dC dI cI r0 p0 p1 p2 p3 p4 p5 p6 ki va sp' sg' sk' sv' sc og r1 r2 r3 r4 nu st le te' ma ds dl ke' (sk' i) (sv' i) hm) (cwV 2 hts gX0_forgetSaved_X0_untell rfl rfl rfl (by decide +kernel) ⟨Nat.le_of_ble_eq_true rfl, Nat.le_of_ble_eq_true rfl⟩) hP hK hD hS hA 0 0 rfl rfl rfl hl.1 rfl (Nat.le_of_ble_eq_true rfl) dX0_forgetSaved_35 ⟨Nat.zero_le _, Nat.zero_le _⟩ (fun u H locs hw hP hD hS => ?_)
          subst hw
          have hP : va_P (dC, dI) vwCl (wP cI r0 p0 p1 p2 p3 p4 p5 p6 ki va sp' sg' sk' sv' sc og ++ wR cI r0 r1 r2 r3 r4 nu st le ((untellT ma le (sk' i) (sv' i) te' ke').1) ma ds dl ((untellT ma le (sk' i) (sv' i) te' ke').2)) _ := hP
          have hD : va_D A (wP cI r0 p0 p1 p2 p3 p4 p5 p6 ki va sp' sg' sk' sv' sc og ++ wR cI r0 r1 r2 r3 r4 nu st le ((untellT ma le (sk' i) (sv' i) te' ke').1) ma ds dl ((untellT ma le (sk' i) (sv' i) te' ke').2)) := hD
          refine lv_goto (tgt := 50) hx hb dX0_forgetSaved_38 (by decide) ?_
          refine lv_iinc (v := nI (i + 1)) (lv' := [(3, .int (nI (i + 1))), (0, .ref p0), (1, .int (nI pl)), (2, .int (nI left))]) hx hb dX0_forgetSaved_50 hl (k := 3) rfl (show (nI i) + Int32.ofInt (1) = nI (i + 1) from nI_1 i) (by decide) rfl (fun ls hl => ?_)
          refine lv_goto (tgt := 4) hx hb dX0_forgetSaved_53 (by decide) ?_
          exact ih _ _ _ _ _ _ _ _ _ _ _ (by omega) (by omega) (fun j h1 h2 => hsp j (by omega) h2) (by rw [← hF, forgF, if_pos ((nI_eq h4 (by omega)).mp c19)]) hP hD hS (lv_sub hl [1, 2, 3, 0] rfl)
  refine lv_iconst (v := 0) hx hb dX0_forgetSaved_0 (by decide) ?_
  refine lv_istore_n (lv' := [(2, .int 0), (0, .ref p0), (1, .int (nI pl))]) hx hb dX0_forgetSaved_1 rfl hl (by decide) rfl (fun ls hl => ?_)
  refine lv_iconst (v := 0) hx hb dX0_forgetSaved_2 (by decide) ?_
  refine lv_istore_n (lv' := [(3, .int 0), (2, .int 0), (0, .ref p0), (1, .int (nI pl))]) hx hb dX0_forgetSaved_3 rfl hl (by decide) rfl (fun ls hl => ?_)
  exact loop sc 0 0 sp sg sk sv te ke _ _ _ rfl (Nat.le_refl _) (fun j _ h => hsp j h) rfl hP hD hS (lv_sub hl [2, 3, 1, 0] rfl)
theorem mustB_lt {sp sg : Nat → Nat} {sc og pl : Nat} (h : mustB sp sg sc og pl = true) : sc < 512 := by
  unfold mustB at h
  by_cases h0 : og = 0
  · rw [if_pos h0] at h; cases h
  · by_cases h5 : 512 ≤ sc
    · rw [if_neg h0, if_pos h5] at h; cases h
    · omega
set_option maxHeartbeats 4000000 in
set_option maxRecDepth 100000 in
theorem c_X0_assign (l : Launch) (dC : Nat → ClassId) (dI : Nat → Nat → Nat) (cI : ClassId) (r0 p0 p1 p2 p3 p4 p5 p6 : Nat) (ki va : Nat → Int32) (sp sg : Nat → Nat) (sk sv : Nat → Int32) (sc og r1 r2 r3 r4 : Nat) (nu : Nat → Int32) (st le : Nat → Nat) (te : Nat → Int32) (ma ds dl : Nat) (ke : Int32) (pl : Nat) (k v g : Int32) (hm : ma ≤ 513) (hpl : pl < 3367) (hsc : sc ≤ 512) (hog : og < 2 ^ 31) (hsg : ∀ j, j < sc → sg j < 2 ^ 31) (hsp : ∀ j, j < sc → sp j < 2 ^ 31) : mWv l yX0_assign wsX0_assign ({ frames := 4, cells := 0, slots := 0, locals := 87 }) (dC, dI) cI [.ref p0, .int (nI pl), .int k, .int v, .int g] (wP cI r0 p0 p1 p2 p3 p4 p5 p6 ki va sp sg sk sv sc og ++ wR cI r0 r1 r2 r3 r4 nu st le te ma ds dl ke) (fun u => u = assignF ma le pl k v g ki va sp sg sk sv sc og te ke) (fun u : (Nat → Int32) × (Nat → Int32) × (Nat → Nat) × (Nat → Nat) × (Nat → Int32) × (Nat → Int32) × Nat × (Nat → Int32) × Int32 => wP cI r0 p0 p1 p2 p3 p4 p5 p6 u.1 u.2.1 u.2.2.1 u.2.2.2.1 u.2.2.2.2.1 u.2.2.2.2.2.1 u.2.2.2.2.2.2.1 og ++ wR cI r0 r1 r2 r3 r4 nu st le u.2.2.2.2.2.2.2.1 ma ds dl u.2.2.2.2.2.2.2.2) := by
  refine m_ofWv (cc := cX0_assign) (maxL := 5) (by decide) rfl (Nat.le_of_ble_eq_true rfl) ?_
  intro p e s m args below meth c ls A Q hx hb hts hown hml hP hK hD hA hS hl hret
  have hown : s.vm.findClass RX0 = some m.cls := hown
  have hl : lv_has ls 5 [(0, .ref p0), (1, .int (nI pl)), (2, .int k), (3, .int v), (4, .int g)] := hl
  have l9 := hts (.fieldLink RX0 9 "GroupDesk$Places" "kinds" "[I") (by decide +kernel)
  have l15 := hts (.fieldLink RX0 15 "GroupDesk$Places" "values" "[I") (by decide +kernel)
  have iX0 : ∀ w ∈ u_ws RX0 TX0 9, w ∈ wsX0_assign := by decide +kernel
  refine lv_iload_n hx hb dX0_assign_0 rfl (lv_at hl 1 rfl) ?_
  refine m_rS (As := [.int (nI pl)]) (rest := []) ⟨hx, hb, hml, hown, hts⟩ (c_X0_isPlace l dC dI cI (nI pl)) (va_cwS 1 hts gX0_assign_X0_isPlace rfl rfl rfl (by decide +kernel) ⟨Nat.le_of_ble_eq_true rfl, Nat.le_of_ble_eq_true rfl⟩) ma_nil hK rfl hl.1 rfl (Nat.le_of_ble_eq_true rfl) dX0_assign_1 ⟨Nat.zero_le _, Nat.zero_le _⟩ (fun r hw => ?_)
  subst hw
  refine lv_if_ne (tgt := 8) hx hb dX0_assign_4 (by decide) (fun c4 => ?_) (fun c4 => ?_)
  · refine lv_aload_n hx hb dX0_assign_8 rfl (lv_at hl 0 rfl) ?_
    refine lv_iload_n hx hb dX0_assign_9 rfl (lv_at hl 2 rfl) ?_
    refine lv_iload_n hx hb dX0_assign_10 rfl (lv_at hl 3 rfl) ?_
    have hP : va_P (dC, dI) vwCl ([] ++ (wP cI r0 p0 p1 p2 p3 p4 p5 p6 ki va sp sg sk sv sc og ++ wR cI r0 r1 r2 r3 r4 nu st le te ma ds dl ke)) _ := hP
    have hD : va_D A ([] ++ (wP cI r0 p0 p1 p2 p3 p4 p5 p6 ki va sp sg sk sv sc og ++ wR cI r0 r1 r2 r3 r4 nu st le te ma ds dl ke)) := hD
    refine m_wVv (As := [.int k, .int v]) (rest := []) ⟨hx, hb, hml, hown, hts⟩ (c_X0_tell l dC dI cI r0 p0 p1 p2 p3 p4 p5 p6 ki va sp sg sk sv sc og r1 r2 r3 r4 nu st le te ma ds dl ke k v hm) (cwV 2 hts gX0_assign_X0_tell rfl rfl rfl (by decide +kernel) ⟨Nat.le_of_ble_eq_true rfl, Nat.le_of_ble_eq_true rfl⟩) hP hK hD hS hA 0 0 rfl rfl rfl hl.1 rfl (Nat.le_of_ble_eq_true rfl) dX0_assign_11 ⟨Nat.zero_le _, Nat.zero_le _⟩ (fun u H locs hw hP hD hS => ?_)
    subst hw
    have hP : va_P (dC, dI) vwCl (wP cI r0 p0 p1 p2 p3 p4 p5 p6 ki va sp sg sk sv sc og ++ wR cI r0 r1 r2 r3 r4 nu st le ((tellT ma le k v te ke).1) ma ds dl ((tellT ma le k v te ke).2)) _ := hP
    have hD : va_D A (wP cI r0 p0 p1 p2 p3 p4 p5 p6 ki va sp sg sk sv sc og ++ wR cI r0 r1 r2 r3 r4 nu st le ((tellT ma le k v te ke).1) ma ds dl ((tellT ma le k v te ke).2)) := hD
    refine lv_iload hx hb dX0_assign_14 (lv_at hl 4 rfl) ?_
    refine lv_if_eq (tgt := 24) hx hb dX0_assign_16 (by decide) (fun c16 => ?_) (fun c16 => ?_)
    · refine lv_iload hx hb dX0_assign_24 (lv_at hl 4 rfl) ?_
      refine lv_if_ne (tgt := 45) hx hb dX0_assign_26 (by decide) (fun c26 => ?_) (fun c26 => ?_)
      · exact absurd c16 c26
      · have h26 := c26
        refine lv_aload_n hx hb dX0_assign_29 rfl (lv_at hl 0 rfl) ?_
        refine lv_iload_n hx hb dX0_assign_30 rfl (lv_at hl 1 rfl) ?_
        refine m_rV (As := [.int (nI pl)]) (rest := []) ⟨hx, hb, hml, hown, hts⟩ (c_X0_mustSave l dC dI cI r0 p0 p1 p2 p3 p4 p5 p6 ki va sp sg sk sv sc og pl hpl hsc hog hsg hsp) (cwV 1 hts gX0_assign_X0_mustSave rfl rfl rfl (by decide +kernel) ⟨Nat.le_of_ble_eq_true rfl, Nat.le_of_ble_eq_true rfl⟩) (ma_Pl hP) hK 0 0 rfl rfl rfl hl.1 rfl (Nat.le_of_ble_eq_true rfl) dX0_assign_31 ⟨Nat.zero_le _, Nat.zero_le _⟩ (fun r hw => ?_)
        subst hw
        refine lv_if_eq (tgt := 45) hx hb dX0_assign_34 (by decide) (fun c34 => ?_) (fun c34 => ?_)
        · have hj := b2i_0 c34
          refine lv_aload_n hx hb dX0_assign_45 rfl (lv_at hl 0 rfl) ?_
          refine lv_aload_n hx hb dX0_assign_46 rfl (lv_at hl 0 rfl) ?_
          refine va_get (D := (dC, dI)) (ci := 0) (v := .ref p1) (C := RX0) (T := TX0) (N := 9) hx hb hts iX0 hown hK hP 0 rfl rfl 1 (by decide) l9 (fun _ h9 => h9) rfl dX0_assign_47 ?_
          refine lv_iload_n hx hb dX0_assign_50 rfl (lv_at hl 1 rfl) ?_
          refine mv_iald hx hb hK hP 1 0 rfl rfl (k := pl) (rfl) (hpl) (by decide) (v := ki pl) rfl dX0_assign_51 ?_
          refine lv_aload_n hx hb dX0_assign_52 rfl (lv_at hl 0 rfl) ?_
          refine va_get (D := (dC, dI)) (ci := 0) (v := .ref p2) (C := RX0) (T := TX0) (N := 9) hx hb hts iX0 hown hK hP 0 rfl rfl 2 (by decide) l15 (fun _ h9 => h9) rfl dX0_assign_53 ?_
          refine lv_iload_n hx hb dX0_assign_56 rfl (lv_at hl 1 rfl) ?_
          refine mv_iald hx hb hK hP 2 0 rfl rfl (k := pl) (rfl) (hpl) (by decide) (v := va pl) rfl dX0_assign_57 ?_
          have hP : va_P (dC, dI) vwCl ([] ++ (wP cI r0 p0 p1 p2 p3 p4 p5 p6 ki va sp sg sk sv sc og ++ wR cI r0 r1 r2 r3 r4 nu st le ((tellT ma le k v te ke).1) ma ds dl ((tellT ma le k v te ke).2))) _ := hP
          have hD : va_D A ([] ++ (wP cI r0 p0 p1 p2 p3 p4 p5 p6 ki va sp sg sk sv sc og ++ wR cI r0 r1 r2 r3 r4 nu st le ((tellT ma le k v te ke).1) ma ds dl ((tellT ma le k v te ke).2))) := hD
          refine m_wVv (As := [.int (ki pl), .int (va pl)]) (rest := []) ⟨hx, hb, hml, hown, hts⟩ (c_X0_untell l dC dI cI r0 p0 p1 p2 p3 p4 p5 p6 ki va sp sg sk sv sc og r1 r2 r3 r4 nu st le ((tellT ma le k v te ke).1) ma ds dl ((tellT ma le k v te ke).2) (ki pl) (va pl) hm) (cwV 2 hts gX0_assign_X0_untell rfl rfl rfl (by decide +kernel) ⟨Nat.le_of_ble_eq_true rfl, Nat.le_of_ble_eq_true rfl⟩) hP hK hD hS hA 0 0 rfl rfl rfl hl.1 rfl (Nat.le_of_ble_eq_true rfl) dX0_assign_58 ⟨Nat.zero_le _, Nat.zero_le _⟩ (fun u H locs hw hP hD hS => ?_)
          subst hw
          have hP : va_P (dC, dI) vwCl (wP cI r0 p0 p1 p2 p3 p4 p5 p6 ki va sp sg sk sv sc og ++ wR cI r0 r1 r2 r3 r4 nu st le ((untellT ma le (ki pl) (va pl) ((tellT ma le k v te ke).1) ((tellT ma le k v te ke).2)).1) ma ds dl ((untellT ma le (ki pl) (va pl) ((tellT ma le k v te ke).1) ((tellT ma le k v te ke).2)).2)) _ := hP
          have hD : va_D A (wP cI r0 p0 p1 p2 p3 p4 p5 p6 ki va sp sg sk sv sc og ++ wR cI r0 r1 r2 r3 r4 nu st le ((untellT ma le (ki pl) (va pl) ((tellT ma le k v te ke).1) ((tellT ma le k v te ke).2)).1) ma ds dl ((untellT ma le (ki pl) (va pl) ((tellT ma le k v te ke).1) ((tellT ma le k v te ke).2)).2)) := hD
          refine lv_aload_n hx hb dX0_assign_61 rfl (lv_at hl 0 rfl) ?_
          refine va_get (D := (dC, dI)) (ci := 0) (v := .ref p1) (C := RX0) (T := TX0) (N := 9) hx hb hts iX0 hown hK hP 0 rfl rfl 1 (by decide) l9 (fun _ h9 => h9) rfl dX0_assign_62 ?_
          refine lv_iload_n hx hb dX0_assign_65 rfl (lv_at hl 1 rfl) ?_
          refine lv_iload_n hx hb dX0_assign_66 rfl (lv_at hl 2 rfl) ?_
          refine mv_iast hx hb hK hP hD hS 1 0 rfl rfl (k := pl) (rfl) (hpl) (by decide) (f' := upd ki pl k) (rfl) dX0_assign_67 (fun H locs hP hD hS => ?_)
          have hP : va_P (dC, dI) vwCl (wP cI r0 p0 p1 p2 p3 p4 p5 p6 (upd ki pl k) va sp sg sk sv sc og ++ wR cI r0 r1 r2 r3 r4 nu st le ((untellT ma le (ki pl) (va pl) ((tellT ma le k v te ke).1) ((tellT ma le k v te ke).2)).1) ma ds dl ((untellT ma le (ki pl) (va pl) ((tellT ma le k v te ke).1) ((tellT ma le k v te ke).2)).2)) _ := hP
          have hD : va_D A (wP cI r0 p0 p1 p2 p3 p4 p5 p6 (upd ki pl k) va sp sg sk sv sc og ++ wR cI r0 r1 r2 r3 r4 nu st le ((untellT ma le (ki pl) (va pl) ((tellT ma le k v te ke).1) ((tellT ma le k v te ke).2)).1) ma ds dl ((untellT ma le (ki pl) (va pl) ((tellT ma le k v te ke).1) ((tellT ma le k v te ke).2)).2)) := hD
          refine lv_aload_n hx hb dX0_assign_68 rfl (lv_at hl 0 rfl) ?_
          refine va_get (D := (dC, dI)) (ci := 0) (v := .ref p2) (C := RX0) (T := TX0) (N := 9) hx hb hts iX0 hown hK hP 0 rfl rfl 2 (by decide) l15 (fun _ h9 => h9) rfl dX0_assign_69 ?_
          refine lv_iload_n hx hb dX0_assign_72 rfl (lv_at hl 1 rfl) ?_
          refine lv_iload_n hx hb dX0_assign_73 rfl (lv_at hl 3 rfl) ?_
          refine mv_iast hx hb hK hP hD hS 2 0 rfl rfl (k := pl) (rfl) (hpl) (by decide) (f' := upd va pl v) (rfl) dX0_assign_74 (fun H locs hP hD hS => ?_)
          have hP : va_P (dC, dI) vwCl (wP cI r0 p0 p1 p2 p3 p4 p5 p6 (upd ki pl k) (upd va pl v) sp sg sk sv sc og ++ wR cI r0 r1 r2 r3 r4 nu st le ((untellT ma le (ki pl) (va pl) ((tellT ma le k v te ke).1) ((tellT ma le k v te ke).2)).1) ma ds dl ((untellT ma le (ki pl) (va pl) ((tellT ma le k v te ke).1) ((tellT ma le k v te ke).2)).2)) _ := hP
          have hD : va_D A (wP cI r0 p0 p1 p2 p3 p4 p5 p6 (upd ki pl k) (upd va pl v) sp sg sk sv sc og ++ wR cI r0 r1 r2 r3 r4 nu st le ((untellT ma le (ki pl) (va pl) ((tellT ma le k v te ke).1) ((tellT ma le k v te ke).2)).1) ma ds dl ((untellT ma le (ki pl) (va pl) ((tellT ma le k v te ke).1) ((tellT ma le k v te ke).2)).2)) := hD
          exact hret ((upd ki pl k, upd va pl v, sp, sg, sk, sv, sc, (untellT ma le (ki pl) (va pl) ((tellT ma le k v te ke).1) ((tellT ma le k v te ke).2)).1, (untellT ma le (ki pl) (va pl) ((tellT ma le k v te ke).1) ((tellT ma le k v te ke).2)).2)) (by unfold assignF; rw [if_pos c16, hj]; rfl) hP hD hS dX0_assign_75
        · have hj := b2i_n c34
          refine lv_aload_n hx hb dX0_assign_37 rfl (lv_at hl 0 rfl) ?_
          refine lv_iload_n hx hb dX0_assign_38 rfl (lv_at hl 1 rfl) ?_
          have hP : va_P (dC, dI) vwCl ([] ++ (wP cI r0 p0 p1 p2 p3 p4 p5 p6 ki va sp sg sk sv sc og ++ wR cI r0 r1 r2 r3 r4 nu st le ((tellT ma le k v te ke).1) ma ds dl ((tellT ma le k v te ke).2))) _ := hP
          have hD : va_D A ([] ++ (wP cI r0 p0 p1 p2 p3 p4 p5 p6 ki va sp sg sk sv sc og ++ wR cI r0 r1 r2 r3 r4 nu st le ((tellT ma le k v te ke).1) ma ds dl ((tellT ma le k v te ke).2))) := hD
          refine m_wVv (As := [.int (nI pl)]) (rest := []) ⟨hx, hb, hml, hown, hts⟩ (c_X0_save l dC dI cI r0 p0 p1 p2 p3 p4 p5 p6 ki va sp sg sk sv sc og r1 r2 r3 r4 nu st le ((tellT ma le k v te ke).1) ma ds dl ((tellT ma le k v te ke).2) pl hpl (mustB_lt hj)) (cwV 1 hts gX0_assign_X0_save rfl rfl rfl (by decide +kernel) ⟨Nat.le_of_ble_eq_true rfl, Nat.le_of_ble_eq_true rfl⟩) hP hK hD hS hA 0 0 rfl rfl rfl hl.1 rfl (Nat.le_of_ble_eq_true rfl) dX0_assign_39 ⟨Nat.zero_le _, Nat.zero_le _⟩ (fun u H locs hw hP hD hS => ?_)
          subst hw
          have hP : va_P (dC, dI) vwCl (wP cI r0 p0 p1 p2 p3 p4 p5 p6 ki va (va_up sp sc pl) (va_up sg sc og) (upd sk sc (ki pl)) (upd sv sc (va pl)) (sc + 1) og ++ wR cI r0 r1 r2 r3 r4 nu st le ((tellT ma le k v te ke).1) ma ds dl ((tellT ma le k v te ke).2)) _ := hP
          have hD : va_D A (wP cI r0 p0 p1 p2 p3 p4 p5 p6 ki va (va_up sp sc pl) (va_up sg sc og) (upd sk sc (ki pl)) (upd sv sc (va pl)) (sc + 1) og ++ wR cI r0 r1 r2 r3 r4 nu st le ((tellT ma le k v te ke).1) ma ds dl ((tellT ma le k v te ke).2)) := hD
          refine lv_goto (tgt := 61) hx hb dX0_assign_42 (by decide) ?_
          refine lv_aload_n hx hb dX0_assign_61 rfl (lv_at hl 0 rfl) ?_
          refine va_get (D := (dC, dI)) (ci := 0) (v := .ref p1) (C := RX0) (T := TX0) (N := 9) hx hb hts iX0 hown hK hP 0 rfl rfl 1 (by decide) l9 (fun _ h9 => h9) rfl dX0_assign_62 ?_
          refine lv_iload_n hx hb dX0_assign_65 rfl (lv_at hl 1 rfl) ?_
          refine lv_iload_n hx hb dX0_assign_66 rfl (lv_at hl 2 rfl) ?_
          refine mv_iast hx hb hK hP hD hS 1 0 rfl rfl (k := pl) (rfl) (hpl) (by decide) (f' := upd ki pl k) (rfl) dX0_assign_67 (fun H locs hP hD hS => ?_)
          have hP : va_P (dC, dI) vwCl (wP cI r0 p0 p1 p2 p3 p4 p5 p6 (upd ki pl k) va (va_up sp sc pl) (va_up sg sc og) (upd sk sc (ki pl)) (upd sv sc (va pl)) (sc + 1) og ++ wR cI r0 r1 r2 r3 r4 nu st le ((tellT ma le k v te ke).1) ma ds dl ((tellT ma le k v te ke).2)) _ := hP
          have hD : va_D A (wP cI r0 p0 p1 p2 p3 p4 p5 p6 (upd ki pl k) va (va_up sp sc pl) (va_up sg sc og) (upd sk sc (ki pl)) (upd sv sc (va pl)) (sc + 1) og ++ wR cI r0 r1 r2 r3 r4 nu st le ((tellT ma le k v te ke).1) ma ds dl ((tellT ma le k v te ke).2)) := hD
          refine lv_aload_n hx hb dX0_assign_68 rfl (lv_at hl 0 rfl) ?_
          refine va_get (D := (dC, dI)) (ci := 0) (v := .ref p2) (C := RX0) (T := TX0) (N := 9) hx hb hts iX0 hown hK hP 0 rfl rfl 2 (by decide) l15 (fun _ h9 => h9) rfl dX0_assign_69 ?_
          refine lv_iload_n hx hb dX0_assign_72 rfl (lv_at hl 1 rfl) ?_
          refine lv_iload_n hx hb dX0_assign_73 rfl (lv_at hl 3 rfl) ?_
          refine mv_iast hx hb hK hP hD hS 2 0 rfl rfl (k := pl) (rfl) (hpl) (by decide) (f' := upd va pl v) (rfl) dX0_assign_74 (fun H locs hP hD hS => ?_)
          have hP : va_P (dC, dI) vwCl (wP cI r0 p0 p1 p2 p3 p4 p5 p6 (upd ki pl k) (upd va pl v) (va_up sp sc pl) (va_up sg sc og) (upd sk sc (ki pl)) (upd sv sc (va pl)) (sc + 1) og ++ wR cI r0 r1 r2 r3 r4 nu st le ((tellT ma le k v te ke).1) ma ds dl ((tellT ma le k v te ke).2)) _ := hP
          have hD : va_D A (wP cI r0 p0 p1 p2 p3 p4 p5 p6 (upd ki pl k) (upd va pl v) (va_up sp sc pl) (va_up sg sc og) (upd sk sc (ki pl)) (upd sv sc (va pl)) (sc + 1) og ++ wR cI r0 r1 r2 r3 r4 nu st le ((tellT ma le k v te ke).1) ma ds dl ((tellT ma le k v te ke).2)) := hD
          exact hret ((upd ki pl k, upd va pl v, va_up sp sc pl, va_up sg sc og, upd sk sc (ki pl), upd sv sc (va pl), sc + 1, (tellT ma le k v te ke).1, (tellT ma le k v te ke).2)) (by unfold assignF; rw [if_pos c16, hj]; rfl) hP hD hS dX0_assign_75
    · refine lv_aload_n hx hb dX0_assign_19 rfl (lv_at hl 0 rfl) ?_
      refine lv_iload_n hx hb dX0_assign_20 rfl (lv_at hl 1 rfl) ?_
      have hP : va_P (dC, dI) vwCl ([] ++ (wP cI r0 p0 p1 p2 p3 p4 p5 p6 ki va sp sg sk sv sc og ++ wR cI r0 r1 r2 r3 r4 nu st le ((tellT ma le k v te ke).1) ma ds dl ((tellT ma le k v te ke).2))) _ := hP
      have hD : va_D A ([] ++ (wP cI r0 p0 p1 p2 p3 p4 p5 p6 ki va sp sg sk sv sc og ++ wR cI r0 r1 r2 r3 r4 nu st le ((tellT ma le k v te ke).1) ma ds dl ((tellT ma le k v te ke).2))) := hD
      refine m_wVv (As := [.int (nI pl)]) (rest := []) ⟨hx, hb, hml, hown, hts⟩ (c_X0_forgetSaved l dC dI cI r0 p0 p1 p2 p3 p4 p5 p6 ki va sp sg sk sv sc og r1 r2 r3 r4 nu st le ((tellT ma le k v te ke).1) ma ds dl ((tellT ma le k v te ke).2) pl hm hpl hsc hsp) (cwV 1 hts gX0_assign_X0_forgetSaved rfl rfl rfl (by decide +kernel) ⟨Nat.le_of_ble_eq_true rfl, Nat.le_of_ble_eq_true rfl⟩) hP hK hD hS hA 0 0 rfl rfl rfl hl.1 rfl (Nat.le_of_ble_eq_true rfl) dX0_assign_21 ⟨Nat.zero_le _, Nat.zero_le _⟩ (fun u H locs hw hP hD hS => ?_)
      subst hw
      have hP : va_P (dC, dI) vwCl (wP cI r0 p0 p1 p2 p3 p4 p5 p6 ki va ((forgF ma le pl sc 0 0 sp sg sk sv ((tellT ma le k v te ke).1) ((tellT ma le k v te ke).2)).2.1) ((forgF ma le pl sc 0 0 sp sg sk sv ((tellT ma le k v te ke).1) ((tellT ma le k v te ke).2)).2.2.1) ((forgF ma le pl sc 0 0 sp sg sk sv ((tellT ma le k v te ke).1) ((tellT ma le k v te ke).2)).2.2.2.1) ((forgF ma le pl sc 0 0 sp sg sk sv ((tellT ma le k v te ke).1) ((tellT ma le k v te ke).2)).2.2.2.2.1) ((forgF ma le pl sc 0 0 sp sg sk sv ((tellT ma le k v te ke).1) ((tellT ma le k v te ke).2)).1) og ++ wR cI r0 r1 r2 r3 r4 nu st le ((forgF ma le pl sc 0 0 sp sg sk sv ((tellT ma le k v te ke).1) ((tellT ma le k v te ke).2)).2.2.2.2.2.1) ma ds dl ((forgF ma le pl sc 0 0 sp sg sk sv ((tellT ma le k v te ke).1) ((tellT ma le k v te ke).2)).2.2.2.2.2.2)) _ := hP
      have hD : va_D A (wP cI r0 p0 p1 p2 p3 p4 p5 p6 ki va ((forgF ma le pl sc 0 0 sp sg sk sv ((tellT ma le k v te ke).1) ((tellT ma le k v te ke).2)).2.1) ((forgF ma le pl sc 0 0 sp sg sk sv ((tellT ma le k v te ke).1) ((tellT ma le k v te ke).2)).2.2.1) ((forgF ma le pl sc 0 0 sp sg sk sv ((tellT ma le k v te ke).1) ((tellT ma le k v te ke).2)).2.2.2.1) ((forgF ma le pl sc 0 0 sp sg sk sv ((tellT ma le k v te ke).1) ((tellT ma le k v te ke).2)).2.2.2.2.1) ((forgF ma le pl sc 0 0 sp sg sk sv ((tellT ma le k v te ke).1) ((tellT ma le k v te ke).2)).1) og ++ wR cI r0 r1 r2 r3 r4 nu st le ((forgF ma le pl sc 0 0 sp sg sk sv ((tellT ma le k v te ke).1) ((tellT ma le k v te ke).2)).2.2.2.2.2.1) ma ds dl ((forgF ma le pl sc 0 0 sp sg sk sv ((tellT ma le k v te ke).1) ((tellT ma le k v te ke).2)).2.2.2.2.2.2)) := hD
      refine lv_iload hx hb dX0_assign_24 (lv_at hl 4 rfl) ?_
      refine lv_if_ne (tgt := 45) hx hb dX0_assign_26 (by decide) (fun c26 => ?_) (fun c26 => ?_)
      · have h26 := c26
        refine lv_aload_n hx hb dX0_assign_45 rfl (lv_at hl 0 rfl) ?_
        refine lv_aload_n hx hb dX0_assign_46 rfl (lv_at hl 0 rfl) ?_
        refine va_get (D := (dC, dI)) (ci := 0) (v := .ref p1) (C := RX0) (T := TX0) (N := 9) hx hb hts iX0 hown hK hP 0 rfl rfl 1 (by decide) l9 (fun _ h9 => h9) rfl dX0_assign_47 ?_
        refine lv_iload_n hx hb dX0_assign_50 rfl (lv_at hl 1 rfl) ?_
        refine mv_iald hx hb hK hP 1 0 rfl rfl (k := pl) (rfl) (hpl) (by decide) (v := ki pl) rfl dX0_assign_51 ?_
        refine lv_aload_n hx hb dX0_assign_52 rfl (lv_at hl 0 rfl) ?_
        refine va_get (D := (dC, dI)) (ci := 0) (v := .ref p2) (C := RX0) (T := TX0) (N := 9) hx hb hts iX0 hown hK hP 0 rfl rfl 2 (by decide) l15 (fun _ h9 => h9) rfl dX0_assign_53 ?_
        refine lv_iload_n hx hb dX0_assign_56 rfl (lv_at hl 1 rfl) ?_
        refine mv_iald hx hb hK hP 2 0 rfl rfl (k := pl) (rfl) (hpl) (by decide) (v := va pl) rfl dX0_assign_57 ?_
        have hP : va_P (dC, dI) vwCl ([] ++ (wP cI r0 p0 p1 p2 p3 p4 p5 p6 ki va ((forgF ma le pl sc 0 0 sp sg sk sv ((tellT ma le k v te ke).1) ((tellT ma le k v te ke).2)).2.1) ((forgF ma le pl sc 0 0 sp sg sk sv ((tellT ma le k v te ke).1) ((tellT ma le k v te ke).2)).2.2.1) ((forgF ma le pl sc 0 0 sp sg sk sv ((tellT ma le k v te ke).1) ((tellT ma le k v te ke).2)).2.2.2.1) ((forgF ma le pl sc 0 0 sp sg sk sv ((tellT ma le k v te ke).1) ((tellT ma le k v te ke).2)).2.2.2.2.1) ((forgF ma le pl sc 0 0 sp sg sk sv ((tellT ma le k v te ke).1) ((tellT ma le k v te ke).2)).1) og ++ wR cI r0 r1 r2 r3 r4 nu st le ((forgF ma le pl sc 0 0 sp sg sk sv ((tellT ma le k v te ke).1) ((tellT ma le k v te ke).2)).2.2.2.2.2.1) ma ds dl ((forgF ma le pl sc 0 0 sp sg sk sv ((tellT ma le k v te ke).1) ((tellT ma le k v te ke).2)).2.2.2.2.2.2))) _ := hP
        have hD : va_D A ([] ++ (wP cI r0 p0 p1 p2 p3 p4 p5 p6 ki va ((forgF ma le pl sc 0 0 sp sg sk sv ((tellT ma le k v te ke).1) ((tellT ma le k v te ke).2)).2.1) ((forgF ma le pl sc 0 0 sp sg sk sv ((tellT ma le k v te ke).1) ((tellT ma le k v te ke).2)).2.2.1) ((forgF ma le pl sc 0 0 sp sg sk sv ((tellT ma le k v te ke).1) ((tellT ma le k v te ke).2)).2.2.2.1) ((forgF ma le pl sc 0 0 sp sg sk sv ((tellT ma le k v te ke).1) ((tellT ma le k v te ke).2)).2.2.2.2.1) ((forgF ma le pl sc 0 0 sp sg sk sv ((tellT ma le k v te ke).1) ((tellT ma le k v te ke).2)).1) og ++ wR cI r0 r1 r2 r3 r4 nu st le ((forgF ma le pl sc 0 0 sp sg sk sv ((tellT ma le k v te ke).1) ((tellT ma le k v te ke).2)).2.2.2.2.2.1) ma ds dl ((forgF ma le pl sc 0 0 sp sg sk sv ((tellT ma le k v te ke).1) ((tellT ma le k v te ke).2)).2.2.2.2.2.2))) := hD
        refine m_wVv (As := [.int (ki pl), .int (va pl)]) (rest := []) ⟨hx, hb, hml, hown, hts⟩ (c_X0_untell l dC dI cI r0 p0 p1 p2 p3 p4 p5 p6 ki va ((forgF ma le pl sc 0 0 sp sg sk sv ((tellT ma le k v te ke).1) ((tellT ma le k v te ke).2)).2.1) ((forgF ma le pl sc 0 0 sp sg sk sv ((tellT ma le k v te ke).1) ((tellT ma le k v te ke).2)).2.2.1) ((forgF ma le pl sc 0 0 sp sg sk sv ((tellT ma le k v te ke).1) ((tellT ma le k v te ke).2)).2.2.2.1) ((forgF ma le pl sc 0 0 sp sg sk sv ((tellT ma le k v te ke).1) ((tellT ma le k v te ke).2)).2.2.2.2.1) ((forgF ma le pl sc 0 0 sp sg sk sv ((tellT ma le k v te ke).1) ((tellT ma le k v te ke).2)).1) og r1 r2 r3 r4 nu st le ((forgF ma le pl sc 0 0 sp sg sk sv ((tellT ma le k v te ke).1) ((tellT ma le k v te ke).2)).2.2.2.2.2.1) ma ds dl ((forgF ma le pl sc 0 0 sp sg sk sv ((tellT ma le k v te ke).1) ((tellT ma le k v te ke).2)).2.2.2.2.2.2) (ki pl) (va pl) hm) (cwV 2 hts gX0_assign_X0_untell rfl rfl rfl (by decide +kernel) ⟨Nat.le_of_ble_eq_true rfl, Nat.le_of_ble_eq_true rfl⟩) hP hK hD hS hA 0 0 rfl rfl rfl hl.1 rfl (Nat.le_of_ble_eq_true rfl) dX0_assign_58 ⟨Nat.zero_le _, Nat.zero_le _⟩ (fun u H locs hw hP hD hS => ?_)
        subst hw
        have hP : va_P (dC, dI) vwCl (wP cI r0 p0 p1 p2 p3 p4 p5 p6 ki va ((forgF ma le pl sc 0 0 sp sg sk sv ((tellT ma le k v te ke).1) ((tellT ma le k v te ke).2)).2.1) ((forgF ma le pl sc 0 0 sp sg sk sv ((tellT ma le k v te ke).1) ((tellT ma le k v te ke).2)).2.2.1) ((forgF ma le pl sc 0 0 sp sg sk sv ((tellT ma le k v te ke).1) ((tellT ma le k v te ke).2)).2.2.2.1) ((forgF ma le pl sc 0 0 sp sg sk sv ((tellT ma le k v te ke).1) ((tellT ma le k v te ke).2)).2.2.2.2.1) ((forgF ma le pl sc 0 0 sp sg sk sv ((tellT ma le k v te ke).1) ((tellT ma le k v te ke).2)).1) og ++ wR cI r0 r1 r2 r3 r4 nu st le ((untellT ma le (ki pl) (va pl) ((forgF ma le pl sc 0 0 sp sg sk sv ((tellT ma le k v te ke).1) ((tellT ma le k v te ke).2)).2.2.2.2.2.1) ((forgF ma le pl sc 0 0 sp sg sk sv ((tellT ma le k v te ke).1) ((tellT ma le k v te ke).2)).2.2.2.2.2.2)).1) ma ds dl ((untellT ma le (ki pl) (va pl) ((forgF ma le pl sc 0 0 sp sg sk sv ((tellT ma le k v te ke).1) ((tellT ma le k v te ke).2)).2.2.2.2.2.1) ((forgF ma le pl sc 0 0 sp sg sk sv ((tellT ma le k v te ke).1) ((tellT ma le k v te ke).2)).2.2.2.2.2.2)).2)) _ := hP
        have hD : va_D A (wP cI r0 p0 p1 p2 p3 p4 p5 p6 ki va ((forgF ma le pl sc 0 0 sp sg sk sv ((tellT ma le k v te ke).1) ((tellT ma le k v te ke).2)).2.1) ((forgF ma le pl sc 0 0 sp sg sk sv ((tellT ma le k v te ke).1) ((tellT ma le k v te ke).2)).2.2.1) ((forgF ma le pl sc 0 0 sp sg sk sv ((tellT ma le k v te ke).1) ((tellT ma le k v te ke).2)).2.2.2.1) ((forgF ma le pl sc 0 0 sp sg sk sv ((tellT ma le k v te ke).1) ((tellT ma le k v te ke).2)).2.2.2.2.1) ((forgF ma le pl sc 0 0 sp sg sk sv ((tellT ma le k v te ke).1) ((tellT ma le k v te ke).2)).1) og ++ wR cI r0 r1 r2 r3 r4 nu st le ((untellT ma le (ki pl) (va pl) ((forgF ma le pl sc 0 0 sp sg sk sv ((tellT ma le k v te ke).1) ((tellT ma le k v te ke).2)).2.2.2.2.2.1) ((forgF ma le pl sc 0 0 sp sg sk sv ((tellT ma le k v te ke).1) ((tellT ma le k v te ke).2)).2.2.2.2.2.2)).1) ma ds dl ((untellT ma le (ki pl) (va pl) ((forgF ma le pl sc 0 0 sp sg sk sv ((tellT ma le k v te ke).1) ((tellT ma le k v te ke).2)).2.2.2.2.2.1) ((forgF ma le pl sc 0 0 sp sg sk sv ((tellT ma le k v te ke).1) ((tellT ma le k v te ke).2)).2.2.2.2.2.2)).2)) := hD
        refine lv_aload_n hx hb dX0_assign_61 rfl (lv_at hl 0 rfl) ?_
        refine va_get (D := (dC, dI)) (ci := 0) (v := .ref p1) (C := RX0) (T := TX0) (N := 9) hx hb hts iX0 hown hK hP 0 rfl rfl 1 (by decide) l9 (fun _ h9 => h9) rfl dX0_assign_62 ?_
        refine lv_iload_n hx hb dX0_assign_65 rfl (lv_at hl 1 rfl) ?_
        refine lv_iload_n hx hb dX0_assign_66 rfl (lv_at hl 2 rfl) ?_
        refine mv_iast hx hb hK hP hD hS 1 0 rfl rfl (k := pl) (rfl) (hpl) (by decide) (f' := upd ki pl k) (rfl) dX0_assign_67 (fun H locs hP hD hS => ?_)
        have hP : va_P (dC, dI) vwCl (wP cI r0 p0 p1 p2 p3 p4 p5 p6 (upd ki pl k) va ((forgF ma le pl sc 0 0 sp sg sk sv ((tellT ma le k v te ke).1) ((tellT ma le k v te ke).2)).2.1) ((forgF ma le pl sc 0 0 sp sg sk sv ((tellT ma le k v te ke).1) ((tellT ma le k v te ke).2)).2.2.1) ((forgF ma le pl sc 0 0 sp sg sk sv ((tellT ma le k v te ke).1) ((tellT ma le k v te ke).2)).2.2.2.1) ((forgF ma le pl sc 0 0 sp sg sk sv ((tellT ma le k v te ke).1) ((tellT ma le k v te ke).2)).2.2.2.2.1) ((forgF ma le pl sc 0 0 sp sg sk sv ((tellT ma le k v te ke).1) ((tellT ma le k v te ke).2)).1) og ++ wR cI r0 r1 r2 r3 r4 nu st le ((untellT ma le (ki pl) (va pl) ((forgF ma le pl sc 0 0 sp sg sk sv ((tellT ma le k v te ke).1) ((tellT ma le k v te ke).2)).2.2.2.2.2.1) ((forgF ma le pl sc 0 0 sp sg sk sv ((tellT ma le k v te ke).1) ((tellT ma le k v te ke).2)).2.2.2.2.2.2)).1) ma ds dl ((untellT ma le (ki pl) (va pl) ((forgF ma le pl sc 0 0 sp sg sk sv ((tellT ma le k v te ke).1) ((tellT ma le k v te ke).2)).2.2.2.2.2.1) ((forgF ma le pl sc 0 0 sp sg sk sv ((tellT ma le k v te ke).1) ((tellT ma le k v te ke).2)).2.2.2.2.2.2)).2)) _ := hP
        have hD : va_D A (wP cI r0 p0 p1 p2 p3 p4 p5 p6 (upd ki pl k) va ((forgF ma le pl sc 0 0 sp sg sk sv ((tellT ma le k v te ke).1) ((tellT ma le k v te ke).2)).2.1) ((forgF ma le pl sc 0 0 sp sg sk sv ((tellT ma le k v te ke).1) ((tellT ma le k v te ke).2)).2.2.1) ((forgF ma le pl sc 0 0 sp sg sk sv ((tellT ma le k v te ke).1) ((tellT ma le k v te ke).2)).2.2.2.1) ((forgF ma le pl sc 0 0 sp sg sk sv ((tellT ma le k v te ke).1) ((tellT ma le k v te ke).2)).2.2.2.2.1) ((forgF ma le pl sc 0 0 sp sg sk sv ((tellT ma le k v te ke).1) ((tellT ma le k v te ke).2)).1) og ++ wR cI r0 r1 r2 r3 r4 nu st le ((untellT ma le (ki pl) (va pl) ((forgF ma le pl sc 0 0 sp sg sk sv ((tellT ma le k v te ke).1) ((tellT ma le k v te ke).2)).2.2.2.2.2.1) ((forgF ma le pl sc 0 0 sp sg sk sv ((tellT ma le k v te ke).1) ((tellT ma le k v te ke).2)).2.2.2.2.2.2)).1) ma ds dl ((untellT ma le (ki pl) (va pl) ((forgF ma le pl sc 0 0 sp sg sk sv ((tellT ma le k v te ke).1) ((tellT ma le k v te ke).2)).2.2.2.2.2.1) ((forgF ma le pl sc 0 0 sp sg sk sv ((tellT ma le k v te ke).1) ((tellT ma le k v te ke).2)).2.2.2.2.2.2)).2)) := hD
        refine lv_aload_n hx hb dX0_assign_68 rfl (lv_at hl 0 rfl) ?_
        refine va_get (D := (dC, dI)) (ci := 0) (v := .ref p2) (C := RX0) (T := TX0) (N := 9) hx hb hts iX0 hown hK hP 0 rfl rfl 2 (by decide) l15 (fun _ h9 => h9) rfl dX0_assign_69 ?_
        refine lv_iload_n hx hb dX0_assign_72 rfl (lv_at hl 1 rfl) ?_
        refine lv_iload_n hx hb dX0_assign_73 rfl (lv_at hl 3 rfl) ?_
        refine mv_iast hx hb hK hP hD hS 2 0 rfl rfl (k := pl) (rfl) (hpl) (by decide) (f' := upd va pl v) (rfl) dX0_assign_74 (fun H locs hP hD hS => ?_)
        have hP : va_P (dC, dI) vwCl (wP cI r0 p0 p1 p2 p3 p4 p5 p6 (upd ki pl k) (upd va pl v) ((forgF ma le pl sc 0 0 sp sg sk sv ((tellT ma le k v te ke).1) ((tellT ma le k v te ke).2)).2.1) ((forgF ma le pl sc 0 0 sp sg sk sv ((tellT ma le k v te ke).1) ((tellT ma le k v te ke).2)).2.2.1) ((forgF ma le pl sc 0 0 sp sg sk sv ((tellT ma le k v te ke).1) ((tellT ma le k v te ke).2)).2.2.2.1) ((forgF ma le pl sc 0 0 sp sg sk sv ((tellT ma le k v te ke).1) ((tellT ma le k v te ke).2)).2.2.2.2.1) ((forgF ma le pl sc 0 0 sp sg sk sv ((tellT ma le k v te ke).1) ((tellT ma le k v te ke).2)).1) og ++ wR cI r0 r1 r2 r3 r4 nu st le ((untellT ma le (ki pl) (va pl) ((forgF ma le pl sc 0 0 sp sg sk sv ((tellT ma le k v te ke).1) ((tellT ma le k v te ke).2)).2.2.2.2.2.1) ((forgF ma le pl sc 0 0 sp sg sk sv ((tellT ma le k v te ke).1) ((tellT ma le k v te ke).2)).2.2.2.2.2.2)).1) ma ds dl ((untellT ma le (ki pl) (va pl) ((forgF ma le pl sc 0 0 sp sg sk sv ((tellT ma le k v te ke).1) ((tellT ma le k v te ke).2)).2.2.2.2.2.1) ((forgF ma le pl sc 0 0 sp sg sk sv ((tellT ma le k v te ke).1) ((tellT ma le k v te ke).2)).2.2.2.2.2.2)).2)) _ := hP
        have hD : va_D A (wP cI r0 p0 p1 p2 p3 p4 p5 p6 (upd ki pl k) (upd va pl v) ((forgF ma le pl sc 0 0 sp sg sk sv ((tellT ma le k v te ke).1) ((tellT ma le k v te ke).2)).2.1) ((forgF ma le pl sc 0 0 sp sg sk sv ((tellT ma le k v te ke).1) ((tellT ma le k v te ke).2)).2.2.1) ((forgF ma le pl sc 0 0 sp sg sk sv ((tellT ma le k v te ke).1) ((tellT ma le k v te ke).2)).2.2.2.1) ((forgF ma le pl sc 0 0 sp sg sk sv ((tellT ma le k v te ke).1) ((tellT ma le k v te ke).2)).2.2.2.2.1) ((forgF ma le pl sc 0 0 sp sg sk sv ((tellT ma le k v te ke).1) ((tellT ma le k v te ke).2)).1) og ++ wR cI r0 r1 r2 r3 r4 nu st le ((untellT ma le (ki pl) (va pl) ((forgF ma le pl sc 0 0 sp sg sk sv ((tellT ma le k v te ke).1) ((tellT ma le k v te ke).2)).2.2.2.2.2.1) ((forgF ma le pl sc 0 0 sp sg sk sv ((tellT ma le k v te ke).1) ((tellT ma le k v te ke).2)).2.2.2.2.2.2)).1) ma ds dl ((untellT ma le (ki pl) (va pl) ((forgF ma le pl sc 0 0 sp sg sk sv ((tellT ma le k v te ke).1) ((tellT ma le k v te ke).2)).2.2.2.2.2.1) ((forgF ma le pl sc 0 0 sp sg sk sv ((tellT ma le k v te ke).1) ((tellT ma le k v te ke).2)).2.2.2.2.2.2)).2)) := hD
        exact hret ((upd ki pl k, upd va pl v, (forgF ma le pl sc 0 0 sp sg sk sv ((tellT ma le k v te ke).1) ((tellT ma le k v te ke).2)).2.1, (forgF ma le pl sc 0 0 sp sg sk sv ((tellT ma le k v te ke).1) ((tellT ma le k v te ke).2)).2.2.1, (forgF ma le pl sc 0 0 sp sg sk sv ((tellT ma le k v te ke).1) ((tellT ma le k v te ke).2)).2.2.2.1, (forgF ma le pl sc 0 0 sp sg sk sv ((tellT ma le k v te ke).1) ((tellT ma le k v te ke).2)).2.2.2.2.1, (forgF ma le pl sc 0 0 sp sg sk sv ((tellT ma le k v te ke).1) ((tellT ma le k v te ke).2)).1, (untellT ma le (ki pl) (va pl) ((forgF ma le pl sc 0 0 sp sg sk sv ((tellT ma le k v te ke).1) ((tellT ma le k v te ke).2)).2.2.2.2.2.1) ((forgF ma le pl sc 0 0 sp sg sk sv ((tellT ma le k v te ke).1) ((tellT ma le k v te ke).2)).2.2.2.2.2.2)).1, (untellT ma le (ki pl) (va pl) ((forgF ma le pl sc 0 0 sp sg sk sv ((tellT ma le k v te ke).1) ((tellT ma le k v te ke).2)).2.2.2.2.2.1) ((forgF ma le pl sc 0 0 sp sg sk sv ((tellT ma le k v te ke).1) ((tellT ma le k v te ke).2)).2.2.2.2.2.2)).2)) (by unfold assignF; rw [if_neg c16]) hP hD hS dX0_assign_75
      · exact absurd c26 c16
  · exact absurd (b2i_0 c4) (by rw [isR_nI (by decide) hpl]; decide)
end
section
/-! what a throw rests on beside the tables' good words -/
def xN : String := "java/lang/IndexOutOfBoundsException"
def xB : List Cond := [.declares (Bundle.initS "java/lang/RuntimeException"), .declares (Bundle.initS "java/lang/Exception"), .declares (Bundle.initS Bundle.tN), .castable xN xN]
def xL : List Cond := vx_atS RX2 53 xN ["java/lang/RuntimeException", "java/lang/Exception"]
theorem xL_bad : ∀ w ∈ xL.filter (fun w => !goodWord w), w ∈ xB := by decide +kernel
theorem xL_ot : ∀ w ∈ Cond.classLink RX2 49 xN :: Cond.initialized xN :: xL, vx_ot w = true := by decide +kernel
def xS (U : State) : Prop := (∃ a, vk_R RX2 51 "no such name" a U) ∧ (∃ a, vk_R RX2 70 "no such cell" a U) ∧ (∃ a, vk_R RX2 72 "no such name or what" a U) ∧ ∃ a, vk_R RX2 81 "no such number" a U
def xEnv (A : Nat → Prop) (U : State) (H : Heap) : Prop := (vx_Zq Bundle.tN "UNASSIGNED_STACK" Bundle.steD A U H ∧ vx_Zq Bundle.tN "SUPPRESSED_SENTINEL" Bundle.listD A U H) ∧ (∀ w ∈ xB, va_Nw w U) ∧ xS U
theorem xB_moved {u U : State} (hvm : u.vm.Alike U.vm) (h : ∀ w ∈ xB, va_Nw w u) : ∀ w ∈ xB, va_Nw w U := by
  have tr : ∀ {c : Cond}, c.onTables = true → c.before #[] (u.setVm U.vm) = true → c.before #[] U = true := by
    intro c hc h
    have e := Cond.onTables_vm (A := #[]) (A' := #[]) (U := u) (U' := U) U.vm c hc
    have hU : U.setVm U.vm = U := rfl
    rw [hU] at e
    rw [← e]
    exact h
  intro w hw
  have h1 : w.before #[] u = true := h w hw
  simp only [xB, List.mem_cons, List.not_mem_nil, or_false] at hw
  rcases hw with rfl | rfl | rfl | rfl
  · exact tr rfl (by rw [Cond.declares_setVm hvm]; exact h1)
  · exact tr rfl (by rw [Cond.declares_setVm hvm]; exact h1)
  · exact tr rfl (by rw [Cond.declares_setVm hvm]; exact h1)
  · exact tr rfl (by rw [Cond.castable_setVm hvm]; exact h1)
theorem xEnv.kept {A : Nat → Prop} {U : State} {H H1 : Heap} (h : xEnv A U H) (hq : ∀ a : Nat, a < H.size → ¬ A a → H1[a]? = H[a]?) : xEnv A U H1 := ⟨⟨vx_Zq.kept h.1.1 hq, vx_Zq.kept h.1.2 hq⟩, h.2⟩
theorem xEnv.narrow {A B : Nat → Prop} {U : State} {H : Heap} (h : xEnv A U H) (hAB : ∀ q, B q → A q) : xEnv B U H := ⟨⟨vx_Zq.narrow h.1.1 hAB, vx_Zq.narrow h.1.2 hAB⟩, h.2⟩
theorem xS.warm {u U : State} (hW : u.WarmedH U.vm) (h : xS u) : xS U := by
  obtain ⟨⟨a, ha⟩, ⟨b, hb⟩, ⟨c, hc⟩, ⟨d, hd⟩⟩ := h
  exact ⟨⟨a, vk_R.warm hW ha⟩, ⟨b, vk_R.warm hW hb⟩, ⟨c, vk_R.warm hW hc⟩, ⟨d, vk_R.warm hW hd⟩⟩
theorem xS.same {u U : State} (hv : U.vm = u.vm) (h : xS u) : xS U := by
  obtain ⟨⟨a, ha⟩, ⟨b, hb⟩, ⟨c, hc⟩, ⟨d, hd⟩⟩ := h
  exact ⟨⟨a, vk_R.same hv ha⟩, ⟨b, vk_R.same hv hb⟩, ⟨c, vk_R.same hv hc⟩, ⟨d, vk_R.same hv hd⟩⟩
theorem xEnv.warm {A : Nat → Prop} {u U : State} {H : Heap} (hW : u.WarmedH U.vm) (h : xEnv A u H) : xEnv A U H := ⟨⟨vx_Zq.moved hW.alike h.1.1, vx_Zq.moved hW.alike h.1.2⟩, xB_moved hW.alike h.2.1, xS.warm hW h.2.2⟩
theorem xEnv.same {A : Nat → Prop} {u U : State} {H : Heap} (hv : U.vm = u.vm) (h : xEnv A u H) : xEnv A U H := ⟨⟨vx_Zq.moved (by rw [hv]; exact Vm.Alike.refl _) h.1.1, vx_Zq.moved (by rw [hv]; exact Vm.Alike.refl _) h.1.2⟩, xB_moved (by rw [hv]; exact Vm.Alike.refl _) h.2.1, xS.same hv h.2.2⟩
/-- a writer that may throw instead, and then has changed nothing -/
def mPx (D : va_G) (cI : ClassId) (wc : va_W) (sz : Nat) : State → Prop := fun U => mPw D cI wc sz U ∧ xEnv (va_A wc sz) U U.heap
def mXi {S : Type} (l : Launch) (y : MethodName) (ws : List Cond) (rm : Room) (D : va_G) (cI : ClassId) (av : List Value) (wc : va_W) (post : Int32 → S → Prop) (w1 : S → va_W) (px : Prop) : Prop := ∀ sz : Nat, vx_Met l y ws rm (va_Pc av (mPx D cI wc sz)) (va_Qi post (fun u => mBw D cI (va_A wc sz) (w1 u)) (va_A wc sz)) (vx_X (fun _ : Unit => px) (fun E _ t => E = xN ∧ mBw D cI (va_A wc sz) wc t) (va_A wc sz)) 1 6 (va_A wc sz)
theorem mPx_blind {D : va_G} {cI : ClassId} {wc : va_W} {sz : Nat} {av : List Value} : FrameBlind (va_Pc av (mPx D cI wc sz)) := fun a U g mk q => by
  obtain ⟨q0, ⟨q1, qP, qK, qD⟩, qE⟩ := q
  exact ⟨q0, ⟨q1, qP, va_K.moved (u := U) (U := U.calling g mk a) (Vm.Alike.refl U.vm) qK, qD⟩, xEnv.same (u := U) (U := U.calling g mk a) rfl qE⟩
theorem m_ofXi {S0 : Type} {l : Launch} (hl0 : l.stackTraces = false) {y : MethodName} {ws ws' : List Cond} {rm : Room} {D : va_G} {cI : ClassId} {av : List Value} {wc : va_W} {post : Int32 → S0 → Prop} {w1 : S0 → va_W} {px : Prop} {cc : ByteArray} {maxL : Nat} {ty : FieldType} (hy : plainName y.cls = true) (hyc : y.cls = RX2) (hw : ws = Cond.code y cc maxL (some ty) :: ws') (hL : (lg_sl av).length ≤ maxL)
    (hrc : rm.cells = 1) (hrs : rm.slots = 6) (hrf : 6 ≤ rm.frames) (hrl : 91 ≤ rm.locals)
    (hk : Cond.classLink RX2 49 xN ∈ ws) (hi : Cond.initialized xN ∈ ws) (hg : ∀ w ∈ xL.filter goodWord, w ∈ ws)
    (body : ∀ (p : Program) (e : Env) (s : State) (m : MethodId) (args : Array Value) (below : List Frame) (meth : Method) (c : Code) (ls : Array Slot) (A : Nat → Prop) (Q : State → Prop), p.tables.exec = Jvm.exec → c.code = cc → (∀ w ∈ ws, w.before args s = true) → s.vm.findClass y.cls = some m.cls → c.maxLocals = maxL → va_P D vwCl wc s.heap → va_K D vwCl [(cI, .int)] s → va_D A wc → (∀ q : Nat, s.heap.size ≤ q → A q) → va_S A s.heap s.heap [] → lv_has ls maxL (lv_args 0 av) →
      (∀ {pc : Nat} {ls : Array Slot} {H : Heap} {locs : List Loc} (v : Int32) (u : S0), narrow ty (.int v) = .int v → post v u → va_P D vwCl (w1 u) H → va_D A (w1 u) → va_S A s.heap H locs → decode cc pc = .ok (.ireturn, 1) → W p l e rm s m args below meth c H locs 0 0 Q (F0 m pc ls [.int v])) →
      xS s →
      (∀ {pc : Nat} {ls : Array Slot} {rest : List Value} (is sa : Nat) (text : String), px → vk_R RX2 is text sa s → ls.size = maxL → (rest.map fun v => v.category).sum ≤ 8 → decode cc pc = .ok (.new 49, 3) → decode cc (pc + 3) = .ok (.dup, 1) → decode cc (pc + 4) = .ok (.ldc is, 2) → decode cc (pc + 6) = .ok (.invokespecial 53, 3) → decode cc (pc + 9) = .ok (.athrow, 1) → W p l e rm s m args below meth c s.heap [] 0 0 Q (F0 m pc ls rest)) →
      W p l e rm s m args below meth c s.heap [] 0 0 Q (F0 m 0 ls [])) : mXi l y ws rm D cI av wc post w1 px := by
  intro sz
  refine vx_ofW (cc := cc) (maxL := maxL) (ret := some ty) hy hw ?_
  intro p e s m args below meth c s₁ B hml hno hv
  obtain ⟨rfl, ⟨rfl, hP, hK, hD0⟩, hE⟩ := hv
  rw [lg_entry_eq]
  have hts := atoms_spec (ws := ws) B.pre
  refine body p e s m _ below meth c _ _ _ B.exec B.bytes hts (findClass_of_methodNamed B.named) hml hP hK hD0.self (fun q h => Or.inr h) va_S.rf (lv_entry av hL) (fun v u hn hp hP hD hS hd => ?_) hE.2.2 (fun is sa text hpx hstr hsz hrest d0 d3 d4 d6 d9 => ?_)
  · exact vx_ret (W.widen (k := 1) (n := 6) (Nat.zero_le _) (Nat.zero_le _) (m_reti B.exec B.bytes B.returns B.notSynchronized hn u hp hP hK hD hS hd))
  · refine vx_throwS B.exec B.bytes hl0 (own := RX2) (cls := xN) (text := text) (names := ["java/lang/RuntimeException", "java/lang/Exception"]) (ik := 49) (is := is) (ic := 53) (A := va_A wc s.heap.size) (by rw [← hyc]; exact findClass_of_methodNamed B.named) (by decide +kernel) (by decide +kernel) (hts _ hk) (hts _ hi) hstr
      (vx_hat (B := xB) (fun w h => hts w (hg w h)) xL_bad (fun w h => va_Nw.use (by revert w; decide +kernel) (hE.2.1 w h))) xL_ot hE.1.1 hE.1.2 va_S.rf (hsz.trans hml.symm) d0 d3 d4 d6 d9 (fun x hx => absurd (hno x hx) id) ?_ ?_ ?_ ?_ B.notSynchronized (fun t hvm hz hk => ?_) (fun z h => by cases h) (Nat.le_refl _) (Nat.le_refl _)
    · show 2 + 3 < rm.frames
      omega
    · show _ + 82 ≤ rm.locals
      omega
    · show 0 + 1 ≤ rm.cells
      omega
    · show 0 + 6 ≤ rm.slots
      omega
    · refine ⟨(), hpx, ⟨rfl, ?_, va_K.moved hvm hK, hD0.self⟩, hz, fun q h _ => hk q h⟩
      exact hP.kept (fun k q hq => hk q.1 (hP k q hq).lt)
end
section
def kp (x : Int32) (lst : Nat) (o g : Nat) : Bool := (decide (¬ x < 0) && decide (¬ nI o = x)) || decide (g < lst)
def encO : Option Nat → Int32
  | none => -1
  | some k => nI k
theorem lastF_lt {ofs : Nat → Nat} {w : Nat} : ∀ {n k : Nat}, lastF ofs w n = some k → k < n ∧ ofs k = w := by
  intro n
  induction n with
  | zero => intro k h; cases h
  | succ n ih =>
    intro k h
    unfold lastF at h
    by_cases e : ofs n = w
    · rw [if_pos e] at h
      cases h
      exact ⟨by omega, e⟩
    · rw [if_neg e] at h
      exact ⟨by have := (ih h).1; omega, (ih h).2⟩
theorem encO_ge {x : Option Nat} (h : 0 ≤ encO x) : ∃ k, x = some k := by
  cases x with
  | none => exact absurd h (by decide)
  | some k => exact ⟨k, rfl⟩
theorem encO_lt {ofs : Nat → Nat} {w n : Nat} (hn : n < 2 ^ 31) (h : ¬ 0 ≤ encO (lastF ofs w n)) : lastF ofs w n = none := by
  cases hL : lastF ofs w n with
  | none => rfl
  | some k =>
    rw [hL] at h
    exact absurd (nI_pos' (by have := (lastF_lt hL).1; omega)) h
theorem dropF_le {keep : Nat → Nat → Bool} : ∀ {n k j : Nat} {ofs grp : Nat → Nat} {kd vl : Nat → Int32}, (dropF keep n k j ofs grp kd vl).1 ≤ j + n := by
  intro n
  induction n with
  | zero => intro k j ofs grp kd vl; exact Nat.le_refl _
  | succ n ih =>
    intro k j ofs grp kd vl
    unfold dropF
    by_cases e : keep (ofs k) (grp k) = true
    · rw [if_pos e]
      have := ih (k := k + 1) (j := j + 1) (ofs := va_up ofs j (ofs k)) (grp := va_up grp j (grp k)) (kd := upd kd j (kd k)) (vl := upd vl j (vl k))
      omega
    · rw [if_neg e]
      have := ih (k := k + 1) (j := j) (ofs := ofs) (grp := grp) (kd := kd) (vl := vl)
      omega
/-- the reference's assign -/
def asgM (w : Nat) (k v g : Int32) (gr co : Nat) (ofs grp : Nat → Nat) (kd vl : Nat → Int32) : Nat × (Nat → Nat) × (Nat → Nat) × (Nat → Int32) × (Nat → Int32) :=
  ((dropF (kp (nI w) (if g = 0 then gr else 0)) co 0 0 ofs grp kd vl).1 + 1,
   va_up (dropF (kp (nI w) (if g = 0 then gr else 0)) co 0 0 ofs grp kd vl).2.1 (dropF (kp (nI w) (if g = 0 then gr else 0)) co 0 0 ofs grp kd vl).1 w,
   va_up (dropF (kp (nI w) (if g = 0 then gr else 0)) co 0 0 ofs grp kd vl).2.2.1 (dropF (kp (nI w) (if g = 0 then gr else 0)) co 0 0 ofs grp kd vl).1 (if g = 0 then gr else 0),
   upd (dropF (kp (nI w) (if g = 0 then gr else 0)) co 0 0 ofs grp kd vl).2.2.2.1 (dropF (kp (nI w) (if g = 0 then gr else 0)) co 0 0 ofs grp kd vl).1 k,
   upd (dropF (kp (nI w) (if g = 0 then gr else 0)) co 0 0 ofs grp kd vl).2.2.2.2 (dropF (kp (nI w) (if g = 0 then gr else 0)) co 0 0 ofs grp kd vl).1 v)
def tolM (ofs : Nat → Nat) (kd vl : Nat → Int32) (row : Nat) : Nat → Bool
  | 0 => false
  | n + 1 => tolM ofs kd vl row n || (decide (3000 ≤ ofs n) && decide (ofs n < 4000) && decide (kd n = 3) && decide (vl n = nI row))
/-- the sizes of the rows 1 .. m that are told -/
def keptM (ofs : Nat → Nat) (kd vl : Nat → Int32) (fr : Nat → Nat) (co : Nat) : Nat → Int32
  | 0 => 0
  | m + 1 => keptM ofs kd vl fr co m + (if tolM ofs kd vl (m + 1) co then sizeM fr (m + 1) else 0)
set_option maxHeartbeats 4000000 in
set_option maxRecDepth 100000 in
theorem c_X3_isCell (l : Launch) (dC : Nat → ClassId) (dI : Nat → Nat → Nat) (cI : ClassId) (x : Int32)  : mRi l yX3_isCell wsX3_isCell ({ frames := 0, cells := 0, slots := 0, locals := 0 }) (dC, dI) cI [.int x] ([]) (fun r => r = b2i (isR 2366 x)) := by
  refine m_ofR (cc := cX3_isCell) (maxL := 1) (by decide) rfl (Nat.le_of_ble_eq_true rfl) ?_
  intro p e s m args below meth c ls Q hx hb hts hown hml hP hK hl hret
  have hown : s.vm.findClass RX3 = some m.cls := hown
  have hl : lv_has ls 1 [(0, .int x)] := hl
  refine lv_iload_n hx hb dX3_isCell_0 rfl (lv_at hl 0 rfl) ?_
  refine lv_if_lt (tgt := 15) hx hb dX3_isCell_1 (by decide) (fun c1 => ?_) (fun c1 => ?_)
  · refine lv_iconst (v := 0) hx hb dX3_isCell_15 (by decide) ?_
    exact hret 0 (rfl) (by rw [isR_f1 c1]; rfl) dX3_isCell_16
  · refine lv_iload_n hx hb dX3_isCell_4 rfl (lv_at hl 0 rfl) ?_
    refine lv_sipush (v := nI 2366) hx hb dX3_isCell_5 (by decide) ?_
    refine lv_icmp_ge (tgt := 15) hx hb dX3_isCell_8 (by decide) (fun c8 => ?_) (fun c8 => ?_)
    · refine lv_iconst (v := 0) hx hb dX3_isCell_15 (by decide) ?_
      exact hret 0 (rfl) (by rw [isR_f2 c8]; rfl) dX3_isCell_16
    · refine lv_iconst (v := 1) hx hb dX3_isCell_11 (by decide) ?_
      refine lv_goto (tgt := 16) hx hb dX3_isCell_12 (by decide) ?_
      exact hret 1 (rfl) (by rw [isR_t c1 c8]; rfl) dX3_isCell_16
set_option maxHeartbeats 4000000 in
set_option maxRecDepth 100000 in
theorem c_X3_isName (l : Launch) (dC : Nat → ClassId) (dI : Nat → Nat → Nat) (cI : ClassId) (x : Int32)  : mRi l yX3_isName wsX3_isName ({ frames := 0, cells := 0, slots := 0, locals := 0 }) (dC, dI) cI [.int x] ([]) (fun r => r = b2i (isR 1000 x)) := by
  refine m_ofR (cc := cX3_isName) (maxL := 1) (by decide) rfl (Nat.le_of_ble_eq_true rfl) ?_
  intro p e s m args below meth c ls Q hx hb hts hown hml hP hK hl hret
  have hown : s.vm.findClass RX3 = some m.cls := hown
  have hl : lv_has ls 1 [(0, .int x)] := hl
  refine lv_iload_n hx hb dX3_isName_0 rfl (lv_at hl 0 rfl) ?_
  refine lv_if_lt (tgt := 15) hx hb dX3_isName_1 (by decide) (fun c1 => ?_) (fun c1 => ?_)
  · refine lv_iconst (v := 0) hx hb dX3_isName_15 (by decide) ?_
    exact hret 0 (rfl) (by rw [isR_f1 c1]; rfl) dX3_isName_16
  · refine lv_iload_n hx hb dX3_isName_4 rfl (lv_at hl 0 rfl) ?_
    refine lv_sipush (v := nI 1000) hx hb dX3_isName_5 (by decide) ?_
    refine lv_icmp_ge (tgt := 15) hx hb dX3_isName_8 (by decide) (fun c8 => ?_) (fun c8 => ?_)
    · refine lv_iconst (v := 0) hx hb dX3_isName_15 (by decide) ?_
      exact hret 0 (rfl) (by rw [isR_f2 c8]; rfl) dX3_isName_16
    · refine lv_iconst (v := 1) hx hb dX3_isName_11 (by decide) ?_
      refine lv_goto (tgt := 16) hx hb dX3_isName_12 (by decide) ?_
      exact hret 1 (rfl) (by rw [isR_t c1 c8]; rfl) dX3_isName_16
set_option maxHeartbeats 4000000 in
set_option maxRecDepth 100000 in
theorem c_X3_thrown (l : Launch) (dC : Nat → ClassId) (dI : Nat → Nat → Nat) (cI : ClassId) (m0 m1 m2 m3 m4 m5 m6 : Nat) (th : Int32) (gr co : Nat) (ofs grp : Nat → Nat) (kd vl : Nat → Int32) (ro : Nat) (fr : Nat → Nat) (nm : Nat → Int32) (dr : Nat)   : mRi l yX3_thrown wsX3_thrown ({ frames := 0, cells := 0, slots := 0, locals := 0 }) (dC, dI) cI [.ref m0] (wM cI m0 m1 m2 m3 m4 m5 m6 th gr co ofs grp kd vl ro fr nm dr) (fun r => r = th) := by
  refine m_ofR (cc := cX3_thrown) (maxL := 1) (by decide) rfl (Nat.le_of_ble_eq_true rfl) ?_
  intro p e s m args below meth c ls Q hx hb hts hown hml hP hK hl hret
  have hown : s.vm.findClass RX3 = some m.cls := hown
  have hl : lv_has ls 1 [(0, .ref m0)] := hl
  have l32 := hts (.fieldLink RX3 32 "GroupDeskModel" "thrown" "I") (by decide +kernel)
  have iX3 : ∀ w ∈ u_ws RX3 TX3 11, w ∈ wsX3_thrown := by decide +kernel
  refine lv_aload_n hx hb dX3_thrown_0 rfl (lv_at hl 0 rfl) ?_
  refine va_get (D := (dC, dI)) (ci := 3) (v := .int th) (C := RX3) (T := TX3) (N := 11) hx hb hts iX3 hown hK hP 0 rfl rfl 0 (by decide) l32 (fun _ h9 => h9) rfl dX3_thrown_1 ?_
  exact hret th (rfl) (rfl) dX3_thrown_4
set_option maxHeartbeats 4000000 in
set_option maxRecDepth 100000 in
theorem c_X3_fails (l : Launch) (dC : Nat → ClassId) (dI : Nat → Nat → Nat) (cI : ClassId) (m0 m1 m2 m3 m4 m5 m6 : Nat) (th : Int32) (gr co : Nat) (ofs grp : Nat → Nat) (kd vl : Nat → Int32) (ro : Nat) (fr : Nat → Nat) (nm : Nat → Int32) (dr : Nat)   : mWi l yX3_fails wsX3_fails ({ frames := 0, cells := 0, slots := 0, locals := 0 }) (dC, dI) cI [.ref m0] (wM cI m0 m1 m2 m3 m4 m5 m6 th gr co ofs grp kd vl ro fr nm dr) (fun r u => r = 0 ∧ u = 1) (fun u : Int32 => wM cI m0 m1 m2 m3 m4 m5 m6 u gr co ofs grp kd vl ro fr nm dr) := by
  refine m_ofWi (cc := cX3_fails) (maxL := 1) (by decide) rfl (Nat.le_of_ble_eq_true rfl) ?_
  intro p e s m args below meth c ls A Q hx hb hts hown hml hP hK hD hA hS hl hret
  have hown : s.vm.findClass RX3 = some m.cls := hown
  have hl : lv_has ls 1 [(0, .ref m0)] := hl
  have l32 := hts (.fieldLink RX3 32 "GroupDeskModel" "thrown" "I") (by decide +kernel)
  have iX3 : ∀ w ∈ u_ws RX3 TX3 11, w ∈ wsX3_fails := by decide +kernel
  refine lv_aload_n hx hb dX3_fails_0 rfl (lv_at hl 0 rfl) ?_
  refine lv_iconst (v := 1) hx hb dX3_fails_1 (by decide) ?_
  refine va_put (D := (dC, dI)) (ci := 3) (v := .int 1) (ty := .int) (C := RX3) (T := TX3) (N := 11) hx hb hts iX3 tyX3 tyX3_ok nmX3 hown hK hP hD hS 0 rfl rfl 0 (by decide) l32 (fun _ h9 => h9) rfl (by decide +kernel) rfl rfl (Nat.le_of_ble_eq_true rfl) dX3_fails_2 (fun H locs hP hD hS => ?_)
  have hP : va_P (dC, dI) vwCl (wM cI m0 m1 m2 m3 m4 m5 m6 1 gr co ofs grp kd vl ro fr nm dr) _ := hP
  have hD : va_D A (wM cI m0 m1 m2 m3 m4 m5 m6 1 gr co ofs grp kd vl ro fr nm dr) := hD
  refine lv_iconst (v := 0) hx hb dX3_fails_5 (by decide) ?_
  exact hret 0 1 (rfl) (⟨rfl, rfl⟩) hP hD hS dX3_fails_6
set_option maxHeartbeats 4000000 in
set_option maxRecDepth 100000 in
theorem c_X3_drop (l : Launch) (dC : Nat → ClassId) (dI : Nat → Nat → Nat) (cI : ClassId) (m0 m1 m2 m3 m4 m5 m6 : Nat) (th : Int32) (gr co : Nat) (ofs grp : Nat → Nat) (kd vl : Nat → Int32) (ro : Nat) (fr : Nat → Nat) (nm : Nat → Int32) (dr : Nat) (x : Int32) (lst : Nat) (hco : co ≤ 4200) (hlst : lst < 2 ^ 31) (hgr : ∀ i, i < co → grp i < 2 ^ 31) : mWv l yX3_drop wsX3_drop ({ frames := 0, cells := 0, slots := 0, locals := 0 }) (dC, dI) cI [.ref m0, .int x, .int (nI lst)] (wM cI m0 m1 m2 m3 m4 m5 m6 th gr co ofs grp kd vl ro fr nm dr) (fun u => dropF (kp x lst) co 0 0 ofs grp kd vl = u) (fun u : Nat × (Nat → Nat) × (Nat → Nat) × (Nat → Int32) × (Nat → Int32) => wM cI m0 m1 m2 m3 m4 m5 m6 th gr u.1 u.2.1 u.2.2.1 u.2.2.2.1 u.2.2.2.2 ro fr nm dr) := by
  refine m_ofWv (cc := cX3_drop) (maxL := 5) (by decide) rfl (Nat.le_of_ble_eq_true rfl) ?_
  intro p e s m args below meth c ls A Q hx hb hts hown hml hP hK hD hA hS hl hret
  have hown : s.vm.findClass RX3 = some m.cls := hown
  have hl : lv_has ls 5 [(0, .ref m0), (1, .int x), (2, .int (nI lst))] := hl
  have l38 := hts (.fieldLink RX3 38 "GroupDeskModel" "count" "I") (by decide +kernel)
  have l7 := hts (.fieldLink RX3 7 "GroupDeskModel" "of" "[I") (by decide +kernel)
  have l13 := hts (.fieldLink RX3 13 "GroupDeskModel" "group" "[I") (by decide +kernel)
  have l16 := hts (.fieldLink RX3 16 "GroupDeskModel" "kind" "[I") (by decide +kernel)
  have l19 := hts (.fieldLink RX3 19 "GroupDeskModel" "value" "[I") (by decide +kernel)
  have iX3 : ∀ w ∈ u_ws RX3 TX3 11, w ∈ wsX3_drop := by decide +kernel
  have loop : ∀ (n k j : Nat) (ofs' grp' : Nat → Nat) (kd' vl' : Nat → Int32) (H : Heap) (locs : List Loc) (ls : Array Slot), n + k = co → j ≤ k → (∀ i, k ≤ i → i < co → grp' i < 2 ^ 31) → dropF (kp x lst) n k j ofs' grp' kd' vl' = dropF (kp x lst) co 0 0 ofs grp kd vl → va_P (dC, dI) vwCl (wM cI m0 m1 m2 m3 m4 m5 m6 th gr co ofs' grp' kd' vl' ro fr nm dr) H → va_D A (wM cI m0 m1 m2 m3 m4 m5 m6 th gr co ofs' grp' kd' vl' ro fr nm dr) → va_S A s.heap H locs → lv_has ls 5 [(0, .ref m0), (1, .int x), (2, .int (nI lst)), (3, .int (nI j)), (4, .int (nI k))] → W p l e ({ frames := 0, cells := 0, slots := 0, locals := 0 }) s m args below meth c H locs 0 0 Q (F0 m 5 ls []) := by
    intro n
    induction n with
    | zero =>
      intro k j ofs' grp' kd' vl' H locs ls hn hle hgr hF hP hD hS hl
      refine lv_iload hx hb dX3_drop_5 (lv_at hl 4 rfl) ?_
      refine lv_aload_n hx hb dX3_drop_7 rfl (lv_at hl 0 rfl) ?_
      refine va_get (D := (dC, dI)) (ci := 3) (v := .int (nI co)) (C := RX3) (T := TX3) (N := 11) hx hb hts iX3 hown hK hP 0 rfl rfl 2 (by decide) l38 (fun _ h9 => h9) rfl dX3_drop_8 ?_
      refine lv_icmp_ge (tgt := 101) hx hb dX3_drop_11 (by decide) (fun c11 => ?_) (fun c11 => ?_)
      · refine lv_aload_n hx hb dX3_drop_101 rfl (lv_at hl 0 rfl) ?_
        refine lv_iload_n hx hb dX3_drop_102 rfl (lv_at hl 3 rfl) ?_
        refine va_put (D := (dC, dI)) (ci := 3) (v := .int (nI j)) (ty := .int) (C := RX3) (T := TX3) (N := 11) hx hb hts iX3 tyX3 tyX3_ok nmX3 hown hK hP hD hS 0 rfl rfl 2 (by decide) l38 (fun _ h9 => h9) rfl (by decide +kernel) rfl rfl (Nat.le_of_ble_eq_true rfl) dX3_drop_103 (fun H locs hP hD hS => ?_)
        have hP : va_P (dC, dI) vwCl (wM cI m0 m1 m2 m3 m4 m5 m6 th gr j ofs' grp' kd' vl' ro fr nm dr) _ := hP
        have hD : va_D A (wM cI m0 m1 m2 m3 m4 m5 m6 th gr j ofs' grp' kd' vl' ro fr nm dr) := hD
        exact hret ((j, ofs', grp', kd', vl')) (by rw [← hF]; rfl) hP hD hS dX3_drop_106
      · exact absurd (nI_le (by omega) (by omega)) c11
    | succ n ih =>
      intro k j ofs' grp' kd' vl' H locs ls hn hle hgr hF hP hD hS hl
      have h4 := hgr k (Nat.le_refl _) (by omega)
      refine lv_iload hx hb dX3_drop_5 (lv_at hl 4 rfl) ?_
      refine lv_aload_n hx hb dX3_drop_7 rfl (lv_at hl 0 rfl) ?_
      refine va_get (D := (dC, dI)) (ci := 3) (v := .int (nI co)) (C := RX3) (T := TX3) (N := 11) hx hb hts iX3 hown hK hP 0 rfl rfl 2 (by decide) l38 (fun _ h9 => h9) rfl dX3_drop_8 ?_
      refine lv_icmp_ge (tgt := 101) hx hb dX3_drop_11 (by decide) (fun c11 => ?_) (fun c11 => ?_)
      · exact absurd c11 (nI_ge (by omega) (by omega))
      · refine lv_iload_n hx hb dX3_drop_14 rfl (lv_at hl 1 rfl) ?_
        refine lv_if_lt (tgt := 29) hx hb dX3_drop_15 (by decide) (fun c15 => ?_) (fun c15 => ?_)
        · refine lv_aload_n hx hb dX3_drop_29 rfl (lv_at hl 0 rfl) ?_
          refine va_get (D := (dC, dI)) (ci := 3) (v := .ref m2) (C := RX3) (T := TX3) (N := 11) hx hb hts iX3 hown hK hP 0 rfl rfl 4 (by decide) l13 (fun _ h9 => h9) rfl dX3_drop_30 ?_
          refine lv_iload hx hb dX3_drop_33 (lv_at hl 4 rfl) ?_
          refine mv_iald hx hb hK hP 2 0 rfl rfl (k := k) (rfl) (by omega) (by decide) (v := nI (grp' k)) rfl dX3_drop_35 ?_
          refine lv_iload_n hx hb dX3_drop_36 rfl (lv_at hl 2 rfl) ?_
          refine lv_icmp_ge (tgt := 95) hx hb dX3_drop_37 (by decide) (fun c37 => ?_) (fun c37 => ?_)
          · refine lv_iinc (v := nI (k + 1)) (lv' := [(4, .int (nI (k + 1))), (0, .ref m0), (1, .int x), (2, .int (nI lst)), (3, .int (nI j))]) hx hb dX3_drop_95 hl (k := 4) rfl (show (nI k) + Int32.ofInt (1) = nI (k + 1) from nI_1 k) (by decide) rfl (fun ls hl => ?_)
            refine lv_goto (tgt := 5) hx hb dX3_drop_98 (by decide) ?_
            exact ih _ _ _ _ _ _ _ _ _ (by omega) (by omega) (fun i h1 h2 => hgr i (by omega) h2) (by rw [← hF, dropF, if_neg (by unfold kp; rw [decide_eq_false (not_not_intro c15), Bool.false_and]; rw [decide_eq_false (fun h => absurd h (Nat.not_lt.mpr ((nI_leI hlst h4).mp c37)))]; decide)]) hP hD hS (lv_sub hl [1, 2, 3, 4, 0] rfl)
          · refine lv_aload_n hx hb dX3_drop_40 rfl (lv_at hl 0 rfl) ?_
            refine va_get (D := (dC, dI)) (ci := 3) (v := .ref m1) (C := RX3) (T := TX3) (N := 11) hx hb hts iX3 hown hK hP 0 rfl rfl 3 (by decide) l7 (fun _ h9 => h9) rfl dX3_drop_41 ?_
            refine lv_iload_n hx hb dX3_drop_44 rfl (lv_at hl 3 rfl) ?_
            refine lv_aload_n hx hb dX3_drop_45 rfl (lv_at hl 0 rfl) ?_
            refine va_get (D := (dC, dI)) (ci := 3) (v := .ref m1) (C := RX3) (T := TX3) (N := 11) hx hb hts iX3 hown hK hP 0 rfl rfl 3 (by decide) l7 (fun _ h9 => h9) rfl dX3_drop_46 ?_
            refine lv_iload hx hb dX3_drop_49 (lv_at hl 4 rfl) ?_
            refine mv_iald hx hb hK hP 1 0 rfl rfl (k := k) (rfl) (by omega) (by decide) (v := nI (ofs' k)) rfl dX3_drop_51 ?_
            refine mv_iast hx hb hK hP hD hS 1 0 rfl rfl (k := j) (rfl) (by omega) (by decide) (f' := nF (va_up ofs' j (ofs' k))) (nF_up _ _ _) dX3_drop_52 (fun H locs hP hD hS => ?_)
            have hP : va_P (dC, dI) vwCl (wM cI m0 m1 m2 m3 m4 m5 m6 th gr co (va_up ofs' j (ofs' k)) grp' kd' vl' ro fr nm dr) _ := hP
            have hD : va_D A (wM cI m0 m1 m2 m3 m4 m5 m6 th gr co (va_up ofs' j (ofs' k)) grp' kd' vl' ro fr nm dr) := hD
            refine lv_aload_n hx hb dX3_drop_53 rfl (lv_at hl 0 rfl) ?_
            refine va_get (D := (dC, dI)) (ci := 3) (v := .ref m2) (C := RX3) (T := TX3) (N := 11) hx hb hts iX3 hown hK hP 0 rfl rfl 4 (by decide) l13 (fun _ h9 => h9) rfl dX3_drop_54 ?_
            refine lv_iload_n hx hb dX3_drop_57 rfl (lv_at hl 3 rfl) ?_
            refine lv_aload_n hx hb dX3_drop_58 rfl (lv_at hl 0 rfl) ?_
            refine va_get (D := (dC, dI)) (ci := 3) (v := .ref m2) (C := RX3) (T := TX3) (N := 11) hx hb hts iX3 hown hK hP 0 rfl rfl 4 (by decide) l13 (fun _ h9 => h9) rfl dX3_drop_59 ?_
            refine lv_iload hx hb dX3_drop_62 (lv_at hl 4 rfl) ?_
            refine mv_iald hx hb hK hP 2 0 rfl rfl (k := k) (rfl) (by omega) (by decide) (v := nI (grp' k)) rfl dX3_drop_64 ?_
            refine mv_iast hx hb hK hP hD hS 2 0 rfl rfl (k := j) (rfl) (by omega) (by decide) (f' := nF (va_up grp' j (grp' k))) (nF_up _ _ _) dX3_drop_65 (fun H locs hP hD hS => ?_)
            have hP : va_P (dC, dI) vwCl (wM cI m0 m1 m2 m3 m4 m5 m6 th gr co (va_up ofs' j (ofs' k)) (va_up grp' j (grp' k)) kd' vl' ro fr nm dr) _ := hP
            have hD : va_D A (wM cI m0 m1 m2 m3 m4 m5 m6 th gr co (va_up ofs' j (ofs' k)) (va_up grp' j (grp' k)) kd' vl' ro fr nm dr) := hD
            refine lv_aload_n hx hb dX3_drop_66 rfl (lv_at hl 0 rfl) ?_
            refine va_get (D := (dC, dI)) (ci := 3) (v := .ref m3) (C := RX3) (T := TX3) (N := 11) hx hb hts iX3 hown hK hP 0 rfl rfl 5 (by decide) l16 (fun _ h9 => h9) rfl dX3_drop_67 ?_
            refine lv_iload_n hx hb dX3_drop_70 rfl (lv_at hl 3 rfl) ?_
            refine lv_aload_n hx hb dX3_drop_71 rfl (lv_at hl 0 rfl) ?_
            refine va_get (D := (dC, dI)) (ci := 3) (v := .ref m3) (C := RX3) (T := TX3) (N := 11) hx hb hts iX3 hown hK hP 0 rfl rfl 5 (by decide) l16 (fun _ h9 => h9) rfl dX3_drop_72 ?_
            refine lv_iload hx hb dX3_drop_75 (lv_at hl 4 rfl) ?_
            refine mv_iald hx hb hK hP 3 0 rfl rfl (k := k) (rfl) (by omega) (by decide) (v := kd' k) rfl dX3_drop_77 ?_
            refine mv_iast hx hb hK hP hD hS 3 0 rfl rfl (k := j) (rfl) (by omega) (by decide) (f' := upd kd' j (kd' k)) (rfl) dX3_drop_78 (fun H locs hP hD hS => ?_)
            have hP : va_P (dC, dI) vwCl (wM cI m0 m1 m2 m3 m4 m5 m6 th gr co (va_up ofs' j (ofs' k)) (va_up grp' j (grp' k)) (upd kd' j (kd' k)) vl' ro fr nm dr) _ := hP
            have hD : va_D A (wM cI m0 m1 m2 m3 m4 m5 m6 th gr co (va_up ofs' j (ofs' k)) (va_up grp' j (grp' k)) (upd kd' j (kd' k)) vl' ro fr nm dr) := hD
            refine lv_aload_n hx hb dX3_drop_79 rfl (lv_at hl 0 rfl) ?_
            refine va_get (D := (dC, dI)) (ci := 3) (v := .ref m4) (C := RX3) (T := TX3) (N := 11) hx hb hts iX3 hown hK hP 0 rfl rfl 6 (by decide) l19 (fun _ h9 => h9) rfl dX3_drop_80 ?_
            refine lv_iload_n hx hb dX3_drop_83 rfl (lv_at hl 3 rfl) ?_
            refine lv_aload_n hx hb dX3_drop_84 rfl (lv_at hl 0 rfl) ?_
            refine va_get (D := (dC, dI)) (ci := 3) (v := .ref m4) (C := RX3) (T := TX3) (N := 11) hx hb hts iX3 hown hK hP 0 rfl rfl 6 (by decide) l19 (fun _ h9 => h9) rfl dX3_drop_85 ?_
            refine lv_iload hx hb dX3_drop_88 (lv_at hl 4 rfl) ?_
            refine mv_iald hx hb hK hP 4 0 rfl rfl (k := k) (rfl) (by omega) (by decide) (v := vl' k) rfl dX3_drop_90 ?_
            refine mv_iast hx hb hK hP hD hS 4 0 rfl rfl (k := j) (rfl) (by omega) (by decide) (f' := upd vl' j (vl' k)) (rfl) dX3_drop_91 (fun H locs hP hD hS => ?_)
            have hP : va_P (dC, dI) vwCl (wM cI m0 m1 m2 m3 m4 m5 m6 th gr co (va_up ofs' j (ofs' k)) (va_up grp' j (grp' k)) (upd kd' j (kd' k)) (upd vl' j (vl' k)) ro fr nm dr) _ := hP
            have hD : va_D A (wM cI m0 m1 m2 m3 m4 m5 m6 th gr co (va_up ofs' j (ofs' k)) (va_up grp' j (grp' k)) (upd kd' j (kd' k)) (upd vl' j (vl' k)) ro fr nm dr) := hD
            refine lv_iinc (v := nI (j + 1)) (lv' := [(3, .int (nI (j + 1))), (0, .ref m0), (1, .int x), (2, .int (nI lst)), (4, .int (nI k))]) hx hb dX3_drop_92 hl (k := 3) rfl (show (nI j) + Int32.ofInt (1) = nI (j + 1) from nI_1 j) (by decide) rfl (fun ls hl => ?_)
            refine lv_iinc (v := nI (k + 1)) (lv' := [(4, .int (nI (k + 1))), (3, .int (nI (j + 1))), (0, .ref m0), (1, .int x), (2, .int (nI lst))]) hx hb dX3_drop_95 hl (k := 4) rfl (show (nI k) + Int32.ofInt (1) = nI (k + 1) from nI_1 k) (by decide) rfl (fun ls hl => ?_)
            refine lv_goto (tgt := 5) hx hb dX3_drop_98 (by decide) ?_
            exact ih _ _ _ _ _ _ _ _ _ (by omega) (by omega) (fun i h1 h2 => by rw [va_up_ne _ _ (by omega)]; exact hgr i (by omega) h2) (by rw [← hF, dropF, if_pos (by unfold kp; rw [decide_eq_true (Nat.lt_of_not_le fun h => c37 ((nI_leI hlst h4).mpr h)), Bool.or_true])]) hP hD hS (lv_sub hl [2, 3, 4, 1, 0] rfl)
        · refine lv_aload_n hx hb dX3_drop_18 rfl (lv_at hl 0 rfl) ?_
          refine va_get (D := (dC, dI)) (ci := 3) (v := .ref m1) (C := RX3) (T := TX3) (N := 11) hx hb hts iX3 hown hK hP 0 rfl rfl 3 (by decide) l7 (fun _ h9 => h9) rfl dX3_drop_19 ?_
          refine lv_iload hx hb dX3_drop_22 (lv_at hl 4 rfl) ?_
          refine mv_iald hx hb hK hP 1 0 rfl rfl (k := k) (rfl) (by omega) (by decide) (v := nI (ofs' k)) rfl dX3_drop_24 ?_
          refine lv_iload_n hx hb dX3_drop_25 rfl (lv_at hl 1 rfl) ?_
          refine lv_icmp_ne (tgt := 40) hx hb dX3_drop_26 (by decide) (fun c26 => ?_) (fun c26 => ?_)
          · refine lv_aload_n hx hb dX3_drop_40 rfl (lv_at hl 0 rfl) ?_
            refine va_get (D := (dC, dI)) (ci := 3) (v := .ref m1) (C := RX3) (T := TX3) (N := 11) hx hb hts iX3 hown hK hP 0 rfl rfl 3 (by decide) l7 (fun _ h9 => h9) rfl dX3_drop_41 ?_
            refine lv_iload_n hx hb dX3_drop_44 rfl (lv_at hl 3 rfl) ?_
            refine lv_aload_n hx hb dX3_drop_45 rfl (lv_at hl 0 rfl) ?_
            refine va_get (D := (dC, dI)) (ci := 3) (v := .ref m1) (C := RX3) (T := TX3) (N := 11) hx hb hts iX3 hown hK hP 0 rfl rfl 3 (by decide) l7 (fun _ h9 => h9) rfl dX3_drop_46 ?_
            refine lv_iload hx hb dX3_drop_49 (lv_at hl 4 rfl) ?_
            refine mv_iald hx hb hK hP 1 0 rfl rfl (k := k) (rfl) (by omega) (by decide) (v := nI (ofs' k)) rfl dX3_drop_51 ?_
            refine mv_iast hx hb hK hP hD hS 1 0 rfl rfl (k := j) (rfl) (by omega) (by decide) (f' := nF (va_up ofs' j (ofs' k))) (nF_up _ _ _) dX3_drop_52 (fun H locs hP hD hS => ?_)
            have hP : va_P (dC, dI) vwCl (wM cI m0 m1 m2 m3 m4 m5 m6 th gr co (va_up ofs' j (ofs' k)) grp' kd' vl' ro fr nm dr) _ := hP
            have hD : va_D A (wM cI m0 m1 m2 m3 m4 m5 m6 th gr co (va_up ofs' j (ofs' k)) grp' kd' vl' ro fr nm dr) := hD
            refine lv_aload_n hx hb dX3_drop_53 rfl (lv_at hl 0 rfl) ?_
            refine va_get (D := (dC, dI)) (ci := 3) (v := .ref m2) (C := RX3) (T := TX3) (N := 11) hx hb hts iX3 hown hK hP 0 rfl rfl 4 (by decide) l13 (fun _ h9 => h9) rfl dX3_drop_54 ?_
            refine lv_iload_n hx hb dX3_drop_57 rfl (lv_at hl 3 rfl) ?_
            refine lv_aload_n hx hb dX3_drop_58 rfl (lv_at hl 0 rfl) ?_
            refine va_get (D := (dC, dI)) (ci := 3) (v := .ref m2) (C := RX3) (T := TX3) (N := 11) hx hb hts iX3 hown hK hP 0 rfl rfl 4 (by decide) l13 (fun _ h9 => h9) rfl dX3_drop_59 ?_
            refine lv_iload hx hb dX3_drop_62 (lv_at hl 4 rfl) ?_
            refine mv_iald hx hb hK hP 2 0 rfl rfl (k := k) (rfl) (by omega) (by decide) (v := nI (grp' k)) rfl dX3_drop_64 ?_
            refine mv_iast hx hb hK hP hD hS 2 0 rfl rfl (k := j) (rfl) (by omega) (by decide) (f' := nF (va_up grp' j (grp' k))) (nF_up _ _ _) dX3_drop_65 (fun H locs hP hD hS => ?_)
            have hP : va_P (dC, dI) vwCl (wM cI m0 m1 m2 m3 m4 m5 m6 th gr co (va_up ofs' j (ofs' k)) (va_up grp' j (grp' k)) kd' vl' ro fr nm dr) _ := hP
            have hD : va_D A (wM cI m0 m1 m2 m3 m4 m5 m6 th gr co (va_up ofs' j (ofs' k)) (va_up grp' j (grp' k)) kd' vl' ro fr nm dr) := hD
            refine lv_aload_n hx hb dX3_drop_66 rfl (lv_at hl 0 rfl) ?_
            refine va_get (D := (dC, dI)) (ci := 3) (v := .ref m3) (C := RX3) (T := TX3) (N := 11) hx hb hts iX3 hown hK hP 0 rfl rfl 5 (by decide) l16 (fun _ h9 => h9) rfl dX3_drop_67 ?_
            refine lv_iload_n hx hb dX3_drop_70 rfl (lv_at hl 3 rfl) ?_
            refine lv_aload_n hx hb dX3_drop_71 rfl (lv_at hl 0 rfl) ?_
            refine va_get (D := (dC, dI)) (ci := 3) (v := .ref m3) (C := RX3) (T := TX3) (N := 11) hx hb hts iX3 hown hK hP 0 rfl rfl 5 (by decide) l16 (fun _ h9 => h9) rfl dX3_drop_72 ?_
            refine lv_iload hx hb dX3_drop_75 (lv_at hl 4 rfl) ?_
            refine mv_iald hx hb hK hP 3 0 rfl rfl (k := k) (rfl) (by omega) (by decide) (v := kd' k) rfl dX3_drop_77 ?_
            refine mv_iast hx hb hK hP hD hS 3 0 rfl rfl (k := j) (rfl) (by omega) (by decide) (f' := upd kd' j (kd' k)) (rfl) dX3_drop_78 (fun H locs hP hD hS => ?_)
            have hP : va_P (dC, dI) vwCl (wM cI m0 m1 m2 m3 m4 m5 m6 th gr co (va_up ofs' j (ofs' k)) (va_up grp' j (grp' k)) (upd kd' j (kd' k)) vl' ro fr nm dr) _ := hP
            have hD : va_D A (wM cI m0 m1 m2 m3 m4 m5 m6 th gr co (va_up ofs' j (ofs' k)) (va_up grp' j (grp' k)) (upd kd' j (kd' k)) vl' ro fr nm dr) := hD
            refine lv_aload_n hx hb dX3_drop_79 rfl (lv_at hl 0 rfl) ?_
            refine va_get (D := (dC, dI)) (ci := 3) (v := .ref m4) (C := RX3) (T := TX3) (N := 11) hx hb hts iX3 hown hK hP 0 rfl rfl 6 (by decide) l19 (fun _ h9 => h9) rfl dX3_drop_80 ?_
            refine lv_iload_n hx hb dX3_drop_83 rfl (lv_at hl 3 rfl) ?_
            refine lv_aload_n hx hb dX3_drop_84 rfl (lv_at hl 0 rfl) ?_
            refine va_get (D := (dC, dI)) (ci := 3) (v := .ref m4) (C := RX3) (T := TX3) (N := 11) hx hb hts iX3 hown hK hP 0 rfl rfl 6 (by decide) l19 (fun _ h9 => h9) rfl dX3_drop_85 ?_
            refine lv_iload hx hb dX3_drop_88 (lv_at hl 4 rfl) ?_
            refine mv_iald hx hb hK hP 4 0 rfl rfl (k := k) (rfl) (by omega) (by decide) (v := vl' k) rfl dX3_drop_90 ?_
            refine mv_iast hx hb hK hP hD hS 4 0 rfl rfl (k := j) (rfl) (by omega) (by decide) (f' := upd vl' j (vl' k)) (rfl) dX3_drop_91 (fun H locs hP hD hS => ?_)
            have hP : va_P (dC, dI) vwCl (wM cI m0 m1 m2 m3 m4 m5 m6 th gr co (va_up ofs' j (ofs' k)) (va_up grp' j (grp' k)) (upd kd' j (kd' k)) (upd vl' j (vl' k)) ro fr nm dr) _ := hP
            have hD : va_D A (wM cI m0 m1 m2 m3 m4 m5 m6 th gr co (va_up ofs' j (ofs' k)) (va_up grp' j (grp' k)) (upd kd' j (kd' k)) (upd vl' j (vl' k)) ro fr nm dr) := hD
            refine lv_iinc (v := nI (j + 1)) (lv' := [(3, .int (nI (j + 1))), (0, .ref m0), (1, .int x), (2, .int (nI lst)), (4, .int (nI k))]) hx hb dX3_drop_92 hl (k := 3) rfl (show (nI j) + Int32.ofInt (1) = nI (j + 1) from nI_1 j) (by decide) rfl (fun ls hl => ?_)
            refine lv_iinc (v := nI (k + 1)) (lv' := [(4, .int (nI (k + 1))), (3, .int (nI (j + 1))), (0, .ref m0), (1, .int x), (2, .int (nI lst))]) hx hb dX3_drop_95 hl (k := 4) rfl (show (nI k) + Int32.ofInt (1) = nI (k + 1) from nI_1 k) (by decide) rfl (fun ls hl => ?_)
            refine lv_goto (tgt := 5) hx hb dX3_drop_98 (by decide) ?_
            exact ih _ _ _ _ _ _ _ _ _ (by omega) (by omega) (fun i h1 h2 => by rw [va_up_ne _ _ (by omega)]; exact hgr i (by omega) h2) (by rw [← hF, dropF, if_pos (by unfold kp; rw [decide_eq_true c15, decide_eq_true c26]; rfl)]) hP hD hS (lv_sub hl [2, 3, 4, 1, 0] rfl)
          · refine lv_aload_n hx hb dX3_drop_29 rfl (lv_at hl 0 rfl) ?_
            refine va_get (D := (dC, dI)) (ci := 3) (v := .ref m2) (C := RX3) (T := TX3) (N := 11) hx hb hts iX3 hown hK hP 0 rfl rfl 4 (by decide) l13 (fun _ h9 => h9) rfl dX3_drop_30 ?_
            refine lv_iload hx hb dX3_drop_33 (lv_at hl 4 rfl) ?_
            refine mv_iald hx hb hK hP 2 0 rfl rfl (k := k) (rfl) (by omega) (by decide) (v := nI (grp' k)) rfl dX3_drop_35 ?_
            refine lv_iload_n hx hb dX3_drop_36 rfl (lv_at hl 2 rfl) ?_
            refine lv_icmp_ge (tgt := 95) hx hb dX3_drop_37 (by decide) (fun c37 => ?_) (fun c37 => ?_)
            · refine lv_iinc (v := nI (k + 1)) (lv' := [(4, .int (nI (k + 1))), (0, .ref m0), (1, .int x), (2, .int (nI lst)), (3, .int (nI j))]) hx hb dX3_drop_95 hl (k := 4) rfl (show (nI k) + Int32.ofInt (1) = nI (k + 1) from nI_1 k) (by decide) rfl (fun ls hl => ?_)
              refine lv_goto (tgt := 5) hx hb dX3_drop_98 (by decide) ?_
              exact ih _ _ _ _ _ _ _ _ _ (by omega) (by omega) (fun i h1 h2 => hgr i (by omega) h2) (by rw [← hF, dropF, if_neg (by unfold kp; rw [decide_eq_false (not_not_intro c26), Bool.and_false]; rw [decide_eq_false (fun h => absurd h (Nat.not_lt.mpr ((nI_leI hlst h4).mp c37)))]; decide)]) hP hD hS (lv_sub hl [1, 2, 3, 4, 0] rfl)
            · refine lv_aload_n hx hb dX3_drop_40 rfl (lv_at hl 0 rfl) ?_
              refine va_get (D := (dC, dI)) (ci := 3) (v := .ref m1) (C := RX3) (T := TX3) (N := 11) hx hb hts iX3 hown hK hP 0 rfl rfl 3 (by decide) l7 (fun _ h9 => h9) rfl dX3_drop_41 ?_
              refine lv_iload_n hx hb dX3_drop_44 rfl (lv_at hl 3 rfl) ?_
              refine lv_aload_n hx hb dX3_drop_45 rfl (lv_at hl 0 rfl) ?_
              refine va_get (D := (dC, dI)) (ci := 3) (v := .ref m1) (C := RX3) (T := TX3) (N := 11) hx hb hts iX3 hown hK hP 0 rfl rfl 3 (by decide) l7 (fun _ h9 => h9) rfl dX3_drop_46 ?_
              refine lv_iload hx hb dX3_drop_49 (lv_at hl 4 rfl) ?_
              refine mv_iald hx hb hK hP 1 0 rfl rfl (k := k) (rfl) (by omega) (by decide) (v := nI (ofs' k)) rfl dX3_drop_51 ?_
              refine mv_iast hx hb hK hP hD hS 1 0 rfl rfl (k := j) (rfl) (by omega) (by decide) (f' := nF (va_up ofs' j (ofs' k))) (nF_up _ _ _) dX3_drop_52 (fun H locs hP hD hS => ?_)
              have hP : va_P (dC, dI) vwCl (wM cI m0 m1 m2 m3 m4 m5 m6 th gr co (va_up ofs' j (ofs' k)) grp' kd' vl' ro fr nm dr) _ := hP
              have hD : va_D A (wM cI m0 m1 m2 m3 m4 m5 m6 th gr co (va_up ofs' j (ofs' k)) grp' kd' vl' ro fr nm dr) := hD
              refine lv_aload_n hx hb dX3_drop_53 rfl (lv_at hl 0 rfl) ?_
              refine va_get (D := (dC, dI)) (ci := 3) (v := .ref m2) (C := RX3) (T := TX3) (N := 11) hx hb hts iX3 hown hK hP 0 rfl rfl 4 (by decide) l13 (fun _ h9 => h9) rfl dX3_drop_54 ?_
              refine lv_iload_n hx hb dX3_drop_57 rfl (lv_at hl 3 rfl) ?_
              refine lv_aload_n hx hb dX3_drop_58 rfl (lv_at hl 0 rfl) ?_
              refine va_get (D := (dC, dI)) (ci := 3) (v := .ref m2) (C := RX3) (T := TX3) (N := 11) hx hb hts iX3 hown hK hP 0 rfl rfl 4 (by decide) l13 (fun _ h9 => h9) rfl dX3_drop_59 ?_
              refine lv_iload hx hb dX3_drop_62 (lv_at hl 4 rfl) ?_
              refine mv_iald hx hb hK hP 2 0 rfl rfl (k := k) (rfl) (by omega) (by decide) (v := nI (grp' k)) rfl dX3_drop_64 ?_
              refine mv_iast hx hb hK hP hD hS 2 0 rfl rfl (k := j) (rfl) (by omega) (by decide) (f' := nF (va_up grp' j (grp' k))) (nF_up _ _ _) dX3_drop_65 (fun H locs hP hD hS => ?_)
              have hP : va_P (dC, dI) vwCl (wM cI m0 m1 m2 m3 m4 m5 m6 th gr co (va_up ofs' j (ofs' k)) (va_up grp' j (grp' k)) kd' vl' ro fr nm dr) _ := hP
              have hD : va_D A (wM cI m0 m1 m2 m3 m4 m5 m6 th gr co (va_up ofs' j (ofs' k)) (va_up grp' j (grp' k)) kd' vl' ro fr nm dr) := hD
              refine lv_aload_n hx hb dX3_drop_66 rfl (lv_at hl 0 rfl) ?_
              refine va_get (D := (dC, dI)) (ci := 3) (v := .ref m3) (C := RX3) (T := TX3) (N := 11) hx hb hts iX3 hown hK hP 0 rfl rfl 5 (by decide) l16 (fun _ h9 => h9) rfl dX3_drop_67 ?_
              refine lv_iload_n hx hb dX3_drop_70 rfl (lv_at hl 3 rfl) ?_
              refine lv_aload_n hx hb dX3_drop_71 rfl (lv_at hl 0 rfl) ?_
              refine va_get (D := (dC, dI)) (ci := 3) (v := .ref m3) (C := RX3) (T := TX3) (N := 11) hx hb hts iX3 hown hK hP 0 rfl rfl 5 (by decide) l16 (fun _ h9 => h9) rfl dX3_drop_72 ?_
              refine lv_iload hx hb dX3_drop_75 (lv_at hl 4 rfl) ?_
              refine mv_iald hx hb hK hP 3 0 rfl rfl (k := k) (rfl) (by omega) (by decide) (v := kd' k) rfl dX3_drop_77 ?_
              refine mv_iast hx hb hK hP hD hS 3 0 rfl rfl (k := j) (rfl) (by omega) (by decide) (f' := upd kd' j (kd' k)) (rfl) dX3_drop_78 (fun H locs hP hD hS => ?_)
              have hP : va_P (dC, dI) vwCl (wM cI m0 m1 m2 m3 m4 m5 m6 th gr co (va_up ofs' j (ofs' k)) (va_up grp' j (grp' k)) (upd kd' j (kd' k)) vl' ro fr nm dr) _ := hP
              have hD : va_D A (wM cI m0 m1 m2 m3 m4 m5 m6 th gr co (va_up ofs' j (ofs' k)) (va_up grp' j (grp' k)) (upd kd' j (kd' k)) vl' ro fr nm dr) := hD
              refine lv_aload_n hx hb dX3_drop_79 rfl (lv_at hl 0 rfl) ?_
              refine va_get (D := (dC, dI)) (ci := 3) (v := .ref m4) (C := RX3) (T := TX3) (N := 11) hx hb hts iX3 hown hK hP 0 rfl rfl 6 (by decide) l19 (fun _ h9 => h9) rfl dX3_drop_80 ?_
              refine lv_iload_n hx hb dX3_drop_83 rfl (lv_at hl 3 rfl) ?_
              refine lv_aload_n hx hb dX3_drop_84 rfl (lv_at hl 0 rfl) ?_
              refine va_get (D := (dC, dI)) (ci := 3) (v := .ref m4) (C := RX3) (T := TX3) (N := 11) hx hb hts iX3 hown hK hP 0 rfl rfl 6 (by decide) l19 (fun _ h9 => h9) rfl dX3_drop_85 ?_
              refine lv_iload hx hb dX3_drop_88 (lv_at hl 4 rfl) ?_
              refine mv_iald hx hb hK hP 4 0 rfl rfl (k := k) (rfl) (by omega) (by decide) (v := vl' k) rfl dX3_drop_90 ?_
              refine mv_iast hx hb hK hP hD hS 4 0 rfl rfl (k := j) (rfl) (by omega) (by decide) (f' := upd vl' j (vl' k)) (rfl) dX3_drop_91 (fun H locs hP hD hS => ?_)
              have hP : va_P (dC, dI) vwCl (wM cI m0 m1 m2 m3 m4 m5 m6 th gr co (va_up ofs' j (ofs' k)) (va_up grp' j (grp' k)) (upd kd' j (kd' k)) (upd vl' j (vl' k)) ro fr nm dr) _ := hP
              have hD : va_D A (wM cI m0 m1 m2 m3 m4 m5 m6 th gr co (va_up ofs' j (ofs' k)) (va_up grp' j (grp' k)) (upd kd' j (kd' k)) (upd vl' j (vl' k)) ro fr nm dr) := hD
              refine lv_iinc (v := nI (j + 1)) (lv' := [(3, .int (nI (j + 1))), (0, .ref m0), (1, .int x), (2, .int (nI lst)), (4, .int (nI k))]) hx hb dX3_drop_92 hl (k := 3) rfl (show (nI j) + Int32.ofInt (1) = nI (j + 1) from nI_1 j) (by decide) rfl (fun ls hl => ?_)
              refine lv_iinc (v := nI (k + 1)) (lv' := [(4, .int (nI (k + 1))), (3, .int (nI (j + 1))), (0, .ref m0), (1, .int x), (2, .int (nI lst))]) hx hb dX3_drop_95 hl (k := 4) rfl (show (nI k) + Int32.ofInt (1) = nI (k + 1) from nI_1 k) (by decide) rfl (fun ls hl => ?_)
              refine lv_goto (tgt := 5) hx hb dX3_drop_98 (by decide) ?_
              exact ih _ _ _ _ _ _ _ _ _ (by omega) (by omega) (fun i h1 h2 => by rw [va_up_ne _ _ (by omega)]; exact hgr i (by omega) h2) (by rw [← hF, dropF, if_pos (by unfold kp; rw [decide_eq_true (Nat.lt_of_not_le fun h => c37 ((nI_leI hlst h4).mpr h)), Bool.or_true])]) hP hD hS (lv_sub hl [2, 3, 4, 1, 0] rfl)
  refine lv_iconst (v := 0) hx hb dX3_drop_0 (by decide) ?_
  refine lv_istore_n (lv' := [(3, .int 0), (0, .ref m0), (1, .int x), (2, .int (nI lst))]) hx hb dX3_drop_1 rfl hl (by decide) rfl (fun ls hl => ?_)
  refine lv_iconst (v := 0) hx hb dX3_drop_2 (by decide) ?_
  refine lv_istore (lv' := [(4, .int 0), (3, .int 0), (0, .ref m0), (1, .int x), (2, .int (nI lst))]) hx hb dX3_drop_3 hl (by decide) rfl (fun ls hl => ?_)
  exact loop co 0 0 ofs grp kd vl _ _ _ rfl (Nat.le_refl _) (fun i _ h => hgr i h) rfl hP hD hS (lv_sub hl [2, 3, 4, 1, 0] rfl)
set_option maxHeartbeats 4000000 in
set_option maxRecDepth 100000 in
theorem c_X3_last (l : Launch) (dC : Nat → ClassId) (dI : Nat → Nat → Nat) (cI : ClassId) (m0 m1 m2 m3 m4 m5 m6 : Nat) (th : Int32) (gr co : Nat) (ofs grp : Nat → Nat) (kd vl : Nat → Int32) (ro : Nat) (fr : Nat → Nat) (nm : Nat → Int32) (dr : Nat) (w : Nat) (hco : co ≤ 4200) (hw : w < 2 ^ 31) (hof : ∀ i, i < co → ofs i < 2 ^ 31) : mRi l yX3_last wsX3_last ({ frames := 0, cells := 0, slots := 0, locals := 0 }) (dC, dI) cI [.ref m0, .int (nI w)] (wM cI m0 m1 m2 m3 m4 m5 m6 th gr co ofs grp kd vl ro fr nm dr) (fun r => r = encO (lastF ofs w co)) := by
  refine m_ofR (cc := cX3_last) (maxL := 4) (by decide) rfl (Nat.le_of_ble_eq_true rfl) ?_
  intro p e s m args below meth c ls Q hx hb hts hown hml hP hK hl hret
  have hown : s.vm.findClass RX3 = some m.cls := hown
  have hl : lv_has ls 4 [(0, .ref m0), (1, .int (nI w))] := hl
  have l38 := hts (.fieldLink RX3 38 "GroupDeskModel" "count" "I") (by decide +kernel)
  have l7 := hts (.fieldLink RX3 7 "GroupDeskModel" "of" "[I") (by decide +kernel)
  have iX3 : ∀ w ∈ u_ws RX3 TX3 11, w ∈ wsX3_last := by decide +kernel
  have loop : ∀ (n k : Nat) (ls : Array Slot), n + k = co → lv_has ls 4 [(0, .ref m0), (1, .int (nI w)), (2, .int (encO (lastF ofs w k))), (3, .int (nI k))] → W p l e ({ frames := 0, cells := 0, slots := 0, locals := 0 }) s m args below meth c s.heap [] 0 0 Q (F0 m 4 ls []) := by
    intro n
    induction n with
    | zero =>
      intro k ls hn hl
      refine lv_iload_n hx hb dX3_last_4 rfl (lv_at hl 3 rfl) ?_
      refine lv_aload_n hx hb dX3_last_5 rfl (lv_at hl 0 rfl) ?_
      refine va_get (D := (dC, dI)) (ci := 3) (v := .int (nI co)) (C := RX3) (T := TX3) (N := 11) hx hb hts iX3 hown hK hP 0 rfl rfl 2 (by decide) l38 (fun _ h9 => h9) rfl dX3_last_6 ?_
      refine lv_icmp_ge (tgt := 34) hx hb dX3_last_9 (by decide) (fun c9 => ?_) (fun c9 => ?_)
      · refine lv_iload_n hx hb dX3_last_34 rfl (lv_at hl 2 rfl) ?_
        exact hret (encO (lastF ofs w k)) (rfl) (by rw [show k = co by omega]) dX3_last_35
      · exact absurd (nI_le (by omega) (by omega)) c9
    | succ n ih =>
      intro k ls hn hl
      have h4 := hof k (by omega)
      refine lv_iload_n hx hb dX3_last_4 rfl (lv_at hl 3 rfl) ?_
      refine lv_aload_n hx hb dX3_last_5 rfl (lv_at hl 0 rfl) ?_
      refine va_get (D := (dC, dI)) (ci := 3) (v := .int (nI co)) (C := RX3) (T := TX3) (N := 11) hx hb hts iX3 hown hK hP 0 rfl rfl 2 (by decide) l38 (fun _ h9 => h9) rfl dX3_last_6 ?_
      refine lv_icmp_ge (tgt := 34) hx hb dX3_last_9 (by decide) (fun c9 => ?_) (fun c9 => ?_)
      · exact absurd c9 (nI_ge (by omega) (by omega))
      · refine lv_aload_n hx hb dX3_last_12 rfl (lv_at hl 0 rfl) ?_
        refine va_get (D := (dC, dI)) (ci := 3) (v := .ref m1) (C := RX3) (T := TX3) (N := 11) hx hb hts iX3 hown hK hP 0 rfl rfl 3 (by decide) l7 (fun _ h9 => h9) rfl dX3_last_13 ?_
        refine lv_iload_n hx hb dX3_last_16 rfl (lv_at hl 3 rfl) ?_
        refine mv_iald hx hb hK hP 1 0 rfl rfl (k := k) (rfl) (by omega) (by decide) (v := nI (ofs k)) rfl dX3_last_17 ?_
        refine lv_iload_n hx hb dX3_last_18 rfl (lv_at hl 1 rfl) ?_
        refine lv_icmp_ne (tgt := 26) hx hb dX3_last_19 (by decide) (fun c19 => ?_) (fun c19 => ?_)
        · refine lv_iload_n hx hb dX3_last_26 rfl (lv_at hl 2 rfl) ?_
          refine lv_istore_n (lv' := [(2, .int (encO (lastF ofs w k))), (0, .ref m0), (1, .int (nI w)), (3, .int (nI k))]) hx hb dX3_last_27 rfl hl (by decide) rfl (fun ls hl => ?_)
          refine lv_iinc (v := nI (k + 1)) (lv' := [(3, .int (nI (k + 1))), (2, .int (encO (lastF ofs w k))), (0, .ref m0), (1, .int (nI w))]) hx hb dX3_last_28 hl (k := 3) rfl (show (nI k) + Int32.ofInt (1) = nI (k + 1) from nI_1 k) (by decide) rfl (fun ls hl => ?_)
          refine lv_goto (tgt := 4) hx hb dX3_last_31 (by decide) ?_
          have e9 : encO (lastF ofs w k) = encO (lastF ofs w (k + 1)) := by rw [lastF, if_neg (fun h => c19 (by rw [h]))]
          rw [e9] at hl
          exact ih _ ls (by omega) (lv_sub hl [2, 3, 1, 0] rfl)
        · refine lv_iload_n hx hb dX3_last_22 rfl (lv_at hl 3 rfl) ?_
          refine lv_goto (tgt := 27) hx hb dX3_last_23 (by decide) ?_
          refine lv_istore_n (lv' := [(2, .int (nI k)), (0, .ref m0), (1, .int (nI w)), (3, .int (nI k))]) hx hb dX3_last_27 rfl hl (by decide) rfl (fun ls hl => ?_)
          refine lv_iinc (v := nI (k + 1)) (lv' := [(3, .int (nI (k + 1))), (2, .int (nI k)), (0, .ref m0), (1, .int (nI w))]) hx hb dX3_last_28 hl (k := 3) rfl (show (nI k) + Int32.ofInt (1) = nI (k + 1) from nI_1 k) (by decide) rfl (fun ls hl => ?_)
          refine lv_goto (tgt := 4) hx hb dX3_last_31 (by decide) ?_
          have e9 : nI k = encO (lastF ofs w (k + 1)) := by rw [lastF, if_pos ((nI_eq h4 hw).mp c19)]; rfl
          have hl : lv_has ls 4 [(3, .int (nI (k + 1))), (2, .int (nI k)), (0, .ref m0), (1, .int (nI w))] := hl
          have hl := (lv_sub hl [2, 3, 1, 0] rfl)
          have hl : lv_has ls 4 [(0, .ref m0), (1, .int (nI w)), (2, .int (nI k)), (3, .int (nI (k + 1)))] := hl
          rw [e9] at hl
          exact ih _ ls (by omega) hl
  refine lv_iconst (v := (-1)) hx hb dX3_last_0 (by decide) ?_
  refine lv_istore_n (lv' := [(2, .int ((-1))), (0, .ref m0), (1, .int (nI w))]) hx hb dX3_last_1 rfl hl (by decide) rfl (fun ls hl => ?_)
  refine lv_iconst (v := 0) hx hb dX3_last_2 (by decide) ?_
  refine lv_istore_n (lv' := [(3, .int 0), (2, .int ((-1))), (0, .ref m0), (1, .int (nI w))]) hx hb dX3_last_3 rfl hl (by decide) rfl (fun ls hl => ?_)
  exact loop co 0 ls rfl (lv_sub hl [2, 3, 1, 0] rfl)
set_option maxHeartbeats 4000000 in
set_option maxRecDepth 100000 in
theorem c_X3_kindOf (l : Launch) (dC : Nat → ClassId) (dI : Nat → Nat → Nat) (cI : ClassId) (m0 m1 m2 m3 m4 m5 m6 : Nat) (th : Int32) (gr co : Nat) (ofs grp : Nat → Nat) (kd vl : Nat → Int32) (ro : Nat) (fr : Nat → Nat) (nm : Nat → Int32) (dr : Nat) (w : Nat) (hco : co ≤ 4200) (hw : w < 2 ^ 31) (hof : ∀ i, i < co → ofs i < 2 ^ 31) : mRi l yX3_kindOf wsX3_kindOf ({ frames := 1, cells := 0, slots := 0, locals := 23 }) (dC, dI) cI [.ref m0, .int (nI w)] (wM cI m0 m1 m2 m3 m4 m5 m6 th gr co ofs grp kd vl ro fr nm dr) (fun r => r = atM ofs kd w co) := by
  refine m_ofR (cc := cX3_kindOf) (maxL := 3) (by decide) rfl (Nat.le_of_ble_eq_true rfl) ?_
  intro p e s m args below meth c ls Q hx hb hts hown hml hP hK hl hret
  have hown : s.vm.findClass RX3 = some m.cls := hown
  have hl : lv_has ls 3 [(0, .ref m0), (1, .int (nI w))] := hl
  have l16 := hts (.fieldLink RX3 16 "GroupDeskModel" "kind" "[I") (by decide +kernel)
  have iX3 : ∀ w ∈ u_ws RX3 TX3 11, w ∈ wsX3_kindOf := by decide +kernel
  refine lv_aload_n hx hb dX3_kindOf_0 rfl (lv_at hl 0 rfl) ?_
  refine lv_iload_n hx hb dX3_kindOf_1 rfl (lv_at hl 1 rfl) ?_
  refine m_rV (As := [.int (nI w)]) (rest := []) ⟨hx, hb, hml, hown, hts⟩ (c_X3_last l dC dI cI m0 m1 m2 m3 m4 m5 m6 th gr co ofs grp kd vl ro fr nm dr w hco hw hof) (cwV 1 hts gX3_kindOf_X3_last rfl rfl rfl (by decide +kernel) ⟨Nat.le_of_ble_eq_true rfl, Nat.le_of_ble_eq_true rfl⟩) hP hK 3 0 rfl rfl rfl hl.1 rfl (Nat.le_of_ble_eq_true rfl) dX3_kindOf_2 ⟨Nat.zero_le _, Nat.zero_le _⟩ (fun r hw => ?_)
  subst hw
  refine lv_istore_n (lv' := [(2, .int (encO (lastF ofs w co))), (0, .ref m0), (1, .int (nI w))]) hx hb dX3_kindOf_5 rfl hl (by decide) rfl (fun ls hl => ?_)
  refine lv_iload_n hx hb dX3_kindOf_6 rfl (lv_at hl 0 rfl) ?_
  refine lv_if_ge (tgt := 14) hx hb dX3_kindOf_7 (by decide) (fun c7 => ?_) (fun c7 => ?_)
  · obtain ⟨k0, hL⟩ := encO_ge c7
    have h9 := (lastF_lt hL).1
    refine lv_aload_n hx hb dX3_kindOf_14 rfl (lv_at hl 1 rfl) ?_
    refine va_get (D := (dC, dI)) (ci := 3) (v := .ref m3) (C := RX3) (T := TX3) (N := 11) hx hb hts iX3 hown hK hP 0 rfl rfl 5 (by decide) l16 (fun _ h9 => h9) rfl dX3_kindOf_15 ?_
    refine lv_iload_n hx hb dX3_kindOf_18 rfl (lv_at hl 0 rfl) ?_
    refine mv_iald hx hb hK hP 3 0 rfl rfl (k := k0) (by rw [hL]; rfl) (by omega) (by decide) (v := kd k0) rfl dX3_kindOf_19 ?_
    exact hret (kd k0) (rfl) (by unfold atM; rw [hL]) dX3_kindOf_20
  · have hL := encO_lt (by omega) c7
    refine lv_iconst (v := 0) hx hb dX3_kindOf_10 (by decide) ?_
    refine lv_goto (tgt := 20) hx hb dX3_kindOf_11 (by decide) ?_
    exact hret 0 (rfl) (by unfold atM; rw [hL]) dX3_kindOf_20
set_option maxHeartbeats 4000000 in
set_option maxRecDepth 100000 in
theorem c_X3_valueOf (l : Launch) (dC : Nat → ClassId) (dI : Nat → Nat → Nat) (cI : ClassId) (m0 m1 m2 m3 m4 m5 m6 : Nat) (th : Int32) (gr co : Nat) (ofs grp : Nat → Nat) (kd vl : Nat → Int32) (ro : Nat) (fr : Nat → Nat) (nm : Nat → Int32) (dr : Nat) (w : Nat) (hco : co ≤ 4200) (hw : w < 2 ^ 31) (hof : ∀ i, i < co → ofs i < 2 ^ 31) : mRi l yX3_valueOf wsX3_valueOf ({ frames := 1, cells := 0, slots := 0, locals := 23 }) (dC, dI) cI [.ref m0, .int (nI w)] (wM cI m0 m1 m2 m3 m4 m5 m6 th gr co ofs grp kd vl ro fr nm dr) (fun r => r = atM ofs vl w co) := by
  refine m_ofR (cc := cX3_valueOf) (maxL := 3) (by decide) rfl (Nat.le_of_ble_eq_true rfl) ?_
  intro p e s m args below meth c ls Q hx hb hts hown hml hP hK hl hret
  have hown : s.vm.findClass RX3 = some m.cls := hown
  have hl : lv_has ls 3 [(0, .ref m0), (1, .int (nI w))] := hl
  have l19 := hts (.fieldLink RX3 19 "GroupDeskModel" "value" "[I") (by decide +kernel)
  have iX3 : ∀ w ∈ u_ws RX3 TX3 11, w ∈ wsX3_valueOf := by decide +kernel
  refine lv_aload_n hx hb dX3_valueOf_0 rfl (lv_at hl 0 rfl) ?_
  refine lv_iload_n hx hb dX3_valueOf_1 rfl (lv_at hl 1 rfl) ?_
  refine m_rV (As := [.int (nI w)]) (rest := []) ⟨hx, hb, hml, hown, hts⟩ (c_X3_last l dC dI cI m0 m1 m2 m3 m4 m5 m6 th gr co ofs grp kd vl ro fr nm dr w hco hw hof) (cwV 1 hts gX3_valueOf_X3_last rfl rfl rfl (by decide +kernel) ⟨Nat.le_of_ble_eq_true rfl, Nat.le_of_ble_eq_true rfl⟩) hP hK 3 0 rfl rfl rfl hl.1 rfl (Nat.le_of_ble_eq_true rfl) dX3_valueOf_2 ⟨Nat.zero_le _, Nat.zero_le _⟩ (fun r hw => ?_)
  subst hw
  refine lv_istore_n (lv' := [(2, .int (encO (lastF ofs w co))), (0, .ref m0), (1, .int (nI w))]) hx hb dX3_valueOf_5 rfl hl (by decide) rfl (fun ls hl => ?_)
  refine lv_iload_n hx hb dX3_valueOf_6 rfl (lv_at hl 0 rfl) ?_
  refine lv_if_ge (tgt := 14) hx hb dX3_valueOf_7 (by decide) (fun c7 => ?_) (fun c7 => ?_)
  · obtain ⟨k0, hL⟩ := encO_ge c7
    have h9 := (lastF_lt hL).1
    refine lv_aload_n hx hb dX3_valueOf_14 rfl (lv_at hl 1 rfl) ?_
    refine va_get (D := (dC, dI)) (ci := 3) (v := .ref m4) (C := RX3) (T := TX3) (N := 11) hx hb hts iX3 hown hK hP 0 rfl rfl 6 (by decide) l19 (fun _ h9 => h9) rfl dX3_valueOf_15 ?_
    refine lv_iload_n hx hb dX3_valueOf_18 rfl (lv_at hl 0 rfl) ?_
    refine mv_iald hx hb hK hP 4 0 rfl rfl (k := k0) (by rw [hL]; rfl) (by omega) (by decide) (v := vl k0) rfl dX3_valueOf_19 ?_
    exact hret (vl k0) (rfl) (by unfold atM; rw [hL]) dX3_valueOf_20
  · have hL := encO_lt (by omega) c7
    refine lv_iconst (v := 0) hx hb dX3_valueOf_10 (by decide) ?_
    refine lv_goto (tgt := 20) hx hb dX3_valueOf_11 (by decide) ?_
    exact hret 0 (rfl) (by unfold atM; rw [hL]) dX3_valueOf_20
set_option maxHeartbeats 4000000 in
set_option maxRecDepth 100000 in
theorem c_X3_size (l : Launch) (dC : Nat → ClassId) (dI : Nat → Nat → Nat) (cI : ClassId) (m0 m1 m2 m3 m4 m5 m6 : Nat) (th : Int32) (gr co : Nat) (ofs grp : Nat → Nat) (kd vl : Nat → Int32) (ro : Nat) (fr : Nat → Nat) (nm : Nat → Int32) (dr : Nat) (row : Nat) (hr : row + 1 < 4200) : mRi l yX3_size wsX3_size ({ frames := 0, cells := 0, slots := 0, locals := 0 }) (dC, dI) cI [.ref m0, .int (nI row)] (wM cI m0 m1 m2 m3 m4 m5 m6 th gr co ofs grp kd vl ro fr nm dr) (fun r => r = sizeM fr row) := by
  refine m_ofR (cc := cX3_size) (maxL := 2) (by decide) rfl (Nat.le_of_ble_eq_true rfl) ?_
  intro p e s m args below meth c ls Q hx hb hts hown hml hP hK hl hret
  have hown : s.vm.findClass RX3 = some m.cls := hown
  have hl : lv_has ls 2 [(0, .ref m0), (1, .int (nI row))] := hl
  have l26 := hts (.fieldLink RX3 26 "GroupDeskModel" "from" "[I") (by decide +kernel)
  have iX3 : ∀ w ∈ u_ws RX3 TX3 11, w ∈ wsX3_size := by decide +kernel
  refine lv_iload_n hx hb dX3_size_0 rfl (lv_at hl 1 rfl) ?_
  refine lv_if_ne (tgt := 8) hx hb dX3_size_1 (by decide) (fun c1 => ?_) (fun c1 => ?_)
  · refine lv_aload_n hx hb dX3_size_8 rfl (lv_at hl 0 rfl) ?_
    refine va_get (D := (dC, dI)) (ci := 3) (v := .ref m5) (C := RX3) (T := TX3) (N := 11) hx hb hts iX3 hown hK hP 0 rfl rfl 8 (by decide) l26 (fun _ h9 => h9) rfl dX3_size_9 ?_
    refine lv_iload_n hx hb dX3_size_12 rfl (lv_at hl 1 rfl) ?_
    refine lv_iconst (v := 1) hx hb dX3_size_13 (by decide) ?_
    refine lv_iadd hx hb dX3_size_14 ?_
    refine mv_top (v := nI (row + 1)) (nI_1 row) ?_
    refine mv_iald hx hb hK hP 5 0 rfl rfl (k := row + 1) (rfl) (by omega) (by decide) (v := nI (fr (row + 1))) rfl dX3_size_15 ?_
    refine lv_aload_n hx hb dX3_size_16 rfl (lv_at hl 0 rfl) ?_
    refine va_get (D := (dC, dI)) (ci := 3) (v := .ref m5) (C := RX3) (T := TX3) (N := 11) hx hb hts iX3 hown hK hP 0 rfl rfl 8 (by decide) l26 (fun _ h9 => h9) rfl dX3_size_17 ?_
    refine lv_iload_n hx hb dX3_size_20 rfl (lv_at hl 1 rfl) ?_
    refine mv_iald hx hb hK hP 5 0 rfl rfl (k := row) (rfl) (by omega) (by decide) (v := nI (fr row)) rfl dX3_size_21 ?_
    refine lv_isub hx hb dX3_size_22 ?_
    exact hret ((nI (fr (row + 1))) - (nI (fr row))) (rfl) (by unfold sizeM; rw [if_neg (fun h => c1 (by rw [h]; rfl))]) dX3_size_23
  · refine lv_iconst (v := 0) hx hb dX3_size_4 (by decide) ?_
    refine lv_goto (tgt := 23) hx hb dX3_size_5 (by decide) ?_
    exact hret 0 (rfl) (by unfold sizeM; rw [if_pos ((nI_eq (by omega) (by decide)).mp (c1.trans nI_0.symm))]) dX3_size_23
set_option maxHeartbeats 4000000 in
set_option maxRecDepth 100000 in
theorem c_X3_taken (l : Launch) (dC : Nat → ClassId) (dI : Nat → Nat → Nat) (cI : ClassId) (m0 m1 m2 m3 m4 m5 m6 : Nat) (th : Int32) (gr co : Nat) (ofs grp : Nat → Nat) (kd vl : Nat → Int32) (ro : Nat) (fr : Nat → Nat) (nm : Nat → Int32) (dr : Nat)  (hro : ro + 1 < 4200) : mWi l yX3_taken wsX3_taken ({ frames := 0, cells := 0, slots := 0, locals := 0 }) (dC, dI) cI [.ref m0] (wM cI m0 m1 m2 m3 m4 m5 m6 th gr co ofs grp kd vl ro fr nm dr) (fun r u => r = nI ro ∧ u = (ro + 1, va_up fr (ro + 1) (fr ro + dr), 0)) (fun u : Nat × (Nat → Nat) × Nat => wM cI m0 m1 m2 m3 m4 m5 m6 th gr co ofs grp kd vl u.1 u.2.1 nm u.2.2) := by
  refine m_ofWi (cc := cX3_taken) (maxL := 2) (by decide) rfl (Nat.le_of_ble_eq_true rfl) ?_
  intro p e s m args below meth c ls A Q hx hb hts hown hml hP hK hD hA hS hl hret
  have hown : s.vm.findClass RX3 = some m.cls := hown
  have hl : lv_has ls 2 [(0, .ref m0)] := hl
  have l22 := hts (.fieldLink RX3 22 "GroupDeskModel" "rows" "I") (by decide +kernel)
  have l26 := hts (.fieldLink RX3 26 "GroupDeskModel" "from" "[I") (by decide +kernel)
  have l60 := hts (.fieldLink RX3 60 "GroupDeskModel" "drafted" "I") (by decide +kernel)
  have iX3 : ∀ w ∈ u_ws RX3 TX3 11, w ∈ wsX3_taken := by decide +kernel
  refine lv_aload_n hx hb dX3_taken_0 rfl (lv_at hl 0 rfl) ?_
  refine va_get (D := (dC, dI)) (ci := 3) (v := .int (nI ro)) (C := RX3) (T := TX3) (N := 11) hx hb hts iX3 hown hK hP 0 rfl rfl 7 (by decide) l22 (fun _ h9 => h9) rfl dX3_taken_1 ?_
  refine lv_istore_n (lv' := [(1, .int (nI ro)), (0, .ref m0)]) hx hb dX3_taken_4 rfl hl (by decide) rfl (fun ls hl => ?_)
  refine lv_aload_n hx hb dX3_taken_5 rfl (lv_at hl 1 rfl) ?_
  refine lv_dup hx hb dX3_taken_6 rfl ?_
  refine va_get (D := (dC, dI)) (ci := 3) (v := .int (nI ro)) (C := RX3) (T := TX3) (N := 11) hx hb hts iX3 hown hK hP 0 rfl rfl 7 (by decide) l22 (fun _ h9 => h9) rfl dX3_taken_7 ?_
  refine lv_iconst (v := 1) hx hb dX3_taken_10 (by decide) ?_
  refine lv_iadd hx hb dX3_taken_11 ?_
  refine mv_top (v := nI (ro + 1)) (nI_1 ro) ?_
  refine va_put (D := (dC, dI)) (ci := 3) (v := .int (nI (ro + 1))) (ty := .int) (C := RX3) (T := TX3) (N := 11) hx hb hts iX3 tyX3 tyX3_ok nmX3 hown hK hP hD hS 0 rfl rfl 7 (by decide) l22 (fun _ h9 => h9) rfl (by decide +kernel) rfl rfl (Nat.le_of_ble_eq_true rfl) dX3_taken_12 (fun H locs hP hD hS => ?_)
  have hP : va_P (dC, dI) vwCl (wM cI m0 m1 m2 m3 m4 m5 m6 th gr co ofs grp kd vl (ro + 1) fr nm dr) _ := hP
  have hD : va_D A (wM cI m0 m1 m2 m3 m4 m5 m6 th gr co ofs grp kd vl (ro + 1) fr nm dr) := hD
  refine lv_aload_n hx hb dX3_taken_15 rfl (lv_at hl 1 rfl) ?_
  refine va_get (D := (dC, dI)) (ci := 3) (v := .ref m5) (C := RX3) (T := TX3) (N := 11) hx hb hts iX3 hown hK hP 0 rfl rfl 8 (by decide) l26 (fun _ h9 => h9) rfl dX3_taken_16 ?_
  refine lv_aload_n hx hb dX3_taken_19 rfl (lv_at hl 1 rfl) ?_
  refine va_get (D := (dC, dI)) (ci := 3) (v := .int (nI (ro + 1))) (C := RX3) (T := TX3) (N := 11) hx hb hts iX3 hown hK hP 0 rfl rfl 7 (by decide) l22 (fun _ h9 => h9) rfl dX3_taken_20 ?_
  refine lv_aload_n hx hb dX3_taken_23 rfl (lv_at hl 1 rfl) ?_
  refine va_get (D := (dC, dI)) (ci := 3) (v := .ref m5) (C := RX3) (T := TX3) (N := 11) hx hb hts iX3 hown hK hP 0 rfl rfl 8 (by decide) l26 (fun _ h9 => h9) rfl dX3_taken_24 ?_
  refine lv_iload_n hx hb dX3_taken_27 rfl (lv_at hl 0 rfl) ?_
  refine mv_iald hx hb hK hP 5 0 rfl rfl (k := ro) (rfl) (by omega) (by decide) (v := nI (fr ro)) rfl dX3_taken_28 ?_
  refine lv_aload_n hx hb dX3_taken_29 rfl (lv_at hl 1 rfl) ?_
  refine va_get (D := (dC, dI)) (ci := 3) (v := .int (nI dr)) (C := RX3) (T := TX3) (N := 11) hx hb hts iX3 hown hK hP 0 rfl rfl 10 (by decide) l60 (fun _ h9 => h9) rfl dX3_taken_30 ?_
  refine lv_iadd hx hb dX3_taken_33 ?_
  refine mv_top (v := nI (fr ro + dr)) (nI_add (fr ro) dr) ?_
  refine mv_iast hx hb hK hP hD hS 5 0 rfl rfl (k := ro + 1) (rfl) (by omega) (by decide) (f' := nF (va_up fr (ro + 1) (fr ro + dr))) (nF_up _ _ _) dX3_taken_34 (fun H locs hP hD hS => ?_)
  have hP : va_P (dC, dI) vwCl (wM cI m0 m1 m2 m3 m4 m5 m6 th gr co ofs grp kd vl (ro + 1) (va_up fr (ro + 1) (fr ro + dr)) nm dr) _ := hP
  have hD : va_D A (wM cI m0 m1 m2 m3 m4 m5 m6 th gr co ofs grp kd vl (ro + 1) (va_up fr (ro + 1) (fr ro + dr)) nm dr) := hD
  refine lv_aload_n hx hb dX3_taken_35 rfl (lv_at hl 1 rfl) ?_
  refine lv_iconst (v := 0) hx hb dX3_taken_36 (by decide) ?_
  refine mv_top (v := nI 0) rfl ?_
  refine va_put (D := (dC, dI)) (ci := 3) (v := .int (nI 0)) (ty := .int) (C := RX3) (T := TX3) (N := 11) hx hb hts iX3 tyX3 tyX3_ok nmX3 hown hK hP hD hS 0 rfl rfl 10 (by decide) l60 (fun _ h9 => h9) rfl (by decide +kernel) rfl rfl (Nat.le_of_ble_eq_true rfl) dX3_taken_37 (fun H locs hP hD hS => ?_)
  have hP : va_P (dC, dI) vwCl (wM cI m0 m1 m2 m3 m4 m5 m6 th gr co ofs grp kd vl (ro + 1) (va_up fr (ro + 1) (fr ro + dr)) nm 0) _ := hP
  have hD : va_D A (wM cI m0 m1 m2 m3 m4 m5 m6 th gr co ofs grp kd vl (ro + 1) (va_up fr (ro + 1) (fr ro + dr)) nm 0) := hD
  refine lv_iload_n hx hb dX3_taken_40 rfl (lv_at hl 0 rfl) ?_
  exact hret (nI ro) ((ro + 1, va_up fr (ro + 1) (fr ro + dr), 0)) (rfl) (⟨rfl, rfl⟩) hP hD hS dX3_taken_41
set_option maxHeartbeats 4000000 in
set_option maxRecDepth 100000 in
theorem c_X3_assign (l : Launch) (dC : Nat → ClassId) (dI : Nat → Nat → Nat) (cI : ClassId) (m0 m1 m2 m3 m4 m5 m6 : Nat) (th : Int32) (gr co : Nat) (ofs grp : Nat → Nat) (kd vl : Nat → Int32) (ro : Nat) (fr : Nat → Nat) (nm : Nat → Int32) (dr : Nat) (w : Nat) (k v g : Int32) (hco : co < 4200) (hg : gr < 2 ^ 31) (hgr : ∀ i, i < co → grp i < 2 ^ 31) : mWv l yX3_assign wsX3_assign ({ frames := 1, cells := 0, slots := 0, locals := 24 }) (dC, dI) cI [.ref m0, .int (nI w), .int k, .int v, .int g] (wM cI m0 m1 m2 m3 m4 m5 m6 th gr co ofs grp kd vl ro fr nm dr) (fun u => u = asgM w k v g gr co ofs grp kd vl) (fun u : Nat × (Nat → Nat) × (Nat → Nat) × (Nat → Int32) × (Nat → Int32) => wM cI m0 m1 m2 m3 m4 m5 m6 th gr u.1 u.2.1 u.2.2.1 u.2.2.2.1 u.2.2.2.2 ro fr nm dr) := by
  refine m_ofWv (cc := cX3_assign) (maxL := 6) (by decide) rfl (Nat.le_of_ble_eq_true rfl) ?_
  intro p e s m args below meth c ls A Q hx hb hts hown hml hP hK hD hA hS hl hret
  have hown : s.vm.findClass RX3 = some m.cls := hown
  have hl : lv_has ls 6 [(0, .ref m0), (1, .int (nI w)), (2, .int k), (3, .int v), (4, .int g)] := hl
  have l35 := hts (.fieldLink RX3 35 "GroupDeskModel" "groups" "I") (by decide +kernel)
  have l7 := hts (.fieldLink RX3 7 "GroupDeskModel" "of" "[I") (by decide +kernel)
  have l38 := hts (.fieldLink RX3 38 "GroupDeskModel" "count" "I") (by decide +kernel)
  have l13 := hts (.fieldLink RX3 13 "GroupDeskModel" "group" "[I") (by decide +kernel)
  have l16 := hts (.fieldLink RX3 16 "GroupDeskModel" "kind" "[I") (by decide +kernel)
  have l19 := hts (.fieldLink RX3 19 "GroupDeskModel" "value" "[I") (by decide +kernel)
  have iX3 : ∀ w ∈ u_ws RX3 TX3 11, w ∈ wsX3_assign := by decide +kernel
  refine lv_iload hx hb dX3_assign_0 (lv_at hl 4 rfl) ?_
  refine lv_if_eq (tgt := 9) hx hb dX3_assign_2 (by decide) (fun c2 => ?_) (fun c2 => ?_)
  · refine lv_aload_n hx hb dX3_assign_9 rfl (lv_at hl 0 rfl) ?_
    refine va_get (D := (dC, dI)) (ci := 3) (v := .int (nI gr)) (C := RX3) (T := TX3) (N := 11) hx hb hts iX3 hown hK hP 0 rfl rfl 1 (by decide) l35 (fun _ h9 => h9) rfl dX3_assign_10 ?_
    refine lv_istore (lv' := [(5, .int (nI gr)), (0, .ref m0), (1, .int (nI w)), (2, .int k), (3, .int v), (4, .int g)]) hx hb dX3_assign_13 hl (by decide) rfl (fun ls hl => ?_)
    refine lv_aload_n hx hb dX3_assign_15 rfl (lv_at hl 1 rfl) ?_
    refine lv_iload_n hx hb dX3_assign_16 rfl (lv_at hl 2 rfl) ?_
    refine lv_iload hx hb dX3_assign_17 (lv_at hl 0 rfl) ?_
    have hP : va_P (dC, dI) vwCl ([] ++ (wM cI m0 m1 m2 m3 m4 m5 m6 th gr co ofs grp kd vl ro fr nm dr)) _ := hP
    have hD : va_D A ([] ++ (wM cI m0 m1 m2 m3 m4 m5 m6 th gr co ofs grp kd vl ro fr nm dr)) := hD
    refine m_wVv (As := [.int (nI w), .int (nI gr)]) (rest := []) ⟨hx, hb, hml, hown, hts⟩ (c_X3_drop l dC dI cI m0 m1 m2 m3 m4 m5 m6 th gr co ofs grp kd vl ro fr nm dr (nI w) gr (by omega) (by omega) hgr) (cwV 2 hts gX3_assign_X3_drop rfl rfl rfl (by decide +kernel) ⟨Nat.le_of_ble_eq_true rfl, Nat.le_of_ble_eq_true rfl⟩) hP hK hD hS hA 3 0 rfl rfl rfl hl.1 rfl (Nat.le_of_ble_eq_true rfl) dX3_assign_19 ⟨Nat.zero_le _, Nat.zero_le _⟩ (fun u H locs hw hP hD hS => ?_)
    subst hw
    have hP : va_P (dC, dI) vwCl (wM cI m0 m1 m2 m3 m4 m5 m6 th gr ((dropF (kp (nI w) gr) co 0 0 ofs grp kd vl).1) ((dropF (kp (nI w) gr) co 0 0 ofs grp kd vl).2.1) ((dropF (kp (nI w) gr) co 0 0 ofs grp kd vl).2.2.1) ((dropF (kp (nI w) gr) co 0 0 ofs grp kd vl).2.2.2.1) ((dropF (kp (nI w) gr) co 0 0 ofs grp kd vl).2.2.2.2) ro fr nm dr) _ := hP
    have hD : va_D A (wM cI m0 m1 m2 m3 m4 m5 m6 th gr ((dropF (kp (nI w) gr) co 0 0 ofs grp kd vl).1) ((dropF (kp (nI w) gr) co 0 0 ofs grp kd vl).2.1) ((dropF (kp (nI w) gr) co 0 0 ofs grp kd vl).2.2.1) ((dropF (kp (nI w) gr) co 0 0 ofs grp kd vl).2.2.2.1) ((dropF (kp (nI w) gr) co 0 0 ofs grp kd vl).2.2.2.2) ro fr nm dr) := hD
    refine lv_aload_n hx hb dX3_assign_22 rfl (lv_at hl 1 rfl) ?_
    refine va_get (D := (dC, dI)) (ci := 3) (v := .ref m1) (C := RX3) (T := TX3) (N := 11) hx hb hts iX3 hown hK hP 0 rfl rfl 3 (by decide) l7 (fun _ h9 => h9) rfl dX3_assign_23 ?_
    refine lv_aload_n hx hb dX3_assign_26 rfl (lv_at hl 1 rfl) ?_
    refine va_get (D := (dC, dI)) (ci := 3) (v := .int (nI ((dropF (kp (nI w) gr) co 0 0 ofs grp kd vl).1))) (C := RX3) (T := TX3) (N := 11) hx hb hts iX3 hown hK hP 0 rfl rfl 2 (by decide) l38 (fun _ h9 => h9) rfl dX3_assign_27 ?_
    refine lv_iload_n hx hb dX3_assign_30 rfl (lv_at hl 2 rfl) ?_
    refine mv_iast hx hb hK hP hD hS 1 0 rfl rfl (k := (dropF (kp (nI w) gr) co 0 0 ofs grp kd vl).1) (rfl) (by have := dropF_le (keep := kp (nI w) gr) (n := co) (k := 0) (j := 0) (ofs := ofs) (grp := grp) (kd := kd) (vl := vl); omega) (by decide) (f' := nF (va_up ((dropF (kp (nI w) gr) co 0 0 ofs grp kd vl).2.1) ((dropF (kp (nI w) gr) co 0 0 ofs grp kd vl).1) w)) (nF_up _ _ _) dX3_assign_31 (fun H locs hP hD hS => ?_)
    have hP : va_P (dC, dI) vwCl (wM cI m0 m1 m2 m3 m4 m5 m6 th gr ((dropF (kp (nI w) gr) co 0 0 ofs grp kd vl).1) (va_up ((dropF (kp (nI w) gr) co 0 0 ofs grp kd vl).2.1) ((dropF (kp (nI w) gr) co 0 0 ofs grp kd vl).1) w) ((dropF (kp (nI w) gr) co 0 0 ofs grp kd vl).2.2.1) ((dropF (kp (nI w) gr) co 0 0 ofs grp kd vl).2.2.2.1) ((dropF (kp (nI w) gr) co 0 0 ofs grp kd vl).2.2.2.2) ro fr nm dr) _ := hP
    have hD : va_D A (wM cI m0 m1 m2 m3 m4 m5 m6 th gr ((dropF (kp (nI w) gr) co 0 0 ofs grp kd vl).1) (va_up ((dropF (kp (nI w) gr) co 0 0 ofs grp kd vl).2.1) ((dropF (kp (nI w) gr) co 0 0 ofs grp kd vl).1) w) ((dropF (kp (nI w) gr) co 0 0 ofs grp kd vl).2.2.1) ((dropF (kp (nI w) gr) co 0 0 ofs grp kd vl).2.2.2.1) ((dropF (kp (nI w) gr) co 0 0 ofs grp kd vl).2.2.2.2) ro fr nm dr) := hD
    refine lv_aload_n hx hb dX3_assign_32 rfl (lv_at hl 1 rfl) ?_
    refine va_get (D := (dC, dI)) (ci := 3) (v := .ref m2) (C := RX3) (T := TX3) (N := 11) hx hb hts iX3 hown hK hP 0 rfl rfl 4 (by decide) l13 (fun _ h9 => h9) rfl dX3_assign_33 ?_
    refine lv_aload_n hx hb dX3_assign_36 rfl (lv_at hl 1 rfl) ?_
    refine va_get (D := (dC, dI)) (ci := 3) (v := .int (nI ((dropF (kp (nI w) gr) co 0 0 ofs grp kd vl).1))) (C := RX3) (T := TX3) (N := 11) hx hb hts iX3 hown hK hP 0 rfl rfl 2 (by decide) l38 (fun _ h9 => h9) rfl dX3_assign_37 ?_
    refine lv_iload hx hb dX3_assign_40 (lv_at hl 0 rfl) ?_
    refine mv_iast hx hb hK hP hD hS 2 0 rfl rfl (k := (dropF (kp (nI w) gr) co 0 0 ofs grp kd vl).1) (rfl) (by have := dropF_le (keep := kp (nI w) gr) (n := co) (k := 0) (j := 0) (ofs := ofs) (grp := grp) (kd := kd) (vl := vl); omega) (by decide) (f' := nF (va_up ((dropF (kp (nI w) gr) co 0 0 ofs grp kd vl).2.2.1) ((dropF (kp (nI w) gr) co 0 0 ofs grp kd vl).1) gr)) (nF_up _ _ _) dX3_assign_42 (fun H locs hP hD hS => ?_)
    have hP : va_P (dC, dI) vwCl (wM cI m0 m1 m2 m3 m4 m5 m6 th gr ((dropF (kp (nI w) gr) co 0 0 ofs grp kd vl).1) (va_up ((dropF (kp (nI w) gr) co 0 0 ofs grp kd vl).2.1) ((dropF (kp (nI w) gr) co 0 0 ofs grp kd vl).1) w) (va_up ((dropF (kp (nI w) gr) co 0 0 ofs grp kd vl).2.2.1) ((dropF (kp (nI w) gr) co 0 0 ofs grp kd vl).1) gr) ((dropF (kp (nI w) gr) co 0 0 ofs grp kd vl).2.2.2.1) ((dropF (kp (nI w) gr) co 0 0 ofs grp kd vl).2.2.2.2) ro fr nm dr) _ := hP
    have hD : va_D A (wM cI m0 m1 m2 m3 m4 m5 m6 th gr ((dropF (kp (nI w) gr) co 0 0 ofs grp kd vl).1) (va_up ((dropF (kp (nI w) gr) co 0 0 ofs grp kd vl).2.1) ((dropF (kp (nI w) gr) co 0 0 ofs grp kd vl).1) w) (va_up ((dropF (kp (nI w) gr) co 0 0 ofs grp kd vl).2.2.1) ((dropF (kp (nI w) gr) co 0 0 ofs grp kd vl).1) gr) ((dropF (kp (nI w) gr) co 0 0 ofs grp kd vl).2.2.2.1) ((dropF (kp (nI w) gr) co 0 0 ofs grp kd vl).2.2.2.2) ro fr nm dr) := hD
    refine lv_aload_n hx hb dX3_assign_43 rfl (lv_at hl 1 rfl) ?_
    refine va_get (D := (dC, dI)) (ci := 3) (v := .ref m3) (C := RX3) (T := TX3) (N := 11) hx hb hts iX3 hown hK hP 0 rfl rfl 5 (by decide) l16 (fun _ h9 => h9) rfl dX3_assign_44 ?_
    refine lv_aload_n hx hb dX3_assign_47 rfl (lv_at hl 1 rfl) ?_
    refine va_get (D := (dC, dI)) (ci := 3) (v := .int (nI ((dropF (kp (nI w) gr) co 0 0 ofs grp kd vl).1))) (C := RX3) (T := TX3) (N := 11) hx hb hts iX3 hown hK hP 0 rfl rfl 2 (by decide) l38 (fun _ h9 => h9) rfl dX3_assign_48 ?_
    refine lv_iload_n hx hb dX3_assign_51 rfl (lv_at hl 3 rfl) ?_
    refine mv_iast hx hb hK hP hD hS 3 0 rfl rfl (k := (dropF (kp (nI w) gr) co 0 0 ofs grp kd vl).1) (rfl) (by have := dropF_le (keep := kp (nI w) gr) (n := co) (k := 0) (j := 0) (ofs := ofs) (grp := grp) (kd := kd) (vl := vl); omega) (by decide) (f' := upd ((dropF (kp (nI w) gr) co 0 0 ofs grp kd vl).2.2.2.1) ((dropF (kp (nI w) gr) co 0 0 ofs grp kd vl).1) k) (rfl) dX3_assign_52 (fun H locs hP hD hS => ?_)
    have hP : va_P (dC, dI) vwCl (wM cI m0 m1 m2 m3 m4 m5 m6 th gr ((dropF (kp (nI w) gr) co 0 0 ofs grp kd vl).1) (va_up ((dropF (kp (nI w) gr) co 0 0 ofs grp kd vl).2.1) ((dropF (kp (nI w) gr) co 0 0 ofs grp kd vl).1) w) (va_up ((dropF (kp (nI w) gr) co 0 0 ofs grp kd vl).2.2.1) ((dropF (kp (nI w) gr) co 0 0 ofs grp kd vl).1) gr) (upd ((dropF (kp (nI w) gr) co 0 0 ofs grp kd vl).2.2.2.1) ((dropF (kp (nI w) gr) co 0 0 ofs grp kd vl).1) k) ((dropF (kp (nI w) gr) co 0 0 ofs grp kd vl).2.2.2.2) ro fr nm dr) _ := hP
    have hD : va_D A (wM cI m0 m1 m2 m3 m4 m5 m6 th gr ((dropF (kp (nI w) gr) co 0 0 ofs grp kd vl).1) (va_up ((dropF (kp (nI w) gr) co 0 0 ofs grp kd vl).2.1) ((dropF (kp (nI w) gr) co 0 0 ofs grp kd vl).1) w) (va_up ((dropF (kp (nI w) gr) co 0 0 ofs grp kd vl).2.2.1) ((dropF (kp (nI w) gr) co 0 0 ofs grp kd vl).1) gr) (upd ((dropF (kp (nI w) gr) co 0 0 ofs grp kd vl).2.2.2.1) ((dropF (kp (nI w) gr) co 0 0 ofs grp kd vl).1) k) ((dropF (kp (nI w) gr) co 0 0 ofs grp kd vl).2.2.2.2) ro fr nm dr) := hD
    refine lv_aload_n hx hb dX3_assign_53 rfl (lv_at hl 1 rfl) ?_
    refine va_get (D := (dC, dI)) (ci := 3) (v := .ref m4) (C := RX3) (T := TX3) (N := 11) hx hb hts iX3 hown hK hP 0 rfl rfl 6 (by decide) l19 (fun _ h9 => h9) rfl dX3_assign_54 ?_
    refine lv_aload_n hx hb dX3_assign_57 rfl (lv_at hl 1 rfl) ?_
    refine va_get (D := (dC, dI)) (ci := 3) (v := .int (nI ((dropF (kp (nI w) gr) co 0 0 ofs grp kd vl).1))) (C := RX3) (T := TX3) (N := 11) hx hb hts iX3 hown hK hP 0 rfl rfl 2 (by decide) l38 (fun _ h9 => h9) rfl dX3_assign_58 ?_
    refine lv_iload_n hx hb dX3_assign_61 rfl (lv_at hl 4 rfl) ?_
    refine mv_iast hx hb hK hP hD hS 4 0 rfl rfl (k := (dropF (kp (nI w) gr) co 0 0 ofs grp kd vl).1) (rfl) (by have := dropF_le (keep := kp (nI w) gr) (n := co) (k := 0) (j := 0) (ofs := ofs) (grp := grp) (kd := kd) (vl := vl); omega) (by decide) (f' := upd ((dropF (kp (nI w) gr) co 0 0 ofs grp kd vl).2.2.2.2) ((dropF (kp (nI w) gr) co 0 0 ofs grp kd vl).1) v) (rfl) dX3_assign_62 (fun H locs hP hD hS => ?_)
    have hP : va_P (dC, dI) vwCl (wM cI m0 m1 m2 m3 m4 m5 m6 th gr ((dropF (kp (nI w) gr) co 0 0 ofs grp kd vl).1) (va_up ((dropF (kp (nI w) gr) co 0 0 ofs grp kd vl).2.1) ((dropF (kp (nI w) gr) co 0 0 ofs grp kd vl).1) w) (va_up ((dropF (kp (nI w) gr) co 0 0 ofs grp kd vl).2.2.1) ((dropF (kp (nI w) gr) co 0 0 ofs grp kd vl).1) gr) (upd ((dropF (kp (nI w) gr) co 0 0 ofs grp kd vl).2.2.2.1) ((dropF (kp (nI w) gr) co 0 0 ofs grp kd vl).1) k) (upd ((dropF (kp (nI w) gr) co 0 0 ofs grp kd vl).2.2.2.2) ((dropF (kp (nI w) gr) co 0 0 ofs grp kd vl).1) v) ro fr nm dr) _ := hP
    have hD : va_D A (wM cI m0 m1 m2 m3 m4 m5 m6 th gr ((dropF (kp (nI w) gr) co 0 0 ofs grp kd vl).1) (va_up ((dropF (kp (nI w) gr) co 0 0 ofs grp kd vl).2.1) ((dropF (kp (nI w) gr) co 0 0 ofs grp kd vl).1) w) (va_up ((dropF (kp (nI w) gr) co 0 0 ofs grp kd vl).2.2.1) ((dropF (kp (nI w) gr) co 0 0 ofs grp kd vl).1) gr) (upd ((dropF (kp (nI w) gr) co 0 0 ofs grp kd vl).2.2.2.1) ((dropF (kp (nI w) gr) co 0 0 ofs grp kd vl).1) k) (upd ((dropF (kp (nI w) gr) co 0 0 ofs grp kd vl).2.2.2.2) ((dropF (kp (nI w) gr) co 0 0 ofs grp kd vl).1) v) ro fr nm dr) := hD
    refine lv_aload_n hx hb dX3_assign_63 rfl (lv_at hl 1 rfl) ?_
    refine lv_dup hx hb dX3_assign_64 rfl ?_
    refine va_get (D := (dC, dI)) (ci := 3) (v := .int (nI ((dropF (kp (nI w) gr) co 0 0 ofs grp kd vl).1))) (C := RX3) (T := TX3) (N := 11) hx hb hts iX3 hown hK hP 0 rfl rfl 2 (by decide) l38 (fun _ h9 => h9) rfl dX3_assign_65 ?_
    refine lv_iconst (v := 1) hx hb dX3_assign_68 (by decide) ?_
    refine lv_iadd hx hb dX3_assign_69 ?_
    refine mv_top (v := nI (((dropF (kp (nI w) gr) co 0 0 ofs grp kd vl).1) + 1)) (nI_1 ((dropF (kp (nI w) gr) co 0 0 ofs grp kd vl).1)) ?_
    refine va_put (D := (dC, dI)) (ci := 3) (v := .int (nI (((dropF (kp (nI w) gr) co 0 0 ofs grp kd vl).1) + 1))) (ty := .int) (C := RX3) (T := TX3) (N := 11) hx hb hts iX3 tyX3 tyX3_ok nmX3 hown hK hP hD hS 0 rfl rfl 2 (by decide) l38 (fun _ h9 => h9) rfl (by decide +kernel) rfl rfl (Nat.le_of_ble_eq_true rfl) dX3_assign_70 (fun H locs hP hD hS => ?_)
    have hP : va_P (dC, dI) vwCl (wM cI m0 m1 m2 m3 m4 m5 m6 th gr (((dropF (kp (nI w) gr) co 0 0 ofs grp kd vl).1) + 1) (va_up ((dropF (kp (nI w) gr) co 0 0 ofs grp kd vl).2.1) ((dropF (kp (nI w) gr) co 0 0 ofs grp kd vl).1) w) (va_up ((dropF (kp (nI w) gr) co 0 0 ofs grp kd vl).2.2.1) ((dropF (kp (nI w) gr) co 0 0 ofs grp kd vl).1) gr) (upd ((dropF (kp (nI w) gr) co 0 0 ofs grp kd vl).2.2.2.1) ((dropF (kp (nI w) gr) co 0 0 ofs grp kd vl).1) k) (upd ((dropF (kp (nI w) gr) co 0 0 ofs grp kd vl).2.2.2.2) ((dropF (kp (nI w) gr) co 0 0 ofs grp kd vl).1) v) ro fr nm dr) _ := hP
    have hD : va_D A (wM cI m0 m1 m2 m3 m4 m5 m6 th gr (((dropF (kp (nI w) gr) co 0 0 ofs grp kd vl).1) + 1) (va_up ((dropF (kp (nI w) gr) co 0 0 ofs grp kd vl).2.1) ((dropF (kp (nI w) gr) co 0 0 ofs grp kd vl).1) w) (va_up ((dropF (kp (nI w) gr) co 0 0 ofs grp kd vl).2.2.1) ((dropF (kp (nI w) gr) co 0 0 ofs grp kd vl).1) gr) (upd ((dropF (kp (nI w) gr) co 0 0 ofs grp kd vl).2.2.2.1) ((dropF (kp (nI w) gr) co 0 0 ofs grp kd vl).1) k) (upd ((dropF (kp (nI w) gr) co 0 0 ofs grp kd vl).2.2.2.2) ((dropF (kp (nI w) gr) co 0 0 ofs grp kd vl).1) v) ro fr nm dr) := hD
    exact hret ((((dropF (kp (nI w) gr) co 0 0 ofs grp kd vl).1) + 1, va_up ((dropF (kp (nI w) gr) co 0 0 ofs grp kd vl).2.1) ((dropF (kp (nI w) gr) co 0 0 ofs grp kd vl).1) w, va_up ((dropF (kp (nI w) gr) co 0 0 ofs grp kd vl).2.2.1) ((dropF (kp (nI w) gr) co 0 0 ofs grp kd vl).1) gr, upd ((dropF (kp (nI w) gr) co 0 0 ofs grp kd vl).2.2.2.1) ((dropF (kp (nI w) gr) co 0 0 ofs grp kd vl).1) k, upd ((dropF (kp (nI w) gr) co 0 0 ofs grp kd vl).2.2.2.2) ((dropF (kp (nI w) gr) co 0 0 ofs grp kd vl).1) v)) (by unfold asgM; rw [if_pos c2]) hP hD hS dX3_assign_73
  · refine lv_iconst (v := 0) hx hb dX3_assign_5 (by decide) ?_
    refine lv_goto (tgt := 13) hx hb dX3_assign_6 (by decide) ?_
    refine mv_top (v := nI 0) rfl ?_
    refine lv_istore (lv' := [(5, .int (nI 0)), (0, .ref m0), (1, .int (nI w)), (2, .int k), (3, .int v), (4, .int g)]) hx hb dX3_assign_13 hl (by decide) rfl (fun ls hl => ?_)
    refine lv_aload_n hx hb dX3_assign_15 rfl (lv_at hl 1 rfl) ?_
    refine lv_iload_n hx hb dX3_assign_16 rfl (lv_at hl 2 rfl) ?_
    refine lv_iload hx hb dX3_assign_17 (lv_at hl 0 rfl) ?_
    have hP : va_P (dC, dI) vwCl ([] ++ (wM cI m0 m1 m2 m3 m4 m5 m6 th gr co ofs grp kd vl ro fr nm dr)) _ := hP
    have hD : va_D A ([] ++ (wM cI m0 m1 m2 m3 m4 m5 m6 th gr co ofs grp kd vl ro fr nm dr)) := hD
    refine m_wVv (As := [.int (nI w), .int (nI 0)]) (rest := []) ⟨hx, hb, hml, hown, hts⟩ (c_X3_drop l dC dI cI m0 m1 m2 m3 m4 m5 m6 th gr co ofs grp kd vl ro fr nm dr (nI w) 0 (by omega) (by omega) hgr) (cwV 2 hts gX3_assign_X3_drop rfl rfl rfl (by decide +kernel) ⟨Nat.le_of_ble_eq_true rfl, Nat.le_of_ble_eq_true rfl⟩) hP hK hD hS hA 3 0 rfl rfl rfl hl.1 rfl (Nat.le_of_ble_eq_true rfl) dX3_assign_19 ⟨Nat.zero_le _, Nat.zero_le _⟩ (fun u H locs hw hP hD hS => ?_)
    subst hw
    have hP : va_P (dC, dI) vwCl (wM cI m0 m1 m2 m3 m4 m5 m6 th gr ((dropF (kp (nI w) 0) co 0 0 ofs grp kd vl).1) ((dropF (kp (nI w) 0) co 0 0 ofs grp kd vl).2.1) ((dropF (kp (nI w) 0) co 0 0 ofs grp kd vl).2.2.1) ((dropF (kp (nI w) 0) co 0 0 ofs grp kd vl).2.2.2.1) ((dropF (kp (nI w) 0) co 0 0 ofs grp kd vl).2.2.2.2) ro fr nm dr) _ := hP
    have hD : va_D A (wM cI m0 m1 m2 m3 m4 m5 m6 th gr ((dropF (kp (nI w) 0) co 0 0 ofs grp kd vl).1) ((dropF (kp (nI w) 0) co 0 0 ofs grp kd vl).2.1) ((dropF (kp (nI w) 0) co 0 0 ofs grp kd vl).2.2.1) ((dropF (kp (nI w) 0) co 0 0 ofs grp kd vl).2.2.2.1) ((dropF (kp (nI w) 0) co 0 0 ofs grp kd vl).2.2.2.2) ro fr nm dr) := hD
    refine lv_aload_n hx hb dX3_assign_22 rfl (lv_at hl 1 rfl) ?_
    refine va_get (D := (dC, dI)) (ci := 3) (v := .ref m1) (C := RX3) (T := TX3) (N := 11) hx hb hts iX3 hown hK hP 0 rfl rfl 3 (by decide) l7 (fun _ h9 => h9) rfl dX3_assign_23 ?_
    refine lv_aload_n hx hb dX3_assign_26 rfl (lv_at hl 1 rfl) ?_
    refine va_get (D := (dC, dI)) (ci := 3) (v := .int (nI ((dropF (kp (nI w) 0) co 0 0 ofs grp kd vl).1))) (C := RX3) (T := TX3) (N := 11) hx hb hts iX3 hown hK hP 0 rfl rfl 2 (by decide) l38 (fun _ h9 => h9) rfl dX3_assign_27 ?_
    refine lv_iload_n hx hb dX3_assign_30 rfl (lv_at hl 2 rfl) ?_
    refine mv_iast hx hb hK hP hD hS 1 0 rfl rfl (k := (dropF (kp (nI w) 0) co 0 0 ofs grp kd vl).1) (rfl) (by have := dropF_le (keep := kp (nI w) 0) (n := co) (k := 0) (j := 0) (ofs := ofs) (grp := grp) (kd := kd) (vl := vl); omega) (by decide) (f' := nF (va_up ((dropF (kp (nI w) 0) co 0 0 ofs grp kd vl).2.1) ((dropF (kp (nI w) 0) co 0 0 ofs grp kd vl).1) w)) (nF_up _ _ _) dX3_assign_31 (fun H locs hP hD hS => ?_)
    have hP : va_P (dC, dI) vwCl (wM cI m0 m1 m2 m3 m4 m5 m6 th gr ((dropF (kp (nI w) 0) co 0 0 ofs grp kd vl).1) (va_up ((dropF (kp (nI w) 0) co 0 0 ofs grp kd vl).2.1) ((dropF (kp (nI w) 0) co 0 0 ofs grp kd vl).1) w) ((dropF (kp (nI w) 0) co 0 0 ofs grp kd vl).2.2.1) ((dropF (kp (nI w) 0) co 0 0 ofs grp kd vl).2.2.2.1) ((dropF (kp (nI w) 0) co 0 0 ofs grp kd vl).2.2.2.2) ro fr nm dr) _ := hP
    have hD : va_D A (wM cI m0 m1 m2 m3 m4 m5 m6 th gr ((dropF (kp (nI w) 0) co 0 0 ofs grp kd vl).1) (va_up ((dropF (kp (nI w) 0) co 0 0 ofs grp kd vl).2.1) ((dropF (kp (nI w) 0) co 0 0 ofs grp kd vl).1) w) ((dropF (kp (nI w) 0) co 0 0 ofs grp kd vl).2.2.1) ((dropF (kp (nI w) 0) co 0 0 ofs grp kd vl).2.2.2.1) ((dropF (kp (nI w) 0) co 0 0 ofs grp kd vl).2.2.2.2) ro fr nm dr) := hD
    refine lv_aload_n hx hb dX3_assign_32 rfl (lv_at hl 1 rfl) ?_
    refine va_get (D := (dC, dI)) (ci := 3) (v := .ref m2) (C := RX3) (T := TX3) (N := 11) hx hb hts iX3 hown hK hP 0 rfl rfl 4 (by decide) l13 (fun _ h9 => h9) rfl dX3_assign_33 ?_
    refine lv_aload_n hx hb dX3_assign_36 rfl (lv_at hl 1 rfl) ?_
    refine va_get (D := (dC, dI)) (ci := 3) (v := .int (nI ((dropF (kp (nI w) 0) co 0 0 ofs grp kd vl).1))) (C := RX3) (T := TX3) (N := 11) hx hb hts iX3 hown hK hP 0 rfl rfl 2 (by decide) l38 (fun _ h9 => h9) rfl dX3_assign_37 ?_
    refine lv_iload hx hb dX3_assign_40 (lv_at hl 0 rfl) ?_
    refine mv_iast hx hb hK hP hD hS 2 0 rfl rfl (k := (dropF (kp (nI w) 0) co 0 0 ofs grp kd vl).1) (rfl) (by have := dropF_le (keep := kp (nI w) 0) (n := co) (k := 0) (j := 0) (ofs := ofs) (grp := grp) (kd := kd) (vl := vl); omega) (by decide) (f' := nF (va_up ((dropF (kp (nI w) 0) co 0 0 ofs grp kd vl).2.2.1) ((dropF (kp (nI w) 0) co 0 0 ofs grp kd vl).1) 0)) (nF_up _ _ _) dX3_assign_42 (fun H locs hP hD hS => ?_)
    have hP : va_P (dC, dI) vwCl (wM cI m0 m1 m2 m3 m4 m5 m6 th gr ((dropF (kp (nI w) 0) co 0 0 ofs grp kd vl).1) (va_up ((dropF (kp (nI w) 0) co 0 0 ofs grp kd vl).2.1) ((dropF (kp (nI w) 0) co 0 0 ofs grp kd vl).1) w) (va_up ((dropF (kp (nI w) 0) co 0 0 ofs grp kd vl).2.2.1) ((dropF (kp (nI w) 0) co 0 0 ofs grp kd vl).1) 0) ((dropF (kp (nI w) 0) co 0 0 ofs grp kd vl).2.2.2.1) ((dropF (kp (nI w) 0) co 0 0 ofs grp kd vl).2.2.2.2) ro fr nm dr) _ := hP
    have hD : va_D A (wM cI m0 m1 m2 m3 m4 m5 m6 th gr ((dropF (kp (nI w) 0) co 0 0 ofs grp kd vl).1) (va_up ((dropF (kp (nI w) 0) co 0 0 ofs grp kd vl).2.1) ((dropF (kp (nI w) 0) co 0 0 ofs grp kd vl).1) w) (va_up ((dropF (kp (nI w) 0) co 0 0 ofs grp kd vl).2.2.1) ((dropF (kp (nI w) 0) co 0 0 ofs grp kd vl).1) 0) ((dropF (kp (nI w) 0) co 0 0 ofs grp kd vl).2.2.2.1) ((dropF (kp (nI w) 0) co 0 0 ofs grp kd vl).2.2.2.2) ro fr nm dr) := hD
    refine lv_aload_n hx hb dX3_assign_43 rfl (lv_at hl 1 rfl) ?_
    refine va_get (D := (dC, dI)) (ci := 3) (v := .ref m3) (C := RX3) (T := TX3) (N := 11) hx hb hts iX3 hown hK hP 0 rfl rfl 5 (by decide) l16 (fun _ h9 => h9) rfl dX3_assign_44 ?_
    refine lv_aload_n hx hb dX3_assign_47 rfl (lv_at hl 1 rfl) ?_
    refine va_get (D := (dC, dI)) (ci := 3) (v := .int (nI ((dropF (kp (nI w) 0) co 0 0 ofs grp kd vl).1))) (C := RX3) (T := TX3) (N := 11) hx hb hts iX3 hown hK hP 0 rfl rfl 2 (by decide) l38 (fun _ h9 => h9) rfl dX3_assign_48 ?_
    refine lv_iload_n hx hb dX3_assign_51 rfl (lv_at hl 3 rfl) ?_
    refine mv_iast hx hb hK hP hD hS 3 0 rfl rfl (k := (dropF (kp (nI w) 0) co 0 0 ofs grp kd vl).1) (rfl) (by have := dropF_le (keep := kp (nI w) 0) (n := co) (k := 0) (j := 0) (ofs := ofs) (grp := grp) (kd := kd) (vl := vl); omega) (by decide) (f' := upd ((dropF (kp (nI w) 0) co 0 0 ofs grp kd vl).2.2.2.1) ((dropF (kp (nI w) 0) co 0 0 ofs grp kd vl).1) k) (rfl) dX3_assign_52 (fun H locs hP hD hS => ?_)
    have hP : va_P (dC, dI) vwCl (wM cI m0 m1 m2 m3 m4 m5 m6 th gr ((dropF (kp (nI w) 0) co 0 0 ofs grp kd vl).1) (va_up ((dropF (kp (nI w) 0) co 0 0 ofs grp kd vl).2.1) ((dropF (kp (nI w) 0) co 0 0 ofs grp kd vl).1) w) (va_up ((dropF (kp (nI w) 0) co 0 0 ofs grp kd vl).2.2.1) ((dropF (kp (nI w) 0) co 0 0 ofs grp kd vl).1) 0) (upd ((dropF (kp (nI w) 0) co 0 0 ofs grp kd vl).2.2.2.1) ((dropF (kp (nI w) 0) co 0 0 ofs grp kd vl).1) k) ((dropF (kp (nI w) 0) co 0 0 ofs grp kd vl).2.2.2.2) ro fr nm dr) _ := hP
    have hD : va_D A (wM cI m0 m1 m2 m3 m4 m5 m6 th gr ((dropF (kp (nI w) 0) co 0 0 ofs grp kd vl).1) (va_up ((dropF (kp (nI w) 0) co 0 0 ofs grp kd vl).2.1) ((dropF (kp (nI w) 0) co 0 0 ofs grp kd vl).1) w) (va_up ((dropF (kp (nI w) 0) co 0 0 ofs grp kd vl).2.2.1) ((dropF (kp (nI w) 0) co 0 0 ofs grp kd vl).1) 0) (upd ((dropF (kp (nI w) 0) co 0 0 ofs grp kd vl).2.2.2.1) ((dropF (kp (nI w) 0) co 0 0 ofs grp kd vl).1) k) ((dropF (kp (nI w) 0) co 0 0 ofs grp kd vl).2.2.2.2) ro fr nm dr) := hD
    refine lv_aload_n hx hb dX3_assign_53 rfl (lv_at hl 1 rfl) ?_
    refine va_get (D := (dC, dI)) (ci := 3) (v := .ref m4) (C := RX3) (T := TX3) (N := 11) hx hb hts iX3 hown hK hP 0 rfl rfl 6 (by decide) l19 (fun _ h9 => h9) rfl dX3_assign_54 ?_
    refine lv_aload_n hx hb dX3_assign_57 rfl (lv_at hl 1 rfl) ?_
    refine va_get (D := (dC, dI)) (ci := 3) (v := .int (nI ((dropF (kp (nI w) 0) co 0 0 ofs grp kd vl).1))) (C := RX3) (T := TX3) (N := 11) hx hb hts iX3 hown hK hP 0 rfl rfl 2 (by decide) l38 (fun _ h9 => h9) rfl dX3_assign_58 ?_
    refine lv_iload_n hx hb dX3_assign_61 rfl (lv_at hl 4 rfl) ?_
    refine mv_iast hx hb hK hP hD hS 4 0 rfl rfl (k := (dropF (kp (nI w) 0) co 0 0 ofs grp kd vl).1) (rfl) (by have := dropF_le (keep := kp (nI w) 0) (n := co) (k := 0) (j := 0) (ofs := ofs) (grp := grp) (kd := kd) (vl := vl); omega) (by decide) (f' := upd ((dropF (kp (nI w) 0) co 0 0 ofs grp kd vl).2.2.2.2) ((dropF (kp (nI w) 0) co 0 0 ofs grp kd vl).1) v) (rfl) dX3_assign_62 (fun H locs hP hD hS => ?_)
    have hP : va_P (dC, dI) vwCl (wM cI m0 m1 m2 m3 m4 m5 m6 th gr ((dropF (kp (nI w) 0) co 0 0 ofs grp kd vl).1) (va_up ((dropF (kp (nI w) 0) co 0 0 ofs grp kd vl).2.1) ((dropF (kp (nI w) 0) co 0 0 ofs grp kd vl).1) w) (va_up ((dropF (kp (nI w) 0) co 0 0 ofs grp kd vl).2.2.1) ((dropF (kp (nI w) 0) co 0 0 ofs grp kd vl).1) 0) (upd ((dropF (kp (nI w) 0) co 0 0 ofs grp kd vl).2.2.2.1) ((dropF (kp (nI w) 0) co 0 0 ofs grp kd vl).1) k) (upd ((dropF (kp (nI w) 0) co 0 0 ofs grp kd vl).2.2.2.2) ((dropF (kp (nI w) 0) co 0 0 ofs grp kd vl).1) v) ro fr nm dr) _ := hP
    have hD : va_D A (wM cI m0 m1 m2 m3 m4 m5 m6 th gr ((dropF (kp (nI w) 0) co 0 0 ofs grp kd vl).1) (va_up ((dropF (kp (nI w) 0) co 0 0 ofs grp kd vl).2.1) ((dropF (kp (nI w) 0) co 0 0 ofs grp kd vl).1) w) (va_up ((dropF (kp (nI w) 0) co 0 0 ofs grp kd vl).2.2.1) ((dropF (kp (nI w) 0) co 0 0 ofs grp kd vl).1) 0) (upd ((dropF (kp (nI w) 0) co 0 0 ofs grp kd vl).2.2.2.1) ((dropF (kp (nI w) 0) co 0 0 ofs grp kd vl).1) k) (upd ((dropF (kp (nI w) 0) co 0 0 ofs grp kd vl).2.2.2.2) ((dropF (kp (nI w) 0) co 0 0 ofs grp kd vl).1) v) ro fr nm dr) := hD
    refine lv_aload_n hx hb dX3_assign_63 rfl (lv_at hl 1 rfl) ?_
    refine lv_dup hx hb dX3_assign_64 rfl ?_
    refine va_get (D := (dC, dI)) (ci := 3) (v := .int (nI ((dropF (kp (nI w) 0) co 0 0 ofs grp kd vl).1))) (C := RX3) (T := TX3) (N := 11) hx hb hts iX3 hown hK hP 0 rfl rfl 2 (by decide) l38 (fun _ h9 => h9) rfl dX3_assign_65 ?_
    refine lv_iconst (v := 1) hx hb dX3_assign_68 (by decide) ?_
    refine lv_iadd hx hb dX3_assign_69 ?_
    refine mv_top (v := nI (((dropF (kp (nI w) 0) co 0 0 ofs grp kd vl).1) + 1)) (nI_1 ((dropF (kp (nI w) 0) co 0 0 ofs grp kd vl).1)) ?_
    refine va_put (D := (dC, dI)) (ci := 3) (v := .int (nI (((dropF (kp (nI w) 0) co 0 0 ofs grp kd vl).1) + 1))) (ty := .int) (C := RX3) (T := TX3) (N := 11) hx hb hts iX3 tyX3 tyX3_ok nmX3 hown hK hP hD hS 0 rfl rfl 2 (by decide) l38 (fun _ h9 => h9) rfl (by decide +kernel) rfl rfl (Nat.le_of_ble_eq_true rfl) dX3_assign_70 (fun H locs hP hD hS => ?_)
    have hP : va_P (dC, dI) vwCl (wM cI m0 m1 m2 m3 m4 m5 m6 th gr (((dropF (kp (nI w) 0) co 0 0 ofs grp kd vl).1) + 1) (va_up ((dropF (kp (nI w) 0) co 0 0 ofs grp kd vl).2.1) ((dropF (kp (nI w) 0) co 0 0 ofs grp kd vl).1) w) (va_up ((dropF (kp (nI w) 0) co 0 0 ofs grp kd vl).2.2.1) ((dropF (kp (nI w) 0) co 0 0 ofs grp kd vl).1) 0) (upd ((dropF (kp (nI w) 0) co 0 0 ofs grp kd vl).2.2.2.1) ((dropF (kp (nI w) 0) co 0 0 ofs grp kd vl).1) k) (upd ((dropF (kp (nI w) 0) co 0 0 ofs grp kd vl).2.2.2.2) ((dropF (kp (nI w) 0) co 0 0 ofs grp kd vl).1) v) ro fr nm dr) _ := hP
    have hD : va_D A (wM cI m0 m1 m2 m3 m4 m5 m6 th gr (((dropF (kp (nI w) 0) co 0 0 ofs grp kd vl).1) + 1) (va_up ((dropF (kp (nI w) 0) co 0 0 ofs grp kd vl).2.1) ((dropF (kp (nI w) 0) co 0 0 ofs grp kd vl).1) w) (va_up ((dropF (kp (nI w) 0) co 0 0 ofs grp kd vl).2.2.1) ((dropF (kp (nI w) 0) co 0 0 ofs grp kd vl).1) 0) (upd ((dropF (kp (nI w) 0) co 0 0 ofs grp kd vl).2.2.2.1) ((dropF (kp (nI w) 0) co 0 0 ofs grp kd vl).1) k) (upd ((dropF (kp (nI w) 0) co 0 0 ofs grp kd vl).2.2.2.2) ((dropF (kp (nI w) 0) co 0 0 ofs grp kd vl).1) v) ro fr nm dr) := hD
    exact hret ((((dropF (kp (nI w) 0) co 0 0 ofs grp kd vl).1) + 1, va_up ((dropF (kp (nI w) 0) co 0 0 ofs grp kd vl).2.1) ((dropF (kp (nI w) 0) co 0 0 ofs grp kd vl).1) w, va_up ((dropF (kp (nI w) 0) co 0 0 ofs grp kd vl).2.2.1) ((dropF (kp (nI w) 0) co 0 0 ofs grp kd vl).1) 0, upd ((dropF (kp (nI w) 0) co 0 0 ofs grp kd vl).2.2.2.1) ((dropF (kp (nI w) 0) co 0 0 ofs grp kd vl).1) k, upd ((dropF (kp (nI w) 0) co 0 0 ofs grp kd vl).2.2.2.2) ((dropF (kp (nI w) 0) co 0 0 ofs grp kd vl).1) v)) (by unfold asgM; rw [if_neg c2]) hP hD hS dX3_assign_73
end
section
/-- the reference's state: thrown, groups, count, of, group, kind, value, rows, from, numbers, drafted -/
abbrev MS : Type := Int32 × Nat × Nat × (Nat → Nat) × (Nat → Nat) × (Nat → Int32) × (Nat → Int32) × Nat × (Nat → Nat) × (Nat → Int32) × Nat
def mOpen : MS → Int32 × MS
  | (_, gr, co, o, g, k, v, ro, fr, nm, dr) => if gr = 200 then (0, 0, gr, co, o, g, k, v, ro, fr, nm, dr) else (1, 0, gr + 1, co, o, g, k, v, ro, fr, nm, dr)
def mClose : MS → Int32 × MS
  | (_, gr, co, o, g, k, v, ro, fr, nm, dr) => if gr = 0 then (0, 0, gr, co, o, g, k, v, ro, fr, nm, dr) else (1, 0, gr - 1, (dropF (kp (-1) gr) co 0 0 o g k v).1, (dropF (kp (-1) gr) co 0 0 o g k v).2.1, (dropF (kp (-1) gr) co 0 0 o g k v).2.2.1, (dropF (kp (-1) gr) co 0 0 o g k v).2.2.2.1, (dropF (kp (-1) gr) co 0 0 o g k v).2.2.2.2, ro, fr, nm, dr)
def mAsg (w : Nat) (kk vv gg : Int32) : MS → MS
  | (th, gr, co, o, g, k, v, ro, fr, nm, dr) => (th, gr, (asgM w kk vv gg gr co o g k v).1, (asgM w kk vv gg gr co o g k v).2.1, (asgM w kk vv gg gr co o g k v).2.2.1, (asgM w kk vv gg gr co o g k v).2.2.2.1, (asgM w kk vv gg gr co o g k v).2.2.2.2, ro, fr, nm, dr)
def mSet (cell vv gg : Int32) : MS → Int32 × MS
  | (_, gr, co, o, g, k, v, ro, fr, nm, dr) => if isR 2366 cell then (1, mAsg (rj cell) 0 vv gg (0, gr, co, o, g, k, v, ro, fr, nm, dr)) else (0, 0, gr, co, o, g, k, v, ro, fr, nm, dr)
def kOk (k : Int32) : Bool := decide (¬ k < 0) && decide (¬ nI 8 < k) && decide (¬ k = 3)
def mMean (name kk vv gg : Int32) : MS → Int32 × MS
  | (_, gr, co, o, g, k, v, ro, fr, nm, dr) => if (isR 1000 name && kOk kk) = true then (1, mAsg (3000 + rj name) kk vv gg (0, gr, co, o, g, k, v, ro, fr, nm, dr)) else (0, 0, gr, co, o, g, k, v, ro, fr, nm, dr)
def mDraft (x : Int32) : MS → Int32 × MS
  | (_, gr, co, o, g, k, v, ro, fr, nm, dr) => if dr = 200 then (0, 0, gr, co, o, g, k, v, ro, fr, nm, dr) else (1, 0, gr, co, o, g, k, v, ro, fr, upd nm (fr ro + dr) x, dr + 1)
def mTake : MS → MS
  | (th, gr, co, o, g, k, v, ro, fr, nm, dr) => (th, gr, co, o, g, k, v, ro + 1, va_up fr (ro + 1) (fr ro + dr), nm, 0)
def mDefine (name gg : Int32) : MS → Int32 × MS
  | (_, gr, co, o, g, k, v, ro, fr, nm, dr) => if isR 1000 name then (sizeM (va_up fr (ro + 1) (fr ro + dr)) ro, mAsg (3000 + rj name) 3 (nI ro) gg (mTake (0, gr, co, o, g, k, v, ro, fr, nm, dr))) else (0, 1, gr, co, o, g, k, v, ro, fr, nm, dr)
def mLet (name other gg : Int32) : MS → Int32 × MS
  | (_, gr, co, o, g, k, v, ro, fr, nm, dr) => if (isR 1000 name && isR 1000 other) = true then (1, mAsg (3000 + rj name) (atM o k (3000 + rj other) co) (atM o v (3000 + rj other) co) gg (0, gr, co, o, g, k, v, ro, fr, nm, dr)) else (0, 0, gr, co, o, g, k, v, ro, fr, nm, dr)
def mShape (gg : Int32) : MS → Int32 × MS
  | (_, gr, co, o, g, k, v, ro, fr, nm, dr) => (sizeM (va_up fr (ro + 1) (fr ro + dr)) ro, mAsg 4000 3 (nI ro) gg (mTake (0, gr, co, o, g, k, v, ro, fr, nm, dr)))
def mGet (cell : Int32) : MS → Int32 × MS
  | (_, gr, co, o, g, k, v, ro, fr, nm, dr) => if isR 2366 cell then (atM o v (rj cell) co, 0, gr, co, o, g, k, v, ro, fr, nm, dr) else (0, 1, gr, co, o, g, k, v, ro, fr, nm, dr)
def wOk (x : Int32) : Bool := decide (¬ x < 0) && decide (x ≤ 1)
def mAbout (name what : Int32) : MS → Int32 × MS
  | (_, gr, co, o, g, k, v, ro, fr, nm, dr) => if (isR 1000 name && wOk what) = true then ((if what = 0 then atM o k (3000 + rj name) co else if atM o k (3000 + rj name) co = 3 then sizeM fr (rj (atM o v (3000 + rj name) co)) else atM o v (3000 + rj name) co), 0, gr, co, o, g, k, v, ro, fr, nm, dr) else (0, 1, gr, co, o, g, k, v, ro, fr, nm, dr)
/-- the row that number looks at -/
def mRow (name : Int32) (co : Nat) (o : Nat → Nat) (k v : Nat → Int32) : Nat := if name = -1 then rj (atM o v 4000 co) else if isR 1000 name then (if atM o k (3000 + rj name) co = 3 then rj (atM o v (3000 + rj name) co) else 0) else 0
def nOk (fr : Nat → Nat) (row : Nat) (x : Int32) : Bool := decide (¬ x < 0) && decide (x < sizeM fr row)
def mNumber (name x : Int32) : MS → Int32 × MS
  | (_, gr, co, o, g, k, v, ro, fr, nm, dr) => if name = -1 ∧ x = -1 then (sizeM fr (rj (atM o v 4000 co)), 0, gr, co, o, g, k, v, ro, fr, nm, dr)
    else if nOk fr (mRow name co o k v) x then (nm (fr (mRow name co o k v) + rj x), 0, gr, co, o, g, k, v, ro, fr, nm, dr) else (0, 1, gr, co, o, g, k, v, ro, fr, nm, dr)
def mCount (what : Int32) : MS → Int32 × MS
  | (_, gr, co, o, g, k, v, ro, fr, nm, dr) => ((if what = 0 then nI gr else if what = 1 then nI dr else if what = 2 then keptM o k v fr co (ro - 1) else -1), 0, gr, co, o, g, k, v, ro, fr, nm, dr)
set_option maxHeartbeats 4000000 in
set_option maxRecDepth 100000 in
theorem c_X3_kept (l : Launch) (dC : Nat → ClassId) (dI : Nat → Nat → Nat) (cI : ClassId) (m0 m1 m2 m3 m4 m5 m6 : Nat) (th : Int32) (gr co : Nat) (ofs grp : Nat → Nat) (kd vl : Nat → Int32) (ro : Nat) (fr : Nat → Nat) (nm : Nat → Int32) (dr : Nat)  (hco : co ≤ 4200) (hof : ∀ i, i < co → ofs i < 2 ^ 31) (h1 : 1 ≤ ro) (hro : ro + 1 < 4200) : mRi l yX3_kept wsX3_kept ({ frames := 1, cells := 0, slots := 0, locals := 21 }) (dC, dI) cI [.ref m0] (wM cI m0 m1 m2 m3 m4 m5 m6 th gr co ofs grp kd vl ro fr nm dr) (fun r => r = keptM ofs kd vl fr co (ro - 1)) := by
  refine m_ofR (cc := cX3_kept) (maxL := 5) (by decide) rfl (Nat.le_of_ble_eq_true rfl) ?_
  intro p e s m args below meth c ls Q hx hb hts hown hml hP hK hl hret
  have hown : s.vm.findClass RX3 = some m.cls := hown
  have hl : lv_has ls 5 [(0, .ref m0)] := hl
  have l22 := hts (.fieldLink RX3 22 "GroupDeskModel" "rows" "I") (by decide +kernel)
  have l38 := hts (.fieldLink RX3 38 "GroupDeskModel" "count" "I") (by decide +kernel)
  have l7 := hts (.fieldLink RX3 7 "GroupDeskModel" "of" "[I") (by decide +kernel)
  have l16 := hts (.fieldLink RX3 16 "GroupDeskModel" "kind" "[I") (by decide +kernel)
  have l19 := hts (.fieldLink RX3 19 "GroupDeskModel" "value" "[I") (by decide +kernel)
  have iX3 : ∀ w ∈ u_ws RX3 TX3 11, w ∈ wsX3_kept := by decide +kernel
  have inner : ∀ (row n q : Nat) (z : Int32) (ls : Array Slot), row + 1 < ro + 1 → n + q = co → lv_has ls 5 [(0, .ref m0), (1, .int z), (2, .int (nI row)), (3, .int (b2i (tolM ofs kd vl row q))), (4, .int (nI q))] → (∀ ls : Array Slot, lv_has ls 5 [(0, .ref m0), (1, .int z), (2, .int (nI row)), (3, .int (b2i (tolM ofs kd vl row co)))] → W p l e ({ frames := 1, cells := 0, slots := 0, locals := 21 }) s m args below meth c s.heap [] 0 0 Q (F0 m 90 ls [])) → W p l e ({ frames := 1, cells := 0, slots := 0, locals := 21 }) s m args below meth c s.heap [] 0 0 Q (F0 m 17 ls []) := by
    intro row n
    induction n with
    | zero =>
      intro q z ls hrow hn hl hk
      refine lv_iload hx hb dX3_kept_17 (lv_at hl 4 rfl) ?_
      refine lv_aload_n hx hb dX3_kept_19 rfl (lv_at hl 0 rfl) ?_
      refine va_get (D := (dC, dI)) (ci := 3) (v := .int (nI co)) (C := RX3) (T := TX3) (N := 11) hx hb hts iX3 hown hK hP 0 rfl rfl 2 (by decide) l38 (fun _ h9 => h9) rfl dX3_kept_20 ?_
      refine lv_icmp_ge (tgt := 90) hx hb dX3_kept_23 (by decide) (fun c23 => ?_) (fun c23 => ?_)
      · have e9 : q = co := by omega
        subst e9
        exact hk ls (lv_sub hl [0, 1, 2, 3] rfl)
      · exact absurd (nI_le (by omega) (by omega)) c23
    | succ n ih =>
      intro q z ls hrow hn hl hk
      have h4 := hof q (by omega)
      refine lv_iload hx hb dX3_kept_17 (lv_at hl 4 rfl) ?_
      refine lv_aload_n hx hb dX3_kept_19 rfl (lv_at hl 0 rfl) ?_
      refine va_get (D := (dC, dI)) (ci := 3) (v := .int (nI co)) (C := RX3) (T := TX3) (N := 11) hx hb hts iX3 hown hK hP 0 rfl rfl 2 (by decide) l38 (fun _ h9 => h9) rfl dX3_kept_20 ?_
      refine lv_icmp_ge (tgt := 90) hx hb dX3_kept_23 (by decide) (fun c23 => ?_) (fun c23 => ?_)
      · exact absurd c23 (nI_ge (by omega) (by omega))
      · refine lv_iload_n hx hb dX3_kept_26 rfl (lv_at hl 3 rfl) ?_
        refine lv_if_ne (tgt := 78) hx hb dX3_kept_27 (by decide) (fun c27 => ?_) (fun c27 => ?_)
        · refine lv_iconst (v := 1) hx hb dX3_kept_78 (by decide) ?_
          refine lv_goto (tgt := 83) hx hb dX3_kept_79 (by decide) ?_
          refine lv_istore_n (lv' := [(3, .int 1), (0, .ref m0), (1, .int z), (2, .int (nI row)), (4, .int (nI q))]) hx hb dX3_kept_83 rfl hl (by decide) rfl (fun ls hl => ?_)
          refine lv_iinc (v := nI (q + 1)) (lv' := [(4, .int (nI (q + 1))), (3, .int 1), (0, .ref m0), (1, .int z), (2, .int (nI row))]) hx hb dX3_kept_84 hl (k := 4) rfl (show (nI q) + Int32.ofInt (1) = nI (q + 1) from nI_1 q) (by decide) rfl (fun ls hl => ?_)
          refine lv_goto (tgt := 17) hx hb dX3_kept_87 (by decide) ?_
          have e9 : (1 : Int32) = b2i (tolM ofs kd vl row (q + 1)) := by rw [tolM, b2i_n c27, Bool.true_or]; rfl
          have hl := (lv_sub hl [2, 3, 4, 1, 0] rfl)
          have hl : lv_has ls 5 [(0, .ref m0), (1, .int z), (2, .int (nI row)), (3, .int 1), (4, .int (nI (q + 1)))] := hl
          rw [e9] at hl
          exact ih _ _ ls hrow (by omega) hl hk
        · refine lv_aload_n hx hb dX3_kept_30 rfl (lv_at hl 0 rfl) ?_
          refine va_get (D := (dC, dI)) (ci := 3) (v := .ref m1) (C := RX3) (T := TX3) (N := 11) hx hb hts iX3 hown hK hP 0 rfl rfl 3 (by decide) l7 (fun _ h9 => h9) rfl dX3_kept_31 ?_
          refine lv_iload hx hb dX3_kept_34 (lv_at hl 4 rfl) ?_
          refine mv_iald hx hb hK hP 1 0 rfl rfl (k := q) (rfl) (by omega) (by decide) (v := nI (ofs q)) rfl dX3_kept_36 ?_
          refine lv_sipush (v := nI 3000) hx hb dX3_kept_37 (by decide) ?_
          refine lv_icmp_lt (tgt := 82) hx hb dX3_kept_40 (by decide) (fun c40 => ?_) (fun c40 => ?_)
          · refine lv_iconst (v := 0) hx hb dX3_kept_82 (by decide) ?_
            refine lv_istore_n (lv' := [(3, .int 0), (0, .ref m0), (1, .int z), (2, .int (nI row)), (4, .int (nI q))]) hx hb dX3_kept_83 rfl hl (by decide) rfl (fun ls hl => ?_)
            refine lv_iinc (v := nI (q + 1)) (lv' := [(4, .int (nI (q + 1))), (3, .int 0), (0, .ref m0), (1, .int z), (2, .int (nI row))]) hx hb dX3_kept_84 hl (k := 4) rfl (show (nI q) + Int32.ofInt (1) = nI (q + 1) from nI_1 q) (by decide) rfl (fun ls hl => ?_)
            refine lv_goto (tgt := 17) hx hb dX3_kept_87 (by decide) ?_
            have e9 : (0 : Int32) = b2i (tolM ofs kd vl row (q + 1)) := by rw [tolM, b2i_0 c27, decide_eq_false (fun h => absurd h (Nat.not_le.mpr ((nI_ltI h4 (by decide)).mp c40))), Bool.false_and, Bool.false_and, Bool.false_and, Bool.or_self]; rfl
            have hl := (lv_sub hl [2, 3, 4, 1, 0] rfl)
            have hl : lv_has ls 5 [(0, .ref m0), (1, .int z), (2, .int (nI row)), (3, .int 0), (4, .int (nI (q + 1)))] := hl
            rw [e9] at hl
            exact ih _ _ ls hrow (by omega) hl hk
          · refine lv_aload_n hx hb dX3_kept_43 rfl (lv_at hl 0 rfl) ?_
            refine va_get (D := (dC, dI)) (ci := 3) (v := .ref m1) (C := RX3) (T := TX3) (N := 11) hx hb hts iX3 hown hK hP 0 rfl rfl 3 (by decide) l7 (fun _ h9 => h9) rfl dX3_kept_44 ?_
            refine lv_iload hx hb dX3_kept_47 (lv_at hl 4 rfl) ?_
            refine mv_iald hx hb hK hP 1 0 rfl rfl (k := q) (rfl) (by omega) (by decide) (v := nI (ofs q)) rfl dX3_kept_49 ?_
            refine lv_sipush (v := nI 4000) hx hb dX3_kept_50 (by decide) ?_
            refine lv_icmp_ge (tgt := 82) hx hb dX3_kept_53 (by decide) (fun c53 => ?_) (fun c53 => ?_)
            · refine lv_iconst (v := 0) hx hb dX3_kept_82 (by decide) ?_
              refine lv_istore_n (lv' := [(3, .int 0), (0, .ref m0), (1, .int z), (2, .int (nI row)), (4, .int (nI q))]) hx hb dX3_kept_83 rfl hl (by decide) rfl (fun ls hl => ?_)
              refine lv_iinc (v := nI (q + 1)) (lv' := [(4, .int (nI (q + 1))), (3, .int 0), (0, .ref m0), (1, .int z), (2, .int (nI row))]) hx hb dX3_kept_84 hl (k := 4) rfl (show (nI q) + Int32.ofInt (1) = nI (q + 1) from nI_1 q) (by decide) rfl (fun ls hl => ?_)
              refine lv_goto (tgt := 17) hx hb dX3_kept_87 (by decide) ?_
              have e9 : (0 : Int32) = b2i (tolM ofs kd vl row (q + 1)) := by rw [tolM, b2i_0 c27, decide_eq_false (fun h => absurd h (Nat.not_lt.mpr ((nI_leI (by decide) h4).mp c53))), Bool.and_false, Bool.false_and, Bool.false_and, Bool.or_self]; rfl
              have hl := (lv_sub hl [2, 3, 4, 1, 0] rfl)
              have hl : lv_has ls 5 [(0, .ref m0), (1, .int z), (2, .int (nI row)), (3, .int 0), (4, .int (nI (q + 1)))] := hl
              rw [e9] at hl
              exact ih _ _ ls hrow (by omega) hl hk
            · refine lv_aload_n hx hb dX3_kept_56 rfl (lv_at hl 0 rfl) ?_
              refine va_get (D := (dC, dI)) (ci := 3) (v := .ref m3) (C := RX3) (T := TX3) (N := 11) hx hb hts iX3 hown hK hP 0 rfl rfl 5 (by decide) l16 (fun _ h9 => h9) rfl dX3_kept_57 ?_
              refine lv_iload hx hb dX3_kept_60 (lv_at hl 4 rfl) ?_
              refine mv_iald hx hb hK hP 3 0 rfl rfl (k := q) (rfl) (by omega) (by decide) (v := kd q) rfl dX3_kept_62 ?_
              refine lv_iconst (v := 3) hx hb dX3_kept_63 (by decide) ?_
              refine lv_icmp_ne (tgt := 82) hx hb dX3_kept_64 (by decide) (fun c64 => ?_) (fun c64 => ?_)
              · refine lv_iconst (v := 0) hx hb dX3_kept_82 (by decide) ?_
                refine lv_istore_n (lv' := [(3, .int 0), (0, .ref m0), (1, .int z), (2, .int (nI row)), (4, .int (nI q))]) hx hb dX3_kept_83 rfl hl (by decide) rfl (fun ls hl => ?_)
                refine lv_iinc (v := nI (q + 1)) (lv' := [(4, .int (nI (q + 1))), (3, .int 0), (0, .ref m0), (1, .int z), (2, .int (nI row))]) hx hb dX3_kept_84 hl (k := 4) rfl (show (nI q) + Int32.ofInt (1) = nI (q + 1) from nI_1 q) (by decide) rfl (fun ls hl => ?_)
                refine lv_goto (tgt := 17) hx hb dX3_kept_87 (by decide) ?_
                have e9 : (0 : Int32) = b2i (tolM ofs kd vl row (q + 1)) := by rw [tolM, b2i_0 c27, decide_eq_false c64, Bool.and_false, Bool.false_and, Bool.or_self]; rfl
                have hl := (lv_sub hl [2, 3, 4, 1, 0] rfl)
                have hl : lv_has ls 5 [(0, .ref m0), (1, .int z), (2, .int (nI row)), (3, .int 0), (4, .int (nI (q + 1)))] := hl
                rw [e9] at hl
                exact ih _ _ ls hrow (by omega) hl hk
              · refine lv_aload_n hx hb dX3_kept_67 rfl (lv_at hl 0 rfl) ?_
                refine va_get (D := (dC, dI)) (ci := 3) (v := .ref m4) (C := RX3) (T := TX3) (N := 11) hx hb hts iX3 hown hK hP 0 rfl rfl 6 (by decide) l19 (fun _ h9 => h9) rfl dX3_kept_68 ?_
                refine lv_iload hx hb dX3_kept_71 (lv_at hl 4 rfl) ?_
                refine mv_iald hx hb hK hP 4 0 rfl rfl (k := q) (rfl) (by omega) (by decide) (v := vl q) rfl dX3_kept_73 ?_
                refine lv_iload_n hx hb dX3_kept_74 rfl (lv_at hl 2 rfl) ?_
                refine lv_icmp_ne (tgt := 82) hx hb dX3_kept_75 (by decide) (fun c75 => ?_) (fun c75 => ?_)
                · refine lv_iconst (v := 0) hx hb dX3_kept_82 (by decide) ?_
                  refine lv_istore_n (lv' := [(3, .int 0), (0, .ref m0), (1, .int z), (2, .int (nI row)), (4, .int (nI q))]) hx hb dX3_kept_83 rfl hl (by decide) rfl (fun ls hl => ?_)
                  refine lv_iinc (v := nI (q + 1)) (lv' := [(4, .int (nI (q + 1))), (3, .int 0), (0, .ref m0), (1, .int z), (2, .int (nI row))]) hx hb dX3_kept_84 hl (k := 4) rfl (show (nI q) + Int32.ofInt (1) = nI (q + 1) from nI_1 q) (by decide) rfl (fun ls hl => ?_)
                  refine lv_goto (tgt := 17) hx hb dX3_kept_87 (by decide) ?_
                  have e9 : (0 : Int32) = b2i (tolM ofs kd vl row (q + 1)) := by rw [tolM, b2i_0 c27, decide_eq_false c75, Bool.and_false, Bool.or_self]; rfl
                  have hl := (lv_sub hl [2, 3, 4, 1, 0] rfl)
                  have hl : lv_has ls 5 [(0, .ref m0), (1, .int z), (2, .int (nI row)), (3, .int 0), (4, .int (nI (q + 1)))] := hl
                  rw [e9] at hl
                  exact ih _ _ ls hrow (by omega) hl hk
                · refine lv_iconst (v := 1) hx hb dX3_kept_78 (by decide) ?_
                  refine lv_goto (tgt := 83) hx hb dX3_kept_79 (by decide) ?_
                  refine lv_istore_n (lv' := [(3, .int 1), (0, .ref m0), (1, .int z), (2, .int (nI row)), (4, .int (nI q))]) hx hb dX3_kept_83 rfl hl (by decide) rfl (fun ls hl => ?_)
                  refine lv_iinc (v := nI (q + 1)) (lv' := [(4, .int (nI (q + 1))), (3, .int 1), (0, .ref m0), (1, .int z), (2, .int (nI row))]) hx hb dX3_kept_84 hl (k := 4) rfl (show (nI q) + Int32.ofInt (1) = nI (q + 1) from nI_1 q) (by decide) rfl (fun ls hl => ?_)
                  refine lv_goto (tgt := 17) hx hb dX3_kept_87 (by decide) ?_
                  have e9 : (1 : Int32) = b2i (tolM ofs kd vl row (q + 1)) := by rw [tolM, b2i_0 c27, decide_eq_true (Nat.le_of_not_lt fun h => c40 ((nI_ltI h4 (by decide)).mpr h)), decide_eq_true (Nat.lt_of_not_le fun h => c53 ((nI_leI (by decide) h4).mpr h)), decide_eq_true c64, decide_eq_true c75]; rfl
                  have hl := (lv_sub hl [2, 3, 4, 1, 0] rfl)
                  have hl : lv_has ls 5 [(0, .ref m0), (1, .int z), (2, .int (nI row)), (3, .int 1), (4, .int (nI (q + 1)))] := hl
                  rw [e9] at hl
                  exact ih _ _ ls hrow (by omega) hl hk
  have outer : ∀ (n j : Nat) (ls : Array Slot), n + j + 1 = ro → lv_has ls 5 [(0, .ref m0), (1, .int (keptM ofs kd vl fr co j)), (2, .int (nI (j + 1)))] → W p l e ({ frames := 1, cells := 0, slots := 0, locals := 21 }) s m args below meth c s.heap [] 0 0 Q (F0 m 4 ls []) := by
    intro n
    induction n with
    | zero =>
      intro j ls hn hl
      refine lv_iload_n hx hb dX3_kept_4 rfl (lv_at hl 2 rfl) ?_
      refine lv_aload_n hx hb dX3_kept_5 rfl (lv_at hl 0 rfl) ?_
      refine va_get (D := (dC, dI)) (ci := 3) (v := .int (nI ro)) (C := RX3) (T := TX3) (N := 11) hx hb hts iX3 hown hK hP 0 rfl rfl 7 (by decide) l22 (fun _ h9 => h9) rfl dX3_kept_6 ?_
      refine lv_icmp_ge (tgt := 112) hx hb dX3_kept_9 (by decide) (fun c9 => ?_) (fun c9 => ?_)
      · refine lv_iload_n hx hb dX3_kept_112 rfl (lv_at hl 1 rfl) ?_
        exact hret (keptM ofs kd vl fr co j) (rfl) (by rw [show ro - 1 = j by omega]) dX3_kept_113
      · exact absurd (nI_le (by omega) (by omega)) c9
    | succ n ih =>
      intro j ls hn hl
      refine lv_iload_n hx hb dX3_kept_4 rfl (lv_at hl 2 rfl) ?_
      refine lv_aload_n hx hb dX3_kept_5 rfl (lv_at hl 0 rfl) ?_
      refine va_get (D := (dC, dI)) (ci := 3) (v := .int (nI ro)) (C := RX3) (T := TX3) (N := 11) hx hb hts iX3 hown hK hP 0 rfl rfl 7 (by decide) l22 (fun _ h9 => h9) rfl dX3_kept_6 ?_
      refine lv_icmp_ge (tgt := 112) hx hb dX3_kept_9 (by decide) (fun c9 => ?_) (fun c9 => ?_)
      · exact absurd c9 (nI_ge (by omega) (by omega))
      · refine lv_iconst (v := 0) hx hb dX3_kept_12 (by decide) ?_
        refine lv_istore_n (lv' := [(3, .int 0), (0, .ref m0), (1, .int (keptM ofs kd vl fr co j)), (2, .int (nI (j + 1)))]) hx hb dX3_kept_13 rfl hl (by decide) rfl (fun ls hl => ?_)
        refine lv_iconst (v := 0) hx hb dX3_kept_14 (by decide) ?_
        refine lv_istore (lv' := [(4, .int 0), (3, .int 0), (0, .ref m0), (1, .int (keptM ofs kd vl fr co j)), (2, .int (nI (j + 1)))]) hx hb dX3_kept_15 hl (by decide) rfl (fun ls hl => ?_)
        refine inner (j + 1) co 0 _ ls (by omega) rfl (lv_sub hl [2, 3, 4, 1, 0] rfl) (fun ls hl => ?_)
        refine lv_iload_n hx hb dX3_kept_90 rfl (lv_at hl 1 rfl) ?_
        refine lv_iload_n hx hb dX3_kept_91 rfl (lv_at hl 3 rfl) ?_
        refine lv_if_eq (tgt := 103) hx hb dX3_kept_92 (by decide) (fun c92 => ?_) (fun c92 => ?_)
        · refine lv_iconst (v := 0) hx hb dX3_kept_103 (by decide) ?_
          refine lv_iadd hx hb dX3_kept_104 ?_
          refine lv_istore_n (lv' := [(1, .int ((keptM ofs kd vl fr co j) + 0)), (0, .ref m0), (2, .int (nI (j + 1))), (3, .int (b2i (tolM ofs kd vl (j + 1) co)))]) hx hb dX3_kept_105 rfl hl (by decide) rfl (fun ls hl => ?_)
          refine lv_iinc (v := nI (j + 1 + 1)) (lv' := [(2, .int (nI (j + 1 + 1))), (1, .int ((keptM ofs kd vl fr co j) + 0)), (0, .ref m0), (3, .int (b2i (tolM ofs kd vl (j + 1) co)))]) hx hb dX3_kept_106 hl (k := 2) rfl (show (nI (j + 1)) + Int32.ofInt (1) = nI (j + 1 + 1) from nI_1 (j + 1)) (by decide) rfl (fun ls hl => ?_)
          refine lv_goto (tgt := 4) hx hb dX3_kept_109 (by decide) ?_
          have e9 : ((keptM ofs kd vl fr co j) + 0 : Int32) = keptM ofs kd vl fr co (j + 1) := by rw [keptM, b2i_0 c92]; rfl
          have hl := (lv_sub hl [2, 1, 0] rfl)
          have hl : lv_has ls 5 [(0, .ref m0), (1, .int ((keptM ofs kd vl fr co j) + 0)), (2, .int (nI (j + 1 + 1)))] := hl
          rw [e9] at hl
          exact ih _ ls (by omega) hl
        · refine lv_aload_n hx hb dX3_kept_95 rfl (lv_at hl 0 rfl) ?_
          refine lv_iload_n hx hb dX3_kept_96 rfl (lv_at hl 2 rfl) ?_
          refine m_rV (As := [.int (nI (j + 1))]) (rest := [.int (keptM ofs kd vl fr co j)]) ⟨hx, hb, hml, hown, hts⟩ (c_X3_size l dC dI cI m0 m1 m2 m3 m4 m5 m6 th gr co ofs grp kd vl ro fr nm dr (j + 1) (by omega)) (cwV 1 hts gX3_kept_X3_size rfl rfl rfl (by decide +kernel) ⟨Nat.le_of_ble_eq_true rfl, Nat.le_of_ble_eq_true rfl⟩) hP hK 3 0 rfl rfl rfl hl.1 rfl (Nat.le_of_ble_eq_true rfl) dX3_kept_97 ⟨Nat.zero_le _, Nat.zero_le _⟩ (fun r hw => ?_)
          subst hw
          refine lv_goto (tgt := 104) hx hb dX3_kept_100 (by decide) ?_
          refine lv_iadd hx hb dX3_kept_104 ?_
          refine lv_istore_n (lv' := [(1, .int ((keptM ofs kd vl fr co j) + (sizeM fr (j + 1)))), (0, .ref m0), (2, .int (nI (j + 1))), (3, .int (b2i (tolM ofs kd vl (j + 1) co)))]) hx hb dX3_kept_105 rfl hl (by decide) rfl (fun ls hl => ?_)
          refine lv_iinc (v := nI (j + 1 + 1)) (lv' := [(2, .int (nI (j + 1 + 1))), (1, .int ((keptM ofs kd vl fr co j) + (sizeM fr (j + 1)))), (0, .ref m0), (3, .int (b2i (tolM ofs kd vl (j + 1) co)))]) hx hb dX3_kept_106 hl (k := 2) rfl (show (nI (j + 1)) + Int32.ofInt (1) = nI (j + 1 + 1) from nI_1 (j + 1)) (by decide) rfl (fun ls hl => ?_)
          refine lv_goto (tgt := 4) hx hb dX3_kept_109 (by decide) ?_
          have e9 : ((keptM ofs kd vl fr co j) + (sizeM fr (j + 1)) : Int32) = keptM ofs kd vl fr co (j + 1) := by rw [keptM, b2i_n c92]; rfl
          have hl := (lv_sub hl [2, 1, 0] rfl)
          have hl : lv_has ls 5 [(0, .ref m0), (1, .int ((keptM ofs kd vl fr co j) + (sizeM fr (j + 1)))), (2, .int (nI (j + 1 + 1)))] := hl
          rw [e9] at hl
          exact ih _ ls (by omega) hl
  refine lv_iconst (v := 0) hx hb dX3_kept_0 (by decide) ?_
  refine lv_istore_n (lv' := [(1, .int 0), (0, .ref m0)]) hx hb dX3_kept_1 rfl hl (by decide) rfl (fun ls hl => ?_)
  refine lv_iconst (v := 1) hx hb dX3_kept_2 (by decide) ?_
  refine lv_istore_n (lv' := [(2, .int 1), (1, .int 0), (0, .ref m0)]) hx hb dX3_kept_3 rfl hl (by decide) rfl (fun ls hl => ?_)
  have hl := (lv_sub hl [2, 1, 0] rfl)
  have hl : lv_has ls 5 [(0, .ref m0), (1, .int (keptM ofs kd vl fr co 0)), (2, .int (nI (0 + 1)))] := hl
  exact outer (ro - 1) 0 ls (by omega) hl
set_option maxHeartbeats 4000000 in
set_option maxRecDepth 100000 in
theorem c_X3_open (l : Launch) (dC : Nat → ClassId) (dI : Nat → Nat → Nat) (cI : ClassId) (m0 m1 m2 m3 m4 m5 m6 : Nat) (th : Int32) (gr co : Nat) (ofs grp : Nat → Nat) (kd vl : Nat → Int32) (ro : Nat) (fr : Nat → Nat) (nm : Nat → Int32) (dr : Nat)  (hg : gr < 2 ^ 31) : mWi l yX3_open wsX3_open ({ frames := 0, cells := 0, slots := 0, locals := 0 }) (dC, dI) cI [.ref m0] (wM cI m0 m1 m2 m3 m4 m5 m6 th gr co ofs grp kd vl ro fr nm dr) (fun r u => r = (mOpen (th, gr, co, ofs, grp, kd, vl, ro, fr, nm, dr)).1 ∧ u = (mOpen (th, gr, co, ofs, grp, kd, vl, ro, fr, nm, dr)).2) (fun u : MS => wM cI m0 m1 m2 m3 m4 m5 m6 u.1 u.2.1 u.2.2.1 u.2.2.2.1 u.2.2.2.2.1 u.2.2.2.2.2.1 u.2.2.2.2.2.2.1 u.2.2.2.2.2.2.2.1 u.2.2.2.2.2.2.2.2.1 u.2.2.2.2.2.2.2.2.2.1 u.2.2.2.2.2.2.2.2.2.2) := by
  refine m_ofWi (cc := cX3_open) (maxL := 1) (by decide) rfl (Nat.le_of_ble_eq_true rfl) ?_
  intro p e s m args below meth c ls A Q hx hb hts hown hml hP hK hD hA hS hl hret
  have hown : s.vm.findClass RX3 = some m.cls := hown
  have hl : lv_has ls 1 [(0, .ref m0)] := hl
  have l32 := hts (.fieldLink RX3 32 "GroupDeskModel" "thrown" "I") (by decide +kernel)
  have l35 := hts (.fieldLink RX3 35 "GroupDeskModel" "groups" "I") (by decide +kernel)
  have iX3 : ∀ w ∈ u_ws RX3 TX3 11, w ∈ wsX3_open := by decide +kernel
  refine lv_aload_n hx hb dX3_open_0 rfl (lv_at hl 0 rfl) ?_
  refine lv_iconst (v := 0) hx hb dX3_open_1 (by decide) ?_
  refine va_put (D := (dC, dI)) (ci := 3) (v := .int 0) (ty := .int) (C := RX3) (T := TX3) (N := 11) hx hb hts iX3 tyX3 tyX3_ok nmX3 hown hK hP hD hS 0 rfl rfl 0 (by decide) l32 (fun _ h9 => h9) rfl (by decide +kernel) rfl rfl (Nat.le_of_ble_eq_true rfl) dX3_open_2 (fun H locs hP hD hS => ?_)
  have hP : va_P (dC, dI) vwCl (wM cI m0 m1 m2 m3 m4 m5 m6 0 gr co ofs grp kd vl ro fr nm dr) _ := hP
  have hD : va_D A (wM cI m0 m1 m2 m3 m4 m5 m6 0 gr co ofs grp kd vl ro fr nm dr) := hD
  refine lv_aload_n hx hb dX3_open_5 rfl (lv_at hl 0 rfl) ?_
  refine va_get (D := (dC, dI)) (ci := 3) (v := .int (nI gr)) (C := RX3) (T := TX3) (N := 11) hx hb hts iX3 hown hK hP 0 rfl rfl 1 (by decide) l35 (fun _ h9 => h9) rfl dX3_open_6 ?_
  refine lv_sipush (v := nI 200) hx hb dX3_open_9 (by decide) ?_
  refine lv_icmp_ne (tgt := 17) hx hb dX3_open_12 (by decide) (fun c12 => ?_) (fun c12 => ?_)
  · refine lv_aload_n hx hb dX3_open_17 rfl (lv_at hl 0 rfl) ?_
    refine lv_dup hx hb dX3_open_18 rfl ?_
    refine va_get (D := (dC, dI)) (ci := 3) (v := .int (nI gr)) (C := RX3) (T := TX3) (N := 11) hx hb hts iX3 hown hK hP 0 rfl rfl 1 (by decide) l35 (fun _ h9 => h9) rfl dX3_open_19 ?_
    refine lv_iconst (v := 1) hx hb dX3_open_22 (by decide) ?_
    refine lv_iadd hx hb dX3_open_23 ?_
    refine mv_top (v := nI (gr + 1)) (nI_1 gr) ?_
    refine va_put (D := (dC, dI)) (ci := 3) (v := .int (nI (gr + 1))) (ty := .int) (C := RX3) (T := TX3) (N := 11) hx hb hts iX3 tyX3 tyX3_ok nmX3 hown hK hP hD hS 0 rfl rfl 1 (by decide) l35 (fun _ h9 => h9) rfl (by decide +kernel) rfl rfl (Nat.le_of_ble_eq_true rfl) dX3_open_24 (fun H locs hP hD hS => ?_)
    have hP : va_P (dC, dI) vwCl (wM cI m0 m1 m2 m3 m4 m5 m6 0 (gr + 1) co ofs grp kd vl ro fr nm dr) _ := hP
    have hD : va_D A (wM cI m0 m1 m2 m3 m4 m5 m6 0 (gr + 1) co ofs grp kd vl ro fr nm dr) := hD
    refine lv_iconst (v := 1) hx hb dX3_open_27 (by decide) ?_
    exact hret 1 ((0, gr + 1, co, ofs, grp, kd, vl, ro, fr, nm, dr)) (rfl) (by simp only [mOpen]; rw [if_neg (fun h => c12 (by rw [h]))]; exact ⟨rfl, rfl⟩) hP hD hS dX3_open_28
  · refine lv_iconst (v := 0) hx hb dX3_open_15 (by decide) ?_
    exact hret 0 ((0, gr, co, ofs, grp, kd, vl, ro, fr, nm, dr)) (rfl) (by simp only [mOpen]; rw [if_pos ((nI_eq hg (by decide)).mp c12)]; exact ⟨rfl, rfl⟩) hP hD hS dX3_open_16
set_option maxHeartbeats 4000000 in
set_option maxRecDepth 100000 in
theorem c_X3_close (l : Launch) (dC : Nat → ClassId) (dI : Nat → Nat → Nat) (cI : ClassId) (m0 m1 m2 m3 m4 m5 m6 : Nat) (th : Int32) (gr co : Nat) (ofs grp : Nat → Nat) (kd vl : Nat → Int32) (ro : Nat) (fr : Nat → Nat) (nm : Nat → Int32) (dr : Nat)  (hco : co < 4200) (hg : gr < 2 ^ 31) (hgr : ∀ i, i < co → grp i < 2 ^ 31) : mWi l yX3_close wsX3_close ({ frames := 1, cells := 0, slots := 0, locals := 24 }) (dC, dI) cI [.ref m0] (wM cI m0 m1 m2 m3 m4 m5 m6 th gr co ofs grp kd vl ro fr nm dr) (fun r u => r = (mClose (th, gr, co, ofs, grp, kd, vl, ro, fr, nm, dr)).1 ∧ u = (mClose (th, gr, co, ofs, grp, kd, vl, ro, fr, nm, dr)).2) (fun u : MS => wM cI m0 m1 m2 m3 m4 m5 m6 u.1 u.2.1 u.2.2.1 u.2.2.2.1 u.2.2.2.2.1 u.2.2.2.2.2.1 u.2.2.2.2.2.2.1 u.2.2.2.2.2.2.2.1 u.2.2.2.2.2.2.2.2.1 u.2.2.2.2.2.2.2.2.2.1 u.2.2.2.2.2.2.2.2.2.2) := by
  refine m_ofWi (cc := cX3_close) (maxL := 1) (by decide) rfl (Nat.le_of_ble_eq_true rfl) ?_
  intro p e s m args below meth c ls A Q hx hb hts hown hml hP hK hD hA hS hl hret
  have hown : s.vm.findClass RX3 = some m.cls := hown
  have hl : lv_has ls 1 [(0, .ref m0)] := hl
  have l32 := hts (.fieldLink RX3 32 "GroupDeskModel" "thrown" "I") (by decide +kernel)
  have l35 := hts (.fieldLink RX3 35 "GroupDeskModel" "groups" "I") (by decide +kernel)
  have iX3 : ∀ w ∈ u_ws RX3 TX3 11, w ∈ wsX3_close := by decide +kernel
  refine lv_aload_n hx hb dX3_close_0 rfl (lv_at hl 0 rfl) ?_
  refine lv_iconst (v := 0) hx hb dX3_close_1 (by decide) ?_
  refine va_put (D := (dC, dI)) (ci := 3) (v := .int 0) (ty := .int) (C := RX3) (T := TX3) (N := 11) hx hb hts iX3 tyX3 tyX3_ok nmX3 hown hK hP hD hS 0 rfl rfl 0 (by decide) l32 (fun _ h9 => h9) rfl (by decide +kernel) rfl rfl (Nat.le_of_ble_eq_true rfl) dX3_close_2 (fun H locs hP hD hS => ?_)
  have hP : va_P (dC, dI) vwCl (wM cI m0 m1 m2 m3 m4 m5 m6 0 gr co ofs grp kd vl ro fr nm dr) _ := hP
  have hD : va_D A (wM cI m0 m1 m2 m3 m4 m5 m6 0 gr co ofs grp kd vl ro fr nm dr) := hD
  refine lv_aload_n hx hb dX3_close_5 rfl (lv_at hl 0 rfl) ?_
  refine va_get (D := (dC, dI)) (ci := 3) (v := .int (nI gr)) (C := RX3) (T := TX3) (N := 11) hx hb hts iX3 hown hK hP 0 rfl rfl 1 (by decide) l35 (fun _ h9 => h9) rfl dX3_close_6 ?_
  refine lv_if_ne (tgt := 14) hx hb dX3_close_9 (by decide) (fun c9 => ?_) (fun c9 => ?_)
  · refine lv_aload_n hx hb dX3_close_14 rfl (lv_at hl 0 rfl) ?_
    refine lv_iconst (v := (-1)) hx hb dX3_close_15 (by decide) ?_
    refine lv_aload_n hx hb dX3_close_16 rfl (lv_at hl 0 rfl) ?_
    refine va_get (D := (dC, dI)) (ci := 3) (v := .int (nI gr)) (C := RX3) (T := TX3) (N := 11) hx hb hts iX3 hown hK hP 0 rfl rfl 1 (by decide) l35 (fun _ h9 => h9) rfl dX3_close_17 ?_
    have hP : va_P (dC, dI) vwCl ([] ++ (wM cI m0 m1 m2 m3 m4 m5 m6 0 gr co ofs grp kd vl ro fr nm dr)) _ := hP
    have hD : va_D A ([] ++ (wM cI m0 m1 m2 m3 m4 m5 m6 0 gr co ofs grp kd vl ro fr nm dr)) := hD
    refine m_wVv (As := [.int ((-1)), .int (nI gr)]) (rest := []) ⟨hx, hb, hml, hown, hts⟩ (c_X3_drop l dC dI cI m0 m1 m2 m3 m4 m5 m6 0 gr co ofs grp kd vl ro fr nm dr ((-1)) gr (by omega) hg hgr) (cwV 2 hts gX3_close_X3_drop rfl rfl rfl (by decide +kernel) ⟨Nat.le_of_ble_eq_true rfl, Nat.le_of_ble_eq_true rfl⟩) hP hK hD hS hA 3 0 rfl rfl rfl hl.1 rfl (Nat.le_of_ble_eq_true rfl) dX3_close_20 ⟨Nat.zero_le _, Nat.zero_le _⟩ (fun u H locs hw hP hD hS => ?_)
    subst hw
    have hP : va_P (dC, dI) vwCl (wM cI m0 m1 m2 m3 m4 m5 m6 0 gr ((dropF (kp ((-1)) gr) co 0 0 ofs grp kd vl).1) ((dropF (kp ((-1)) gr) co 0 0 ofs grp kd vl).2.1) ((dropF (kp ((-1)) gr) co 0 0 ofs grp kd vl).2.2.1) ((dropF (kp ((-1)) gr) co 0 0 ofs grp kd vl).2.2.2.1) ((dropF (kp ((-1)) gr) co 0 0 ofs grp kd vl).2.2.2.2) ro fr nm dr) _ := hP
    have hD : va_D A (wM cI m0 m1 m2 m3 m4 m5 m6 0 gr ((dropF (kp ((-1)) gr) co 0 0 ofs grp kd vl).1) ((dropF (kp ((-1)) gr) co 0 0 ofs grp kd vl).2.1) ((dropF (kp ((-1)) gr) co 0 0 ofs grp kd vl).2.2.1) ((dropF (kp ((-1)) gr) co 0 0 ofs grp kd vl).2.2.2.1) ((dropF (kp ((-1)) gr) co 0 0 ofs grp kd vl).2.2.2.2) ro fr nm dr) := hD
    refine lv_aload_n hx hb dX3_close_23 rfl (lv_at hl 0 rfl) ?_
    refine lv_dup hx hb dX3_close_24 rfl ?_
    refine va_get (D := (dC, dI)) (ci := 3) (v := .int (nI gr)) (C := RX3) (T := TX3) (N := 11) hx hb hts iX3 hown hK hP 0 rfl rfl 1 (by decide) l35 (fun _ h9 => h9) rfl dX3_close_25 ?_
    refine lv_iconst (v := 1) hx hb dX3_close_28 (by decide) ?_
    refine lv_isub hx hb dX3_close_29 ?_
    refine mv_top (v := nI (gr - 1)) (by rw [show (1 : Int32) = nI 1 from rfl]; exact pk_sub (by have h7 : ¬ gr = 0 := fun h => c9 (by rw [h]; rfl); omega)) ?_
    refine va_put (D := (dC, dI)) (ci := 3) (v := .int (nI (gr - 1))) (ty := .int) (C := RX3) (T := TX3) (N := 11) hx hb hts iX3 tyX3 tyX3_ok nmX3 hown hK hP hD hS 0 rfl rfl 1 (by decide) l35 (fun _ h9 => h9) rfl (by decide +kernel) rfl rfl (Nat.le_of_ble_eq_true rfl) dX3_close_30 (fun H locs hP hD hS => ?_)
    have hP : va_P (dC, dI) vwCl (wM cI m0 m1 m2 m3 m4 m5 m6 0 (gr - 1) ((dropF (kp ((-1)) gr) co 0 0 ofs grp kd vl).1) ((dropF (kp ((-1)) gr) co 0 0 ofs grp kd vl).2.1) ((dropF (kp ((-1)) gr) co 0 0 ofs grp kd vl).2.2.1) ((dropF (kp ((-1)) gr) co 0 0 ofs grp kd vl).2.2.2.1) ((dropF (kp ((-1)) gr) co 0 0 ofs grp kd vl).2.2.2.2) ro fr nm dr) _ := hP
    have hD : va_D A (wM cI m0 m1 m2 m3 m4 m5 m6 0 (gr - 1) ((dropF (kp ((-1)) gr) co 0 0 ofs grp kd vl).1) ((dropF (kp ((-1)) gr) co 0 0 ofs grp kd vl).2.1) ((dropF (kp ((-1)) gr) co 0 0 ofs grp kd vl).2.2.1) ((dropF (kp ((-1)) gr) co 0 0 ofs grp kd vl).2.2.2.1) ((dropF (kp ((-1)) gr) co 0 0 ofs grp kd vl).2.2.2.2) ro fr nm dr) := hD
    refine lv_iconst (v := 1) hx hb dX3_close_33 (by decide) ?_
    exact hret 1 ((0, gr - 1, (dropF (kp ((-1)) gr) co 0 0 ofs grp kd vl).1, (dropF (kp ((-1)) gr) co 0 0 ofs grp kd vl).2.1, (dropF (kp ((-1)) gr) co 0 0 ofs grp kd vl).2.2.1, (dropF (kp ((-1)) gr) co 0 0 ofs grp kd vl).2.2.2.1, (dropF (kp ((-1)) gr) co 0 0 ofs grp kd vl).2.2.2.2, ro, fr, nm, dr)) (rfl) (by simp only [mClose]; rw [if_neg (fun h => c9 (by rw [h]; rfl))]; exact ⟨rfl, rfl⟩) hP hD hS dX3_close_34
  · refine lv_iconst (v := 0) hx hb dX3_close_12 (by decide) ?_
    exact hret 0 ((0, gr, co, ofs, grp, kd, vl, ro, fr, nm, dr)) (rfl) (by simp only [mClose]; rw [if_pos ((nI_eq hg (by decide)).mp (c9.trans nI_0.symm))]; exact ⟨rfl, rfl⟩) hP hD hS dX3_close_13
set_option maxHeartbeats 4000000 in
set_option maxRecDepth 100000 in
theorem c_X3_set (l : Launch) (dC : Nat → ClassId) (dI : Nat → Nat → Nat) (cI : ClassId) (m0 m1 m2 m3 m4 m5 m6 : Nat) (th : Int32) (gr co : Nat) (ofs grp : Nat → Nat) (kd vl : Nat → Int32) (ro : Nat) (fr : Nat → Nat) (nm : Nat → Int32) (dr : Nat) (x y g : Int32) (hco : co < 4200) (hg : gr < 2 ^ 31) (hgr : ∀ i, i < co → grp i < 2 ^ 31) : mWi l yX3_set wsX3_set ({ frames := 2, cells := 0, slots := 0, locals := 49 }) (dC, dI) cI [.ref m0, .int x, .int y, .int g] (wM cI m0 m1 m2 m3 m4 m5 m6 th gr co ofs grp kd vl ro fr nm dr) (fun r u => r = (mSet x y g (th, gr, co, ofs, grp, kd, vl, ro, fr, nm, dr)).1 ∧ u = (mSet x y g (th, gr, co, ofs, grp, kd, vl, ro, fr, nm, dr)).2) (fun u : MS => wM cI m0 m1 m2 m3 m4 m5 m6 u.1 u.2.1 u.2.2.1 u.2.2.2.1 u.2.2.2.2.1 u.2.2.2.2.2.1 u.2.2.2.2.2.2.1 u.2.2.2.2.2.2.2.1 u.2.2.2.2.2.2.2.2.1 u.2.2.2.2.2.2.2.2.2.1 u.2.2.2.2.2.2.2.2.2.2) := by
  refine m_ofWi (cc := cX3_set) (maxL := 4) (by decide) rfl (Nat.le_of_ble_eq_true rfl) ?_
  intro p e s m args below meth c ls A Q hx hb hts hown hml hP hK hD hA hS hl hret
  have hown : s.vm.findClass RX3 = some m.cls := hown
  have hl : lv_has ls 4 [(0, .ref m0), (1, .int x), (2, .int y), (3, .int g)] := hl
  have l32 := hts (.fieldLink RX3 32 "GroupDeskModel" "thrown" "I") (by decide +kernel)
  have iX3 : ∀ w ∈ u_ws RX3 TX3 11, w ∈ wsX3_set := by decide +kernel
  refine lv_aload_n hx hb dX3_set_0 rfl (lv_at hl 0 rfl) ?_
  refine lv_iconst (v := 0) hx hb dX3_set_1 (by decide) ?_
  refine va_put (D := (dC, dI)) (ci := 3) (v := .int 0) (ty := .int) (C := RX3) (T := TX3) (N := 11) hx hb hts iX3 tyX3 tyX3_ok nmX3 hown hK hP hD hS 0 rfl rfl 0 (by decide) l32 (fun _ h9 => h9) rfl (by decide +kernel) rfl rfl (Nat.le_of_ble_eq_true rfl) dX3_set_2 (fun H locs hP hD hS => ?_)
  have hP : va_P (dC, dI) vwCl (wM cI m0 m1 m2 m3 m4 m5 m6 0 gr co ofs grp kd vl ro fr nm dr) _ := hP
  have hD : va_D A (wM cI m0 m1 m2 m3 m4 m5 m6 0 gr co ofs grp kd vl ro fr nm dr) := hD
  refine lv_iload_n hx hb dX3_set_5 rfl (lv_at hl 1 rfl) ?_
  refine m_rS (As := [.int x]) (rest := []) ⟨hx, hb, hml, hown, hts⟩ (c_X3_isCell l dC dI cI x) (va_cwS 1 hts gX3_set_X3_isCell rfl rfl rfl (by decide +kernel) ⟨Nat.le_of_ble_eq_true rfl, Nat.le_of_ble_eq_true rfl⟩) ma_nil hK rfl hl.1 rfl (Nat.le_of_ble_eq_true rfl) dX3_set_6 ⟨Nat.zero_le _, Nat.zero_le _⟩ (fun r hw => ?_)
  subst hw
  refine lv_if_ne (tgt := 14) hx hb dX3_set_9 (by decide) (fun c9 => ?_) (fun c9 => ?_)
  · have hj := b2i_n c9
    have hi := isR_of (by decide) hj
    refine lv_aload_n hx hb dX3_set_14 rfl (lv_at hl 0 rfl) ?_
    refine lv_iload_n hx hb dX3_set_15 rfl (lv_at hl 1 rfl) ?_
    refine mv_top (v := nI (rj x)) (hi.2) ?_
    refine lv_iconst (v := 0) hx hb dX3_set_16 (by decide) ?_
    refine lv_iload_n hx hb dX3_set_17 rfl (lv_at hl 2 rfl) ?_
    refine lv_iload_n hx hb dX3_set_18 rfl (lv_at hl 3 rfl) ?_
    have hP : va_P (dC, dI) vwCl ([] ++ (wM cI m0 m1 m2 m3 m4 m5 m6 0 gr co ofs grp kd vl ro fr nm dr)) _ := hP
    have hD : va_D A ([] ++ (wM cI m0 m1 m2 m3 m4 m5 m6 0 gr co ofs grp kd vl ro fr nm dr)) := hD
    refine m_wVv (As := [.int (nI (rj x)), .int 0, .int y, .int g]) (rest := []) ⟨hx, hb, hml, hown, hts⟩ (c_X3_assign l dC dI cI m0 m1 m2 m3 m4 m5 m6 0 gr co ofs grp kd vl ro fr nm dr (rj x) 0 y g hco hg hgr) (cwV 4 hts gX3_set_X3_assign rfl rfl rfl (by decide +kernel) ⟨Nat.le_of_ble_eq_true rfl, Nat.le_of_ble_eq_true rfl⟩) hP hK hD hS hA 3 0 rfl rfl rfl hl.1 rfl (Nat.le_of_ble_eq_true rfl) dX3_set_19 ⟨Nat.zero_le _, Nat.zero_le _⟩ (fun u H locs hw hP hD hS => ?_)
    subst hw
    have hP : va_P (dC, dI) vwCl (wM cI m0 m1 m2 m3 m4 m5 m6 0 gr ((asgM (rj x) 0 y g gr co ofs grp kd vl).1) ((asgM (rj x) 0 y g gr co ofs grp kd vl).2.1) ((asgM (rj x) 0 y g gr co ofs grp kd vl).2.2.1) ((asgM (rj x) 0 y g gr co ofs grp kd vl).2.2.2.1) ((asgM (rj x) 0 y g gr co ofs grp kd vl).2.2.2.2) ro fr nm dr) _ := hP
    have hD : va_D A (wM cI m0 m1 m2 m3 m4 m5 m6 0 gr ((asgM (rj x) 0 y g gr co ofs grp kd vl).1) ((asgM (rj x) 0 y g gr co ofs grp kd vl).2.1) ((asgM (rj x) 0 y g gr co ofs grp kd vl).2.2.1) ((asgM (rj x) 0 y g gr co ofs grp kd vl).2.2.2.1) ((asgM (rj x) 0 y g gr co ofs grp kd vl).2.2.2.2) ro fr nm dr) := hD
    refine lv_iconst (v := 1) hx hb dX3_set_22 (by decide) ?_
    exact hret 1 ((0, gr, (asgM (rj x) 0 y g gr co ofs grp kd vl).1, (asgM (rj x) 0 y g gr co ofs grp kd vl).2.1, (asgM (rj x) 0 y g gr co ofs grp kd vl).2.2.1, (asgM (rj x) 0 y g gr co ofs grp kd vl).2.2.2.1, (asgM (rj x) 0 y g gr co ofs grp kd vl).2.2.2.2, ro, fr, nm, dr)) (rfl) (by simp only [mSet, mAsg]; rw [if_pos hj]; exact ⟨rfl, rfl⟩) hP hD hS dX3_set_23
  · have hj := b2i_0 c9
    refine lv_iconst (v := 0) hx hb dX3_set_12 (by decide) ?_
    exact hret 0 ((0, gr, co, ofs, grp, kd, vl, ro, fr, nm, dr)) (rfl) (by simp only [mSet, mAsg]; rw [if_neg (by rw [hj]; decide)]; exact ⟨rfl, rfl⟩) hP hD hS dX3_set_13
set_option maxHeartbeats 4000000 in
set_option maxRecDepth 100000 in
theorem c_X3_mean (l : Launch) (dC : Nat → ClassId) (dI : Nat → Nat → Nat) (cI : ClassId) (m0 m1 m2 m3 m4 m5 m6 : Nat) (th : Int32) (gr co : Nat) (ofs grp : Nat → Nat) (kd vl : Nat → Int32) (ro : Nat) (fr : Nat → Nat) (nm : Nat → Int32) (dr : Nat) (x k y g : Int32) (hco : co < 4200) (hg : gr < 2 ^ 31) (hgr : ∀ i, i < co → grp i < 2 ^ 31) : mWi l yX3_mean wsX3_mean ({ frames := 2, cells := 0, slots := 0, locals := 49 }) (dC, dI) cI [.ref m0, .int x, .int k, .int y, .int g] (wM cI m0 m1 m2 m3 m4 m5 m6 th gr co ofs grp kd vl ro fr nm dr) (fun r u => r = (mMean x k y g (th, gr, co, ofs, grp, kd, vl, ro, fr, nm, dr)).1 ∧ u = (mMean x k y g (th, gr, co, ofs, grp, kd, vl, ro, fr, nm, dr)).2) (fun u : MS => wM cI m0 m1 m2 m3 m4 m5 m6 u.1 u.2.1 u.2.2.1 u.2.2.2.1 u.2.2.2.2.1 u.2.2.2.2.2.1 u.2.2.2.2.2.2.1 u.2.2.2.2.2.2.2.1 u.2.2.2.2.2.2.2.2.1 u.2.2.2.2.2.2.2.2.2.1 u.2.2.2.2.2.2.2.2.2.2) := by
  refine m_ofWi (cc := cX3_mean) (maxL := 5) (by decide) rfl (Nat.le_of_ble_eq_true rfl) ?_
  intro p e s m args below meth c ls A Q hx hb hts hown hml hP hK hD hA hS hl hret
  have hown : s.vm.findClass RX3 = some m.cls := hown
  have hl : lv_has ls 5 [(0, .ref m0), (1, .int x), (2, .int k), (3, .int y), (4, .int g)] := hl
  have l32 := hts (.fieldLink RX3 32 "GroupDeskModel" "thrown" "I") (by decide +kernel)
  have iX3 : ∀ w ∈ u_ws RX3 TX3 11, w ∈ wsX3_mean := by decide +kernel
  refine lv_aload_n hx hb dX3_mean_0 rfl (lv_at hl 0 rfl) ?_
  refine lv_iconst (v := 0) hx hb dX3_mean_1 (by decide) ?_
  refine va_put (D := (dC, dI)) (ci := 3) (v := .int 0) (ty := .int) (C := RX3) (T := TX3) (N := 11) hx hb hts iX3 tyX3 tyX3_ok nmX3 hown hK hP hD hS 0 rfl rfl 0 (by decide) l32 (fun _ h9 => h9) rfl (by decide +kernel) rfl rfl (Nat.le_of_ble_eq_true rfl) dX3_mean_2 (fun H locs hP hD hS => ?_)
  have hP : va_P (dC, dI) vwCl (wM cI m0 m1 m2 m3 m4 m5 m6 0 gr co ofs grp kd vl ro fr nm dr) _ := hP
  have hD : va_D A (wM cI m0 m1 m2 m3 m4 m5 m6 0 gr co ofs grp kd vl ro fr nm dr) := hD
  refine lv_iload_n hx hb dX3_mean_5 rfl (lv_at hl 1 rfl) ?_
  refine m_rS (As := [.int x]) (rest := []) ⟨hx, hb, hml, hown, hts⟩ (c_X3_isName l dC dI cI x) (va_cwS 1 hts gX3_mean_X3_isName rfl rfl rfl (by decide +kernel) ⟨Nat.le_of_ble_eq_true rfl, Nat.le_of_ble_eq_true rfl⟩) ma_nil hK rfl hl.1 rfl (Nat.le_of_ble_eq_true rfl) dX3_mean_6 ⟨Nat.zero_le _, Nat.zero_le _⟩ (fun r hw => ?_)
  subst hw
  refine lv_if_eq (tgt := 27) hx hb dX3_mean_9 (by decide) (fun c9 => ?_) (fun c9 => ?_)
  · have hj := b2i_0 c9
    refine lv_iconst (v := 0) hx hb dX3_mean_27 (by decide) ?_
    exact hret 0 ((0, gr, co, ofs, grp, kd, vl, ro, fr, nm, dr)) (rfl) (by simp only [mMean, mAsg]; rw [if_neg (by rw [hj, Bool.false_and]; decide)]; exact ⟨rfl, rfl⟩) hP hD hS dX3_mean_28
  · have hj := b2i_n c9
    have hix := isR_of (by decide) hj
    refine lv_iload_n hx hb dX3_mean_12 rfl (lv_at hl 2 rfl) ?_
    refine lv_if_lt (tgt := 27) hx hb dX3_mean_13 (by decide) (fun c13 => ?_) (fun c13 => ?_)
    · refine lv_iconst (v := 0) hx hb dX3_mean_27 (by decide) ?_
      exact hret 0 ((0, gr, co, ofs, grp, kd, vl, ro, fr, nm, dr)) (rfl) (by simp only [mMean, mAsg]; rw [if_neg (by unfold kOk; rw [decide_eq_false (not_not_intro c13), Bool.false_and, Bool.false_and, Bool.and_false]; decide)]; exact ⟨rfl, rfl⟩) hP hD hS dX3_mean_28
    · refine lv_iload_n hx hb dX3_mean_16 rfl (lv_at hl 2 rfl) ?_
      refine lv_bipush (v := nI 8) hx hb dX3_mean_17 (by decide) ?_
      refine lv_icmp_gt (tgt := 27) hx hb dX3_mean_19 (by decide) (fun c19 => ?_) (fun c19 => ?_)
      · refine lv_iconst (v := 0) hx hb dX3_mean_27 (by decide) ?_
        exact hret 0 ((0, gr, co, ofs, grp, kd, vl, ro, fr, nm, dr)) (rfl) (by simp only [mMean, mAsg]; rw [if_neg (by unfold kOk; rw [decide_eq_false (not_not_intro c19), Bool.and_false, Bool.false_and, Bool.and_false]; decide)]; exact ⟨rfl, rfl⟩) hP hD hS dX3_mean_28
      · refine lv_iload_n hx hb dX3_mean_22 rfl (lv_at hl 2 rfl) ?_
        refine lv_iconst (v := 3) hx hb dX3_mean_23 (by decide) ?_
        refine lv_icmp_ne (tgt := 29) hx hb dX3_mean_24 (by decide) (fun c24 => ?_) (fun c24 => ?_)
        · refine lv_aload_n hx hb dX3_mean_29 rfl (lv_at hl 0 rfl) ?_
          refine lv_sipush (v := nI 3000) hx hb dX3_mean_30 (by decide) ?_
          refine lv_iload_n hx hb dX3_mean_33 rfl (lv_at hl 1 rfl) ?_
          refine lv_iadd hx hb dX3_mean_34 ?_
          refine mv_top (v := nI (3000 + rj x)) (by rw [hix.2, rj_nI (by have := hix.1; omega)]; exact nI_add 3000 _) ?_
          refine lv_iload_n hx hb dX3_mean_35 rfl (lv_at hl 2 rfl) ?_
          refine lv_iload_n hx hb dX3_mean_36 rfl (lv_at hl 3 rfl) ?_
          refine lv_iload hx hb dX3_mean_37 (lv_at hl 4 rfl) ?_
          have hP : va_P (dC, dI) vwCl ([] ++ (wM cI m0 m1 m2 m3 m4 m5 m6 0 gr co ofs grp kd vl ro fr nm dr)) _ := hP
          have hD : va_D A ([] ++ (wM cI m0 m1 m2 m3 m4 m5 m6 0 gr co ofs grp kd vl ro fr nm dr)) := hD
          refine m_wVv (As := [.int (nI (3000 + rj x)), .int k, .int y, .int g]) (rest := []) ⟨hx, hb, hml, hown, hts⟩ (c_X3_assign l dC dI cI m0 m1 m2 m3 m4 m5 m6 0 gr co ofs grp kd vl ro fr nm dr (3000 + rj x) k y g hco hg hgr) (cwV 4 hts gX3_mean_X3_assign rfl rfl rfl (by decide +kernel) ⟨Nat.le_of_ble_eq_true rfl, Nat.le_of_ble_eq_true rfl⟩) hP hK hD hS hA 3 0 rfl rfl rfl hl.1 rfl (Nat.le_of_ble_eq_true rfl) dX3_mean_39 ⟨Nat.zero_le _, Nat.zero_le _⟩ (fun u H locs hw hP hD hS => ?_)
          subst hw
          have hP : va_P (dC, dI) vwCl (wM cI m0 m1 m2 m3 m4 m5 m6 0 gr ((asgM (3000 + rj x) k y g gr co ofs grp kd vl).1) ((asgM (3000 + rj x) k y g gr co ofs grp kd vl).2.1) ((asgM (3000 + rj x) k y g gr co ofs grp kd vl).2.2.1) ((asgM (3000 + rj x) k y g gr co ofs grp kd vl).2.2.2.1) ((asgM (3000 + rj x) k y g gr co ofs grp kd vl).2.2.2.2) ro fr nm dr) _ := hP
          have hD : va_D A (wM cI m0 m1 m2 m3 m4 m5 m6 0 gr ((asgM (3000 + rj x) k y g gr co ofs grp kd vl).1) ((asgM (3000 + rj x) k y g gr co ofs grp kd vl).2.1) ((asgM (3000 + rj x) k y g gr co ofs grp kd vl).2.2.1) ((asgM (3000 + rj x) k y g gr co ofs grp kd vl).2.2.2.1) ((asgM (3000 + rj x) k y g gr co ofs grp kd vl).2.2.2.2) ro fr nm dr) := hD
          refine lv_iconst (v := 1) hx hb dX3_mean_42 (by decide) ?_
          exact hret 1 ((0, gr, (asgM (3000 + rj x) k y g gr co ofs grp kd vl).1, (asgM (3000 + rj x) k y g gr co ofs grp kd vl).2.1, (asgM (3000 + rj x) k y g gr co ofs grp kd vl).2.2.1, (asgM (3000 + rj x) k y g gr co ofs grp kd vl).2.2.2.1, (asgM (3000 + rj x) k y g gr co ofs grp kd vl).2.2.2.2, ro, fr, nm, dr)) (rfl) (by simp only [mMean, mAsg]; rw [if_pos (by unfold kOk; rw [hj, decide_eq_true c13, decide_eq_true c19, decide_eq_true c24]; rfl)]; exact ⟨rfl, rfl⟩) hP hD hS dX3_mean_43
        · refine lv_iconst (v := 0) hx hb dX3_mean_27 (by decide) ?_
          exact hret 0 ((0, gr, co, ofs, grp, kd, vl, ro, fr, nm, dr)) (rfl) (by simp only [mMean, mAsg]; rw [if_neg (by unfold kOk; rw [decide_eq_false (not_not_intro c24), Bool.and_false, Bool.and_false]; decide)]; exact ⟨rfl, rfl⟩) hP hD hS dX3_mean_28
set_option maxHeartbeats 4000000 in
set_option maxRecDepth 100000 in
theorem c_X3_draft (l : Launch) (dC : Nat → ClassId) (dI : Nat → Nat → Nat) (cI : ClassId) (m0 m1 m2 m3 m4 m5 m6 : Nat) (th : Int32) (gr co : Nat) (ofs grp : Nat → Nat) (kd vl : Nat → Int32) (ro : Nat) (fr : Nat → Nat) (nm : Nat → Int32) (dr : Nat) (x : Int32) (hro : ro < 4200) (hd : dr < 2 ^ 31) (hfd : fr ro + dr < 4400) : mWi l yX3_draft wsX3_draft ({ frames := 0, cells := 0, slots := 0, locals := 0 }) (dC, dI) cI [.ref m0, .int x] (wM cI m0 m1 m2 m3 m4 m5 m6 th gr co ofs grp kd vl ro fr nm dr) (fun r u => r = (mDraft x (th, gr, co, ofs, grp, kd, vl, ro, fr, nm, dr)).1 ∧ u = (mDraft x (th, gr, co, ofs, grp, kd, vl, ro, fr, nm, dr)).2) (fun u : MS => wM cI m0 m1 m2 m3 m4 m5 m6 u.1 u.2.1 u.2.2.1 u.2.2.2.1 u.2.2.2.2.1 u.2.2.2.2.2.1 u.2.2.2.2.2.2.1 u.2.2.2.2.2.2.2.1 u.2.2.2.2.2.2.2.2.1 u.2.2.2.2.2.2.2.2.2.1 u.2.2.2.2.2.2.2.2.2.2) := by
  refine m_ofWi (cc := cX3_draft) (maxL := 2) (by decide) rfl (Nat.le_of_ble_eq_true rfl) ?_
  intro p e s m args below meth c ls A Q hx hb hts hown hml hP hK hD hA hS hl hret
  have hown : s.vm.findClass RX3 = some m.cls := hown
  have hl : lv_has ls 2 [(0, .ref m0), (1, .int x)] := hl
  have l32 := hts (.fieldLink RX3 32 "GroupDeskModel" "thrown" "I") (by decide +kernel)
  have l60 := hts (.fieldLink RX3 60 "GroupDeskModel" "drafted" "I") (by decide +kernel)
  have l29 := hts (.fieldLink RX3 29 "GroupDeskModel" "numbers" "[I") (by decide +kernel)
  have l26 := hts (.fieldLink RX3 26 "GroupDeskModel" "from" "[I") (by decide +kernel)
  have l22 := hts (.fieldLink RX3 22 "GroupDeskModel" "rows" "I") (by decide +kernel)
  have iX3 : ∀ w ∈ u_ws RX3 TX3 11, w ∈ wsX3_draft := by decide +kernel
  refine lv_aload_n hx hb dX3_draft_0 rfl (lv_at hl 0 rfl) ?_
  refine lv_iconst (v := 0) hx hb dX3_draft_1 (by decide) ?_
  refine va_put (D := (dC, dI)) (ci := 3) (v := .int 0) (ty := .int) (C := RX3) (T := TX3) (N := 11) hx hb hts iX3 tyX3 tyX3_ok nmX3 hown hK hP hD hS 0 rfl rfl 0 (by decide) l32 (fun _ h9 => h9) rfl (by decide +kernel) rfl rfl (Nat.le_of_ble_eq_true rfl) dX3_draft_2 (fun H locs hP hD hS => ?_)
  have hP : va_P (dC, dI) vwCl (wM cI m0 m1 m2 m3 m4 m5 m6 0 gr co ofs grp kd vl ro fr nm dr) _ := hP
  have hD : va_D A (wM cI m0 m1 m2 m3 m4 m5 m6 0 gr co ofs grp kd vl ro fr nm dr) := hD
  refine lv_aload_n hx hb dX3_draft_5 rfl (lv_at hl 0 rfl) ?_
  refine va_get (D := (dC, dI)) (ci := 3) (v := .int (nI dr)) (C := RX3) (T := TX3) (N := 11) hx hb hts iX3 hown hK hP 0 rfl rfl 10 (by decide) l60 (fun _ h9 => h9) rfl dX3_draft_6 ?_
  refine lv_sipush (v := nI 200) hx hb dX3_draft_9 (by decide) ?_
  refine lv_icmp_ne (tgt := 17) hx hb dX3_draft_12 (by decide) (fun c12 => ?_) (fun c12 => ?_)
  · refine lv_aload_n hx hb dX3_draft_17 rfl (lv_at hl 0 rfl) ?_
    refine va_get (D := (dC, dI)) (ci := 3) (v := .ref m6) (C := RX3) (T := TX3) (N := 11) hx hb hts iX3 hown hK hP 0 rfl rfl 9 (by decide) l29 (fun _ h9 => h9) rfl dX3_draft_18 ?_
    refine lv_aload_n hx hb dX3_draft_21 rfl (lv_at hl 0 rfl) ?_
    refine va_get (D := (dC, dI)) (ci := 3) (v := .ref m5) (C := RX3) (T := TX3) (N := 11) hx hb hts iX3 hown hK hP 0 rfl rfl 8 (by decide) l26 (fun _ h9 => h9) rfl dX3_draft_22 ?_
    refine lv_aload_n hx hb dX3_draft_25 rfl (lv_at hl 0 rfl) ?_
    refine va_get (D := (dC, dI)) (ci := 3) (v := .int (nI ro)) (C := RX3) (T := TX3) (N := 11) hx hb hts iX3 hown hK hP 0 rfl rfl 7 (by decide) l22 (fun _ h9 => h9) rfl dX3_draft_26 ?_
    refine mv_iald hx hb hK hP 5 0 rfl rfl (k := ro) (rfl) (by omega) (by decide) (v := nI (fr ro)) rfl dX3_draft_29 ?_
    refine lv_aload_n hx hb dX3_draft_30 rfl (lv_at hl 0 rfl) ?_
    refine va_get (D := (dC, dI)) (ci := 3) (v := .int (nI dr)) (C := RX3) (T := TX3) (N := 11) hx hb hts iX3 hown hK hP 0 rfl rfl 10 (by decide) l60 (fun _ h9 => h9) rfl dX3_draft_31 ?_
    refine lv_iadd hx hb dX3_draft_34 ?_
    refine mv_top (v := nI (fr ro + dr)) (nI_add (fr ro) dr) ?_
    refine lv_iload_n hx hb dX3_draft_35 rfl (lv_at hl 1 rfl) ?_
    refine mv_iast hx hb hK hP hD hS 6 0 rfl rfl (k := fr ro + dr) (rfl) (by omega) (by decide) (f' := upd nm (fr ro + dr) x) (rfl) dX3_draft_36 (fun H locs hP hD hS => ?_)
    have hP : va_P (dC, dI) vwCl (wM cI m0 m1 m2 m3 m4 m5 m6 0 gr co ofs grp kd vl ro fr (upd nm (fr ro + dr) x) dr) _ := hP
    have hD : va_D A (wM cI m0 m1 m2 m3 m4 m5 m6 0 gr co ofs grp kd vl ro fr (upd nm (fr ro + dr) x) dr) := hD
    refine lv_aload_n hx hb dX3_draft_37 rfl (lv_at hl 0 rfl) ?_
    refine lv_dup hx hb dX3_draft_38 rfl ?_
    refine va_get (D := (dC, dI)) (ci := 3) (v := .int (nI dr)) (C := RX3) (T := TX3) (N := 11) hx hb hts iX3 hown hK hP 0 rfl rfl 10 (by decide) l60 (fun _ h9 => h9) rfl dX3_draft_39 ?_
    refine lv_iconst (v := 1) hx hb dX3_draft_42 (by decide) ?_
    refine lv_iadd hx hb dX3_draft_43 ?_
    refine mv_top (v := nI (dr + 1)) (nI_1 dr) ?_
    refine va_put (D := (dC, dI)) (ci := 3) (v := .int (nI (dr + 1))) (ty := .int) (C := RX3) (T := TX3) (N := 11) hx hb hts iX3 tyX3 tyX3_ok nmX3 hown hK hP hD hS 0 rfl rfl 10 (by decide) l60 (fun _ h9 => h9) rfl (by decide +kernel) rfl rfl (Nat.le_of_ble_eq_true rfl) dX3_draft_44 (fun H locs hP hD hS => ?_)
    have hP : va_P (dC, dI) vwCl (wM cI m0 m1 m2 m3 m4 m5 m6 0 gr co ofs grp kd vl ro fr (upd nm (fr ro + dr) x) (dr + 1)) _ := hP
    have hD : va_D A (wM cI m0 m1 m2 m3 m4 m5 m6 0 gr co ofs grp kd vl ro fr (upd nm (fr ro + dr) x) (dr + 1)) := hD
    refine lv_iconst (v := 1) hx hb dX3_draft_47 (by decide) ?_
    exact hret 1 ((0, gr, co, ofs, grp, kd, vl, ro, fr, upd nm (fr ro + dr) x, dr + 1)) (rfl) (by simp only [mDraft]; rw [if_neg (fun h => c12 (by rw [h]))]; exact ⟨rfl, rfl⟩) hP hD hS dX3_draft_48
  · refine lv_iconst (v := 0) hx hb dX3_draft_15 (by decide) ?_
    exact hret 0 ((0, gr, co, ofs, grp, kd, vl, ro, fr, nm, dr)) (rfl) (by simp only [mDraft]; rw [if_pos ((nI_eq hd (by decide)).mp c12)]; exact ⟨rfl, rfl⟩) hP hD hS dX3_draft_16
set_option maxHeartbeats 4000000 in
set_option maxRecDepth 100000 in
theorem c_X3_define (l : Launch) (dC : Nat → ClassId) (dI : Nat → Nat → Nat) (cI : ClassId) (m0 m1 m2 m3 m4 m5 m6 : Nat) (th : Int32) (gr co : Nat) (ofs grp : Nat → Nat) (kd vl : Nat → Int32) (ro : Nat) (fr : Nat → Nat) (nm : Nat → Int32) (dr : Nat) (x g : Int32) (hco : co < 4200) (hg : gr < 2 ^ 31) (hgr : ∀ i, i < co → grp i < 2 ^ 31) (hro : ro + 1 < 4200) : mWi l yX3_define wsX3_define ({ frames := 2, cells := 0, slots := 0, locals := 49 }) (dC, dI) cI [.ref m0, .int x, .int g] (wM cI m0 m1 m2 m3 m4 m5 m6 th gr co ofs grp kd vl ro fr nm dr) (fun r u => r = (mDefine x g (th, gr, co, ofs, grp, kd, vl, ro, fr, nm, dr)).1 ∧ u = (mDefine x g (th, gr, co, ofs, grp, kd, vl, ro, fr, nm, dr)).2) (fun u : MS => wM cI m0 m1 m2 m3 m4 m5 m6 u.1 u.2.1 u.2.2.1 u.2.2.2.1 u.2.2.2.2.1 u.2.2.2.2.2.1 u.2.2.2.2.2.2.1 u.2.2.2.2.2.2.2.1 u.2.2.2.2.2.2.2.2.1 u.2.2.2.2.2.2.2.2.2.1 u.2.2.2.2.2.2.2.2.2.2) := by
  refine m_ofWi (cc := cX3_define) (maxL := 4) (by decide) rfl (Nat.le_of_ble_eq_true rfl) ?_
  intro p e s m args below meth c ls A Q hx hb hts hown hml hP hK hD hA hS hl hret
  have hown : s.vm.findClass RX3 = some m.cls := hown
  have hl : lv_has ls 4 [(0, .ref m0), (1, .int x), (2, .int g)] := hl
  have l32 := hts (.fieldLink RX3 32 "GroupDeskModel" "thrown" "I") (by decide +kernel)
  have iX3 : ∀ w ∈ u_ws RX3 TX3 11, w ∈ wsX3_define := by decide +kernel
  refine lv_iload_n hx hb dX3_define_0 rfl (lv_at hl 1 rfl) ?_
  refine m_rS (As := [.int x]) (rest := []) ⟨hx, hb, hml, hown, hts⟩ (c_X3_isName l dC dI cI x) (va_cwS 1 hts gX3_define_X3_isName rfl rfl rfl (by decide +kernel) ⟨Nat.le_of_ble_eq_true rfl, Nat.le_of_ble_eq_true rfl⟩) ma_nil hK rfl hl.1 rfl (Nat.le_of_ble_eq_true rfl) dX3_define_1 ⟨Nat.zero_le _, Nat.zero_le _⟩ (fun r hw => ?_)
  subst hw
  refine lv_if_ne (tgt := 12) hx hb dX3_define_4 (by decide) (fun c4 => ?_) (fun c4 => ?_)
  · have hj := b2i_n c4
    have hix := isR_of (by decide) hj
    refine lv_aload_n hx hb dX3_define_12 rfl (lv_at hl 0 rfl) ?_
    refine lv_iconst (v := 0) hx hb dX3_define_13 (by decide) ?_
    refine va_put (D := (dC, dI)) (ci := 3) (v := .int 0) (ty := .int) (C := RX3) (T := TX3) (N := 11) hx hb hts iX3 tyX3 tyX3_ok nmX3 hown hK hP hD hS 0 rfl rfl 0 (by decide) l32 (fun _ h9 => h9) rfl (by decide +kernel) rfl rfl (Nat.le_of_ble_eq_true rfl) dX3_define_14 (fun H locs hP hD hS => ?_)
    have hP : va_P (dC, dI) vwCl (wM cI m0 m1 m2 m3 m4 m5 m6 0 gr co ofs grp kd vl ro fr nm dr) _ := hP
    have hD : va_D A (wM cI m0 m1 m2 m3 m4 m5 m6 0 gr co ofs grp kd vl ro fr nm dr) := hD
    refine lv_aload_n hx hb dX3_define_17 rfl (lv_at hl 0 rfl) ?_
    have hP : va_P (dC, dI) vwCl ([] ++ (wM cI m0 m1 m2 m3 m4 m5 m6 0 gr co ofs grp kd vl ro fr nm dr)) _ := hP
    have hD : va_D A ([] ++ (wM cI m0 m1 m2 m3 m4 m5 m6 0 gr co ofs grp kd vl ro fr nm dr)) := hD
    refine m_wVi (As := []) (rest := []) ⟨hx, hb, hml, hown, hts⟩ (c_X3_taken l dC dI cI m0 m1 m2 m3 m4 m5 m6 0 gr co ofs grp kd vl ro fr nm dr hro) (cwV 0 hts gX3_define_X3_taken rfl rfl rfl (by decide +kernel) ⟨Nat.le_of_ble_eq_true rfl, Nat.le_of_ble_eq_true rfl⟩) hP hK hD hS hA 3 0 rfl rfl rfl hl.1 rfl (Nat.le_of_ble_eq_true rfl) dX3_define_18 ⟨Nat.zero_le _, Nat.zero_le _⟩ (fun r u H locs hw hP hD hS => ?_)
    obtain ⟨rfl, rfl⟩ := hw
    have hP : va_P (dC, dI) vwCl (wM cI m0 m1 m2 m3 m4 m5 m6 0 gr co ofs grp kd vl (ro + 1) (va_up fr (ro + 1) (fr ro + dr)) nm 0) _ := hP
    have hD : va_D A (wM cI m0 m1 m2 m3 m4 m5 m6 0 gr co ofs grp kd vl (ro + 1) (va_up fr (ro + 1) (fr ro + dr)) nm 0) := hD
    refine lv_istore_n (lv' := [(3, .int (nI ro)), (0, .ref m0), (1, .int x), (2, .int g)]) hx hb dX3_define_21 rfl hl (by decide) rfl (fun ls hl => ?_)
    refine lv_aload_n hx hb dX3_define_22 rfl (lv_at hl 1 rfl) ?_
    refine lv_sipush (v := nI 3000) hx hb dX3_define_23 (by decide) ?_
    refine lv_iload_n hx hb dX3_define_26 rfl (lv_at hl 2 rfl) ?_
    refine lv_iadd hx hb dX3_define_27 ?_
    refine mv_top (v := nI (3000 + rj x)) (by rw [hix.2, rj_nI (by have := hix.1; omega)]; exact nI_add 3000 _) ?_
    refine lv_iconst (v := 3) hx hb dX3_define_28 (by decide) ?_
    refine lv_iload_n hx hb dX3_define_29 rfl (lv_at hl 0 rfl) ?_
    refine lv_iload_n hx hb dX3_define_30 rfl (lv_at hl 3 rfl) ?_
    have hP : va_P (dC, dI) vwCl ([] ++ (wM cI m0 m1 m2 m3 m4 m5 m6 0 gr co ofs grp kd vl (ro + 1) (va_up fr (ro + 1) (fr ro + dr)) nm 0)) _ := hP
    have hD : va_D A ([] ++ (wM cI m0 m1 m2 m3 m4 m5 m6 0 gr co ofs grp kd vl (ro + 1) (va_up fr (ro + 1) (fr ro + dr)) nm 0)) := hD
    refine m_wVv (As := [.int (nI (3000 + rj x)), .int 3, .int (nI ro), .int g]) (rest := []) ⟨hx, hb, hml, hown, hts⟩ (c_X3_assign l dC dI cI m0 m1 m2 m3 m4 m5 m6 0 gr co ofs grp kd vl (ro + 1) (va_up fr (ro + 1) (fr ro + dr)) nm 0 (3000 + rj x) 3 (nI ro) g hco hg hgr) (cwV 4 hts gX3_define_X3_assign rfl rfl rfl (by decide +kernel) ⟨Nat.le_of_ble_eq_true rfl, Nat.le_of_ble_eq_true rfl⟩) hP hK hD hS hA 3 0 rfl rfl rfl hl.1 rfl (Nat.le_of_ble_eq_true rfl) dX3_define_31 ⟨Nat.zero_le _, Nat.zero_le _⟩ (fun u H locs hw hP hD hS => ?_)
    subst hw
    have hP : va_P (dC, dI) vwCl (wM cI m0 m1 m2 m3 m4 m5 m6 0 gr ((asgM (3000 + rj x) 3 (nI ro) g gr co ofs grp kd vl).1) ((asgM (3000 + rj x) 3 (nI ro) g gr co ofs grp kd vl).2.1) ((asgM (3000 + rj x) 3 (nI ro) g gr co ofs grp kd vl).2.2.1) ((asgM (3000 + rj x) 3 (nI ro) g gr co ofs grp kd vl).2.2.2.1) ((asgM (3000 + rj x) 3 (nI ro) g gr co ofs grp kd vl).2.2.2.2) (ro + 1) (va_up fr (ro + 1) (fr ro + dr)) nm 0) _ := hP
    have hD : va_D A (wM cI m0 m1 m2 m3 m4 m5 m6 0 gr ((asgM (3000 + rj x) 3 (nI ro) g gr co ofs grp kd vl).1) ((asgM (3000 + rj x) 3 (nI ro) g gr co ofs grp kd vl).2.1) ((asgM (3000 + rj x) 3 (nI ro) g gr co ofs grp kd vl).2.2.1) ((asgM (3000 + rj x) 3 (nI ro) g gr co ofs grp kd vl).2.2.2.1) ((asgM (3000 + rj x) 3 (nI ro) g gr co ofs grp kd vl).2.2.2.2) (ro + 1) (va_up fr (ro + 1) (fr ro + dr)) nm 0) := hD
    refine lv_aload_n hx hb dX3_define_34 rfl (lv_at hl 1 rfl) ?_
    refine lv_iload_n hx hb dX3_define_35 rfl (lv_at hl 0 rfl) ?_
    refine m_rV (As := [.int (nI ro)]) (rest := []) ⟨hx, hb, hml, hown, hts⟩ (c_X3_size l dC dI cI m0 m1 m2 m3 m4 m5 m6 0 gr ((asgM (3000 + rj x) 3 (nI ro) g gr co ofs grp kd vl).1) ((asgM (3000 + rj x) 3 (nI ro) g gr co ofs grp kd vl).2.1) ((asgM (3000 + rj x) 3 (nI ro) g gr co ofs grp kd vl).2.2.1) ((asgM (3000 + rj x) 3 (nI ro) g gr co ofs grp kd vl).2.2.2.1) ((asgM (3000 + rj x) 3 (nI ro) g gr co ofs grp kd vl).2.2.2.2) (ro + 1) (va_up fr (ro + 1) (fr ro + dr)) nm 0 ro (by omega)) (cwV 1 hts gX3_define_X3_size rfl rfl rfl (by decide +kernel) ⟨Nat.le_of_ble_eq_true rfl, Nat.le_of_ble_eq_true rfl⟩) hP hK 3 0 rfl rfl rfl hl.1 rfl (Nat.le_of_ble_eq_true rfl) dX3_define_36 ⟨Nat.zero_le _, Nat.zero_le _⟩ (fun r hw => ?_)
    subst hw
    exact hret (sizeM (va_up fr (ro + 1) (fr ro + dr)) ro) ((0, gr, (asgM (3000 + rj x) 3 (nI ro) g gr co ofs grp kd vl).1, (asgM (3000 + rj x) 3 (nI ro) g gr co ofs grp kd vl).2.1, (asgM (3000 + rj x) 3 (nI ro) g gr co ofs grp kd vl).2.2.1, (asgM (3000 + rj x) 3 (nI ro) g gr co ofs grp kd vl).2.2.2.1, (asgM (3000 + rj x) 3 (nI ro) g gr co ofs grp kd vl).2.2.2.2, ro + 1, va_up fr (ro + 1) (fr ro + dr), nm, 0)) (rfl) (by simp only [mDefine, mTake, mAsg]; rw [if_pos hj]; exact ⟨rfl, rfl⟩) hP hD hS dX3_define_39
  · have hj := b2i_0 c4
    refine lv_aload_n hx hb dX3_define_7 rfl (lv_at hl 0 rfl) ?_
    have hP : va_P (dC, dI) vwCl ([] ++ (wM cI m0 m1 m2 m3 m4 m5 m6 th gr co ofs grp kd vl ro fr nm dr)) _ := hP
    have hD : va_D A ([] ++ (wM cI m0 m1 m2 m3 m4 m5 m6 th gr co ofs grp kd vl ro fr nm dr)) := hD
    refine m_wVi (As := []) (rest := []) ⟨hx, hb, hml, hown, hts⟩ (c_X3_fails l dC dI cI m0 m1 m2 m3 m4 m5 m6 th gr co ofs grp kd vl ro fr nm dr) (cwV 0 hts gX3_define_X3_fails rfl rfl rfl (by decide +kernel) ⟨Nat.le_of_ble_eq_true rfl, Nat.le_of_ble_eq_true rfl⟩) hP hK hD hS hA 3 0 rfl rfl rfl hl.1 rfl (Nat.le_of_ble_eq_true rfl) dX3_define_8 ⟨Nat.zero_le _, Nat.zero_le _⟩ (fun r u H locs hw hP hD hS => ?_)
    obtain ⟨rfl, rfl⟩ := hw
    have hP : va_P (dC, dI) vwCl (wM cI m0 m1 m2 m3 m4 m5 m6 1 gr co ofs grp kd vl ro fr nm dr) _ := hP
    have hD : va_D A (wM cI m0 m1 m2 m3 m4 m5 m6 1 gr co ofs grp kd vl ro fr nm dr) := hD
    exact hret 0 ((1, gr, co, ofs, grp, kd, vl, ro, fr, nm, dr)) (rfl) (by simp only [mDefine, mTake, mAsg]; rw [if_neg (by rw [hj]; decide)]; exact ⟨rfl, rfl⟩) hP hD hS dX3_define_11
set_option maxHeartbeats 4000000 in
set_option maxRecDepth 100000 in
theorem c_X3_let (l : Launch) (dC : Nat → ClassId) (dI : Nat → Nat → Nat) (cI : ClassId) (m0 m1 m2 m3 m4 m5 m6 : Nat) (th : Int32) (gr co : Nat) (ofs grp : Nat → Nat) (kd vl : Nat → Int32) (ro : Nat) (fr : Nat → Nat) (nm : Nat → Int32) (dr : Nat) (x y g : Int32) (hco : co < 4200) (hg : gr < 2 ^ 31) (hgr : ∀ i, i < co → grp i < 2 ^ 31) (hof : ∀ i, i < co → ofs i < 2 ^ 31) : mWi l yX3_let wsX3_let ({ frames := 2, cells := 0, slots := 0, locals := 49 }) (dC, dI) cI [.ref m0, .int x, .int y, .int g] (wM cI m0 m1 m2 m3 m4 m5 m6 th gr co ofs grp kd vl ro fr nm dr) (fun r u => r = (mLet x y g (th, gr, co, ofs, grp, kd, vl, ro, fr, nm, dr)).1 ∧ u = (mLet x y g (th, gr, co, ofs, grp, kd, vl, ro, fr, nm, dr)).2) (fun u : MS => wM cI m0 m1 m2 m3 m4 m5 m6 u.1 u.2.1 u.2.2.1 u.2.2.2.1 u.2.2.2.2.1 u.2.2.2.2.2.1 u.2.2.2.2.2.2.1 u.2.2.2.2.2.2.2.1 u.2.2.2.2.2.2.2.2.1 u.2.2.2.2.2.2.2.2.2.1 u.2.2.2.2.2.2.2.2.2.2) := by
  refine m_ofWi (cc := cX3_let) (maxL := 4) (by decide) rfl (Nat.le_of_ble_eq_true rfl) ?_
  intro p e s m args below meth c ls A Q hx hb hts hown hml hP hK hD hA hS hl hret
  have hown : s.vm.findClass RX3 = some m.cls := hown
  have hl : lv_has ls 4 [(0, .ref m0), (1, .int x), (2, .int y), (3, .int g)] := hl
  have l32 := hts (.fieldLink RX3 32 "GroupDeskModel" "thrown" "I") (by decide +kernel)
  have iX3 : ∀ w ∈ u_ws RX3 TX3 11, w ∈ wsX3_let := by decide +kernel
  refine lv_aload_n hx hb dX3_let_0 rfl (lv_at hl 0 rfl) ?_
  refine lv_iconst (v := 0) hx hb dX3_let_1 (by decide) ?_
  refine va_put (D := (dC, dI)) (ci := 3) (v := .int 0) (ty := .int) (C := RX3) (T := TX3) (N := 11) hx hb hts iX3 tyX3 tyX3_ok nmX3 hown hK hP hD hS 0 rfl rfl 0 (by decide) l32 (fun _ h9 => h9) rfl (by decide +kernel) rfl rfl (Nat.le_of_ble_eq_true rfl) dX3_let_2 (fun H locs hP hD hS => ?_)
  have hP : va_P (dC, dI) vwCl (wM cI m0 m1 m2 m3 m4 m5 m6 0 gr co ofs grp kd vl ro fr nm dr) _ := hP
  have hD : va_D A (wM cI m0 m1 m2 m3 m4 m5 m6 0 gr co ofs grp kd vl ro fr nm dr) := hD
  refine lv_iload_n hx hb dX3_let_5 rfl (lv_at hl 1 rfl) ?_
  refine m_rS (As := [.int x]) (rest := []) ⟨hx, hb, hml, hown, hts⟩ (c_X3_isName l dC dI cI x) (va_cwS 1 hts gX3_let_X3_isName rfl rfl rfl (by decide +kernel) ⟨Nat.le_of_ble_eq_true rfl, Nat.le_of_ble_eq_true rfl⟩) ma_nil hK rfl hl.1 rfl (Nat.le_of_ble_eq_true rfl) dX3_let_6 ⟨Nat.zero_le _, Nat.zero_le _⟩ (fun r hw => ?_)
  subst hw
  refine lv_if_eq (tgt := 19) hx hb dX3_let_9 (by decide) (fun c9 => ?_) (fun c9 => ?_)
  · have hj := b2i_0 c9
    refine lv_iconst (v := 0) hx hb dX3_let_19 (by decide) ?_
    exact hret 0 ((0, gr, co, ofs, grp, kd, vl, ro, fr, nm, dr)) (rfl) (by simp only [mLet, mAsg]; rw [if_neg (by rw [hj, Bool.false_and]; decide)]; exact ⟨rfl, rfl⟩) hP hD hS dX3_let_20
  · have hj := b2i_n c9
    have hix := isR_of (by decide) hj
    refine lv_iload_n hx hb dX3_let_12 rfl (lv_at hl 2 rfl) ?_
    refine m_rS (As := [.int y]) (rest := []) ⟨hx, hb, hml, hown, hts⟩ (c_X3_isName l dC dI cI y) (va_cwS 1 hts gX3_let_X3_isName rfl rfl rfl (by decide +kernel) ⟨Nat.le_of_ble_eq_true rfl, Nat.le_of_ble_eq_true rfl⟩) ma_nil hK rfl hl.1 rfl (Nat.le_of_ble_eq_true rfl) dX3_let_13 ⟨Nat.zero_le _, Nat.zero_le _⟩ (fun r hw => ?_)
    subst hw
    refine lv_if_ne (tgt := 21) hx hb dX3_let_16 (by decide) (fun c16 => ?_) (fun c16 => ?_)
    · have hj2 := b2i_n c16
      have hiy := isR_of (by decide) hj2
      have h7 := hix.1
      have h8 := hiy.1
      refine lv_aload_n hx hb dX3_let_21 rfl (lv_at hl 0 rfl) ?_
      refine lv_sipush (v := nI 3000) hx hb dX3_let_22 (by decide) ?_
      refine lv_iload_n hx hb dX3_let_25 rfl (lv_at hl 1 rfl) ?_
      refine lv_iadd hx hb dX3_let_26 ?_
      refine mv_top (v := nI (3000 + rj x)) (by rw [hix.2, rj_nI (by have := hix.1; omega)]; exact nI_add 3000 _) ?_
      refine lv_aload_n hx hb dX3_let_27 rfl (lv_at hl 0 rfl) ?_
      refine lv_sipush (v := nI 3000) hx hb dX3_let_28 (by decide) ?_
      refine lv_iload_n hx hb dX3_let_31 rfl (lv_at hl 2 rfl) ?_
      refine lv_iadd hx hb dX3_let_32 ?_
      refine mv_top (v := nI (3000 + rj y)) (by rw [hiy.2, rj_nI (by have := hiy.1; omega)]; exact nI_add 3000 _) ?_
      refine m_rV (As := [.int (nI (3000 + rj y))]) (rest := [.int (nI (3000 + rj x)), .ref m0]) ⟨hx, hb, hml, hown, hts⟩ (c_X3_kindOf l dC dI cI m0 m1 m2 m3 m4 m5 m6 0 gr co ofs grp kd vl ro fr nm dr (3000 + rj y) (by omega) (by omega) hof) (cwV 1 hts gX3_let_X3_kindOf rfl rfl rfl (by decide +kernel) ⟨Nat.le_of_ble_eq_true rfl, Nat.le_of_ble_eq_true rfl⟩) hP hK 3 0 rfl rfl rfl hl.1 rfl (Nat.le_of_ble_eq_true rfl) dX3_let_33 ⟨Nat.zero_le _, Nat.zero_le _⟩ (fun r hw => ?_)
      subst hw
      refine lv_aload_n hx hb dX3_let_36 rfl (lv_at hl 0 rfl) ?_
      refine lv_sipush (v := nI 3000) hx hb dX3_let_37 (by decide) ?_
      refine lv_iload_n hx hb dX3_let_40 rfl (lv_at hl 2 rfl) ?_
      refine lv_iadd hx hb dX3_let_41 ?_
      refine mv_top (v := nI (3000 + rj y)) (by rw [hiy.2, rj_nI (by have := hiy.1; omega)]; exact nI_add 3000 _) ?_
      refine m_rV (As := [.int (nI (3000 + rj y))]) (rest := [.int (atM ofs kd (3000 + rj y) co), .int (nI (3000 + rj x)), .ref m0]) ⟨hx, hb, hml, hown, hts⟩ (c_X3_valueOf l dC dI cI m0 m1 m2 m3 m4 m5 m6 0 gr co ofs grp kd vl ro fr nm dr (3000 + rj y) (by omega) (by omega) hof) (cwV 1 hts gX3_let_X3_valueOf rfl rfl rfl (by decide +kernel) ⟨Nat.le_of_ble_eq_true rfl, Nat.le_of_ble_eq_true rfl⟩) hP hK 3 0 rfl rfl rfl hl.1 rfl (Nat.le_of_ble_eq_true rfl) dX3_let_42 ⟨Nat.zero_le _, Nat.zero_le _⟩ (fun r hw => ?_)
      subst hw
      refine lv_iload_n hx hb dX3_let_45 rfl (lv_at hl 3 rfl) ?_
      have hP : va_P (dC, dI) vwCl ([] ++ (wM cI m0 m1 m2 m3 m4 m5 m6 0 gr co ofs grp kd vl ro fr nm dr)) _ := hP
      have hD : va_D A ([] ++ (wM cI m0 m1 m2 m3 m4 m5 m6 0 gr co ofs grp kd vl ro fr nm dr)) := hD
      refine m_wVv (As := [.int (nI (3000 + rj x)), .int (atM ofs kd (3000 + rj y) co), .int (atM ofs vl (3000 + rj y) co), .int g]) (rest := []) ⟨hx, hb, hml, hown, hts⟩ (c_X3_assign l dC dI cI m0 m1 m2 m3 m4 m5 m6 0 gr co ofs grp kd vl ro fr nm dr (3000 + rj x) (atM ofs kd (3000 + rj y) co) (atM ofs vl (3000 + rj y) co) g hco hg hgr) (cwV 4 hts gX3_let_X3_assign rfl rfl rfl (by decide +kernel) ⟨Nat.le_of_ble_eq_true rfl, Nat.le_of_ble_eq_true rfl⟩) hP hK hD hS hA 3 0 rfl rfl rfl hl.1 rfl (Nat.le_of_ble_eq_true rfl) dX3_let_46 ⟨Nat.zero_le _, Nat.zero_le _⟩ (fun u H locs hw hP hD hS => ?_)
      subst hw
      have hP : va_P (dC, dI) vwCl (wM cI m0 m1 m2 m3 m4 m5 m6 0 gr ((asgM (3000 + rj x) (atM ofs kd (3000 + rj y) co) (atM ofs vl (3000 + rj y) co) g gr co ofs grp kd vl).1) ((asgM (3000 + rj x) (atM ofs kd (3000 + rj y) co) (atM ofs vl (3000 + rj y) co) g gr co ofs grp kd vl).2.1) ((asgM (3000 + rj x) (atM ofs kd (3000 + rj y) co) (atM ofs vl (3000 + rj y) co) g gr co ofs grp kd vl).2.2.1) ((asgM (3000 + rj x) (atM ofs kd (3000 + rj y) co) (atM ofs vl (3000 + rj y) co) g gr co ofs grp kd vl).2.2.2.1) ((asgM (3000 + rj x) (atM ofs kd (3000 + rj y) co) (atM ofs vl (3000 + rj y) co) g gr co ofs grp kd vl).2.2.2.2) ro fr nm dr) _ := hP
      have hD : va_D A (wM cI m0 m1 m2 m3 m4 m5 m6 0 gr ((asgM (3000 + rj x) (atM ofs kd (3000 + rj y) co) (atM ofs vl (3000 + rj y) co) g gr co ofs grp kd vl).1) ((asgM (3000 + rj x) (atM ofs kd (3000 + rj y) co) (atM ofs vl (3000 + rj y) co) g gr co ofs grp kd vl).2.1) ((asgM (3000 + rj x) (atM ofs kd (3000 + rj y) co) (atM ofs vl (3000 + rj y) co) g gr co ofs grp kd vl).2.2.1) ((asgM (3000 + rj x) (atM ofs kd (3000 + rj y) co) (atM ofs vl (3000 + rj y) co) g gr co ofs grp kd vl).2.2.2.1) ((asgM (3000 + rj x) (atM ofs kd (3000 + rj y) co) (atM ofs vl (3000 + rj y) co) g gr co ofs grp kd vl).2.2.2.2) ro fr nm dr) := hD
      refine lv_iconst (v := 1) hx hb dX3_let_49 (by decide) ?_
      exact hret 1 ((0, gr, (asgM (3000 + rj x) (atM ofs kd (3000 + rj y) co) (atM ofs vl (3000 + rj y) co) g gr co ofs grp kd vl).1, (asgM (3000 + rj x) (atM ofs kd (3000 + rj y) co) (atM ofs vl (3000 + rj y) co) g gr co ofs grp kd vl).2.1, (asgM (3000 + rj x) (atM ofs kd (3000 + rj y) co) (atM ofs vl (3000 + rj y) co) g gr co ofs grp kd vl).2.2.1, (asgM (3000 + rj x) (atM ofs kd (3000 + rj y) co) (atM ofs vl (3000 + rj y) co) g gr co ofs grp kd vl).2.2.2.1, (asgM (3000 + rj x) (atM ofs kd (3000 + rj y) co) (atM ofs vl (3000 + rj y) co) g gr co ofs grp kd vl).2.2.2.2, ro, fr, nm, dr)) (rfl) (by simp only [mLet, mAsg]; rw [if_pos (by rw [hj, hj2]; rfl)]; exact ⟨rfl, rfl⟩) hP hD hS dX3_let_50
    · have hj2 := b2i_0 c16
      refine lv_iconst (v := 0) hx hb dX3_let_19 (by decide) ?_
      exact hret 0 ((0, gr, co, ofs, grp, kd, vl, ro, fr, nm, dr)) (rfl) (by simp only [mLet, mAsg]; rw [if_neg (by rw [hj2, Bool.and_false]; decide)]; exact ⟨rfl, rfl⟩) hP hD hS dX3_let_20
set_option maxHeartbeats 4000000 in
set_option maxRecDepth 100000 in
theorem c_X3_shape (l : Launch) (dC : Nat → ClassId) (dI : Nat → Nat → Nat) (cI : ClassId) (m0 m1 m2 m3 m4 m5 m6 : Nat) (th : Int32) (gr co : Nat) (ofs grp : Nat → Nat) (kd vl : Nat → Int32) (ro : Nat) (fr : Nat → Nat) (nm : Nat → Int32) (dr : Nat) (g : Int32) (hco : co < 4200) (hg : gr < 2 ^ 31) (hgr : ∀ i, i < co → grp i < 2 ^ 31) (hro : ro + 1 < 4200) : mWi l yX3_shape wsX3_shape ({ frames := 2, cells := 0, slots := 0, locals := 49 }) (dC, dI) cI [.ref m0, .int g] (wM cI m0 m1 m2 m3 m4 m5 m6 th gr co ofs grp kd vl ro fr nm dr) (fun r u => r = (mShape g (th, gr, co, ofs, grp, kd, vl, ro, fr, nm, dr)).1 ∧ u = (mShape g (th, gr, co, ofs, grp, kd, vl, ro, fr, nm, dr)).2) (fun u : MS => wM cI m0 m1 m2 m3 m4 m5 m6 u.1 u.2.1 u.2.2.1 u.2.2.2.1 u.2.2.2.2.1 u.2.2.2.2.2.1 u.2.2.2.2.2.2.1 u.2.2.2.2.2.2.2.1 u.2.2.2.2.2.2.2.2.1 u.2.2.2.2.2.2.2.2.2.1 u.2.2.2.2.2.2.2.2.2.2) := by
  refine m_ofWi (cc := cX3_shape) (maxL := 3) (by decide) rfl (Nat.le_of_ble_eq_true rfl) ?_
  intro p e s m args below meth c ls A Q hx hb hts hown hml hP hK hD hA hS hl hret
  have hown : s.vm.findClass RX3 = some m.cls := hown
  have hl : lv_has ls 3 [(0, .ref m0), (1, .int g)] := hl
  have l32 := hts (.fieldLink RX3 32 "GroupDeskModel" "thrown" "I") (by decide +kernel)
  have iX3 : ∀ w ∈ u_ws RX3 TX3 11, w ∈ wsX3_shape := by decide +kernel
  refine lv_aload_n hx hb dX3_shape_0 rfl (lv_at hl 0 rfl) ?_
  refine lv_iconst (v := 0) hx hb dX3_shape_1 (by decide) ?_
  refine va_put (D := (dC, dI)) (ci := 3) (v := .int 0) (ty := .int) (C := RX3) (T := TX3) (N := 11) hx hb hts iX3 tyX3 tyX3_ok nmX3 hown hK hP hD hS 0 rfl rfl 0 (by decide) l32 (fun _ h9 => h9) rfl (by decide +kernel) rfl rfl (Nat.le_of_ble_eq_true rfl) dX3_shape_2 (fun H locs hP hD hS => ?_)
  have hP : va_P (dC, dI) vwCl (wM cI m0 m1 m2 m3 m4 m5 m6 0 gr co ofs grp kd vl ro fr nm dr) _ := hP
  have hD : va_D A (wM cI m0 m1 m2 m3 m4 m5 m6 0 gr co ofs grp kd vl ro fr nm dr) := hD
  refine lv_aload_n hx hb dX3_shape_5 rfl (lv_at hl 0 rfl) ?_
  have hP : va_P (dC, dI) vwCl ([] ++ (wM cI m0 m1 m2 m3 m4 m5 m6 0 gr co ofs grp kd vl ro fr nm dr)) _ := hP
  have hD : va_D A ([] ++ (wM cI m0 m1 m2 m3 m4 m5 m6 0 gr co ofs grp kd vl ro fr nm dr)) := hD
  refine m_wVi (As := []) (rest := []) ⟨hx, hb, hml, hown, hts⟩ (c_X3_taken l dC dI cI m0 m1 m2 m3 m4 m5 m6 0 gr co ofs grp kd vl ro fr nm dr hro) (cwV 0 hts gX3_shape_X3_taken rfl rfl rfl (by decide +kernel) ⟨Nat.le_of_ble_eq_true rfl, Nat.le_of_ble_eq_true rfl⟩) hP hK hD hS hA 3 0 rfl rfl rfl hl.1 rfl (Nat.le_of_ble_eq_true rfl) dX3_shape_6 ⟨Nat.zero_le _, Nat.zero_le _⟩ (fun r u H locs hw hP hD hS => ?_)
  obtain ⟨rfl, rfl⟩ := hw
  have hP : va_P (dC, dI) vwCl (wM cI m0 m1 m2 m3 m4 m5 m6 0 gr co ofs grp kd vl (ro + 1) (va_up fr (ro + 1) (fr ro + dr)) nm 0) _ := hP
  have hD : va_D A (wM cI m0 m1 m2 m3 m4 m5 m6 0 gr co ofs grp kd vl (ro + 1) (va_up fr (ro + 1) (fr ro + dr)) nm 0) := hD
  refine lv_istore_n (lv' := [(2, .int (nI ro)), (0, .ref m0), (1, .int g)]) hx hb dX3_shape_9 rfl hl (by decide) rfl (fun ls hl => ?_)
  refine lv_aload_n hx hb dX3_shape_10 rfl (lv_at hl 1 rfl) ?_
  refine lv_sipush (v := nI 4000) hx hb dX3_shape_11 (by decide) ?_
  refine lv_iconst (v := 3) hx hb dX3_shape_14 (by decide) ?_
  refine lv_iload_n hx hb dX3_shape_15 rfl (lv_at hl 0 rfl) ?_
  refine lv_iload_n hx hb dX3_shape_16 rfl (lv_at hl 2 rfl) ?_
  have hP : va_P (dC, dI) vwCl ([] ++ (wM cI m0 m1 m2 m3 m4 m5 m6 0 gr co ofs grp kd vl (ro + 1) (va_up fr (ro + 1) (fr ro + dr)) nm 0)) _ := hP
  have hD : va_D A ([] ++ (wM cI m0 m1 m2 m3 m4 m5 m6 0 gr co ofs grp kd vl (ro + 1) (va_up fr (ro + 1) (fr ro + dr)) nm 0)) := hD
  refine m_wVv (As := [.int (nI 4000), .int 3, .int (nI ro), .int g]) (rest := []) ⟨hx, hb, hml, hown, hts⟩ (c_X3_assign l dC dI cI m0 m1 m2 m3 m4 m5 m6 0 gr co ofs grp kd vl (ro + 1) (va_up fr (ro + 1) (fr ro + dr)) nm 0 4000 3 (nI ro) g hco hg hgr) (cwV 4 hts gX3_shape_X3_assign rfl rfl rfl (by decide +kernel) ⟨Nat.le_of_ble_eq_true rfl, Nat.le_of_ble_eq_true rfl⟩) hP hK hD hS hA 3 0 rfl rfl rfl hl.1 rfl (Nat.le_of_ble_eq_true rfl) dX3_shape_17 ⟨Nat.zero_le _, Nat.zero_le _⟩ (fun u H locs hw hP hD hS => ?_)
  subst hw
  have hP : va_P (dC, dI) vwCl (wM cI m0 m1 m2 m3 m4 m5 m6 0 gr ((asgM 4000 3 (nI ro) g gr co ofs grp kd vl).1) ((asgM 4000 3 (nI ro) g gr co ofs grp kd vl).2.1) ((asgM 4000 3 (nI ro) g gr co ofs grp kd vl).2.2.1) ((asgM 4000 3 (nI ro) g gr co ofs grp kd vl).2.2.2.1) ((asgM 4000 3 (nI ro) g gr co ofs grp kd vl).2.2.2.2) (ro + 1) (va_up fr (ro + 1) (fr ro + dr)) nm 0) _ := hP
  have hD : va_D A (wM cI m0 m1 m2 m3 m4 m5 m6 0 gr ((asgM 4000 3 (nI ro) g gr co ofs grp kd vl).1) ((asgM 4000 3 (nI ro) g gr co ofs grp kd vl).2.1) ((asgM 4000 3 (nI ro) g gr co ofs grp kd vl).2.2.1) ((asgM 4000 3 (nI ro) g gr co ofs grp kd vl).2.2.2.1) ((asgM 4000 3 (nI ro) g gr co ofs grp kd vl).2.2.2.2) (ro + 1) (va_up fr (ro + 1) (fr ro + dr)) nm 0) := hD
  refine lv_aload_n hx hb dX3_shape_20 rfl (lv_at hl 1 rfl) ?_
  refine lv_iload_n hx hb dX3_shape_21 rfl (lv_at hl 0 rfl) ?_
  refine m_rV (As := [.int (nI ro)]) (rest := []) ⟨hx, hb, hml, hown, hts⟩ (c_X3_size l dC dI cI m0 m1 m2 m3 m4 m5 m6 0 gr ((asgM 4000 3 (nI ro) g gr co ofs grp kd vl).1) ((asgM 4000 3 (nI ro) g gr co ofs grp kd vl).2.1) ((asgM 4000 3 (nI ro) g gr co ofs grp kd vl).2.2.1) ((asgM 4000 3 (nI ro) g gr co ofs grp kd vl).2.2.2.1) ((asgM 4000 3 (nI ro) g gr co ofs grp kd vl).2.2.2.2) (ro + 1) (va_up fr (ro + 1) (fr ro + dr)) nm 0 ro (by omega)) (cwV 1 hts gX3_shape_X3_size rfl rfl rfl (by decide +kernel) ⟨Nat.le_of_ble_eq_true rfl, Nat.le_of_ble_eq_true rfl⟩) hP hK 3 0 rfl rfl rfl hl.1 rfl (Nat.le_of_ble_eq_true rfl) dX3_shape_22 ⟨Nat.zero_le _, Nat.zero_le _⟩ (fun r hw => ?_)
  subst hw
  exact hret (sizeM (va_up fr (ro + 1) (fr ro + dr)) ro) ((0, gr, (asgM 4000 3 (nI ro) g gr co ofs grp kd vl).1, (asgM 4000 3 (nI ro) g gr co ofs grp kd vl).2.1, (asgM 4000 3 (nI ro) g gr co ofs grp kd vl).2.2.1, (asgM 4000 3 (nI ro) g gr co ofs grp kd vl).2.2.2.1, (asgM 4000 3 (nI ro) g gr co ofs grp kd vl).2.2.2.2, ro + 1, va_up fr (ro + 1) (fr ro + dr), nm, 0)) (rfl) (⟨rfl, rfl⟩) hP hD hS dX3_shape_25
set_option maxHeartbeats 4000000 in
set_option maxRecDepth 100000 in
theorem c_X3_get (l : Launch) (dC : Nat → ClassId) (dI : Nat → Nat → Nat) (cI : ClassId) (m0 m1 m2 m3 m4 m5 m6 : Nat) (th : Int32) (gr co : Nat) (ofs grp : Nat → Nat) (kd vl : Nat → Int32) (ro : Nat) (fr : Nat → Nat) (nm : Nat → Int32) (dr : Nat) (x : Int32) (hco : co < 4200) (hof : ∀ i, i < co → ofs i < 2 ^ 31) : mWi l yX3_get wsX3_get ({ frames := 2, cells := 0, slots := 0, locals := 45 }) (dC, dI) cI [.ref m0, .int x] (wM cI m0 m1 m2 m3 m4 m5 m6 th gr co ofs grp kd vl ro fr nm dr) (fun r u => r = (mGet x (th, gr, co, ofs, grp, kd, vl, ro, fr, nm, dr)).1 ∧ u = (mGet x (th, gr, co, ofs, grp, kd, vl, ro, fr, nm, dr)).2) (fun u : MS => wM cI m0 m1 m2 m3 m4 m5 m6 u.1 u.2.1 u.2.2.1 u.2.2.2.1 u.2.2.2.2.1 u.2.2.2.2.2.1 u.2.2.2.2.2.2.1 u.2.2.2.2.2.2.2.1 u.2.2.2.2.2.2.2.2.1 u.2.2.2.2.2.2.2.2.2.1 u.2.2.2.2.2.2.2.2.2.2) := by
  refine m_ofWi (cc := cX3_get) (maxL := 2) (by decide) rfl (Nat.le_of_ble_eq_true rfl) ?_
  intro p e s m args below meth c ls A Q hx hb hts hown hml hP hK hD hA hS hl hret
  have hown : s.vm.findClass RX3 = some m.cls := hown
  have hl : lv_has ls 2 [(0, .ref m0), (1, .int x)] := hl
  have l32 := hts (.fieldLink RX3 32 "GroupDeskModel" "thrown" "I") (by decide +kernel)
  have iX3 : ∀ w ∈ u_ws RX3 TX3 11, w ∈ wsX3_get := by decide +kernel
  refine lv_iload_n hx hb dX3_get_0 rfl (lv_at hl 1 rfl) ?_
  refine m_rS (As := [.int x]) (rest := []) ⟨hx, hb, hml, hown, hts⟩ (c_X3_isCell l dC dI cI x) (va_cwS 1 hts gX3_get_X3_isCell rfl rfl rfl (by decide +kernel) ⟨Nat.le_of_ble_eq_true rfl, Nat.le_of_ble_eq_true rfl⟩) ma_nil hK rfl hl.1 rfl (Nat.le_of_ble_eq_true rfl) dX3_get_1 ⟨Nat.zero_le _, Nat.zero_le _⟩ (fun r hw => ?_)
  subst hw
  refine lv_if_ne (tgt := 12) hx hb dX3_get_4 (by decide) (fun c4 => ?_) (fun c4 => ?_)
  · have hj := b2i_n c4
    have hi := isR_of (by decide) hj
    have h7 := hi.1
    refine lv_aload_n hx hb dX3_get_12 rfl (lv_at hl 0 rfl) ?_
    refine lv_iconst (v := 0) hx hb dX3_get_13 (by decide) ?_
    refine va_put (D := (dC, dI)) (ci := 3) (v := .int 0) (ty := .int) (C := RX3) (T := TX3) (N := 11) hx hb hts iX3 tyX3 tyX3_ok nmX3 hown hK hP hD hS 0 rfl rfl 0 (by decide) l32 (fun _ h9 => h9) rfl (by decide +kernel) rfl rfl (Nat.le_of_ble_eq_true rfl) dX3_get_14 (fun H locs hP hD hS => ?_)
    have hP : va_P (dC, dI) vwCl (wM cI m0 m1 m2 m3 m4 m5 m6 0 gr co ofs grp kd vl ro fr nm dr) _ := hP
    have hD : va_D A (wM cI m0 m1 m2 m3 m4 m5 m6 0 gr co ofs grp kd vl ro fr nm dr) := hD
    refine lv_aload_n hx hb dX3_get_17 rfl (lv_at hl 0 rfl) ?_
    refine lv_iload_n hx hb dX3_get_18 rfl (lv_at hl 1 rfl) ?_
    refine mv_top (v := nI (rj x)) (hi.2) ?_
    refine m_rV (As := [.int (nI (rj x))]) (rest := []) ⟨hx, hb, hml, hown, hts⟩ (c_X3_valueOf l dC dI cI m0 m1 m2 m3 m4 m5 m6 0 gr co ofs grp kd vl ro fr nm dr (rj x) (by omega) (by omega) hof) (cwV 1 hts gX3_get_X3_valueOf rfl rfl rfl (by decide +kernel) ⟨Nat.le_of_ble_eq_true rfl, Nat.le_of_ble_eq_true rfl⟩) hP hK 3 0 rfl rfl rfl hl.1 rfl (Nat.le_of_ble_eq_true rfl) dX3_get_19 ⟨Nat.zero_le _, Nat.zero_le _⟩ (fun r hw => ?_)
    subst hw
    exact hret (atM ofs vl (rj x) co) ((0, gr, co, ofs, grp, kd, vl, ro, fr, nm, dr)) (rfl) (by simp only [mGet]; rw [if_pos hj]; exact ⟨rfl, rfl⟩) hP hD hS dX3_get_22
  · have hj := b2i_0 c4
    refine lv_aload_n hx hb dX3_get_7 rfl (lv_at hl 0 rfl) ?_
    have hP : va_P (dC, dI) vwCl ([] ++ (wM cI m0 m1 m2 m3 m4 m5 m6 th gr co ofs grp kd vl ro fr nm dr)) _ := hP
    have hD : va_D A ([] ++ (wM cI m0 m1 m2 m3 m4 m5 m6 th gr co ofs grp kd vl ro fr nm dr)) := hD
    refine m_wVi (As := []) (rest := []) ⟨hx, hb, hml, hown, hts⟩ (c_X3_fails l dC dI cI m0 m1 m2 m3 m4 m5 m6 th gr co ofs grp kd vl ro fr nm dr) (cwV 0 hts gX3_get_X3_fails rfl rfl rfl (by decide +kernel) ⟨Nat.le_of_ble_eq_true rfl, Nat.le_of_ble_eq_true rfl⟩) hP hK hD hS hA 3 0 rfl rfl rfl hl.1 rfl (Nat.le_of_ble_eq_true rfl) dX3_get_8 ⟨Nat.zero_le _, Nat.zero_le _⟩ (fun r u H locs hw hP hD hS => ?_)
    obtain ⟨rfl, rfl⟩ := hw
    have hP : va_P (dC, dI) vwCl (wM cI m0 m1 m2 m3 m4 m5 m6 1 gr co ofs grp kd vl ro fr nm dr) _ := hP
    have hD : va_D A (wM cI m0 m1 m2 m3 m4 m5 m6 1 gr co ofs grp kd vl ro fr nm dr) := hD
    exact hret 0 ((1, gr, co, ofs, grp, kd, vl, ro, fr, nm, dr)) (rfl) (by simp only [mGet]; rw [if_neg (by rw [hj]; decide)]; exact ⟨rfl, rfl⟩) hP hD hS dX3_get_11
set_option maxHeartbeats 4000000 in
set_option maxRecDepth 100000 in
theorem c_X3_about (l : Launch) (dC : Nat → ClassId) (dI : Nat → Nat → Nat) (cI : ClassId) (m0 m1 m2 m3 m4 m5 m6 : Nat) (th : Int32) (gr co : Nat) (ofs grp : Nat → Nat) (kd vl : Nat → Int32) (ro : Nat) (fr : Nat → Nat) (nm : Nat → Int32) (dr : Nat) (x y : Int32) (hco : co < 4200) (hro : ro + 1 < 4200) (hof : ∀ i, i < co → ofs i < 2 ^ 31) (hv : ∀ j, j < 1000 → atM ofs kd (3000 + j) co = 3 → atM ofs vl (3000 + j) co = nI (rj (atM ofs vl (3000 + j) co)) ∧ rj (atM ofs vl (3000 + j) co) < ro) : mWi l yX3_about wsX3_about ({ frames := 2, cells := 0, slots := 0, locals := 45 }) (dC, dI) cI [.ref m0, .int x, .int y] (wM cI m0 m1 m2 m3 m4 m5 m6 th gr co ofs grp kd vl ro fr nm dr) (fun r u => r = (mAbout x y (th, gr, co, ofs, grp, kd, vl, ro, fr, nm, dr)).1 ∧ u = (mAbout x y (th, gr, co, ofs, grp, kd, vl, ro, fr, nm, dr)).2) (fun u : MS => wM cI m0 m1 m2 m3 m4 m5 m6 u.1 u.2.1 u.2.2.1 u.2.2.2.1 u.2.2.2.2.1 u.2.2.2.2.2.1 u.2.2.2.2.2.2.1 u.2.2.2.2.2.2.2.1 u.2.2.2.2.2.2.2.2.1 u.2.2.2.2.2.2.2.2.2.1 u.2.2.2.2.2.2.2.2.2.2) := by
  refine m_ofWi (cc := cX3_about) (maxL := 4) (by decide) rfl (Nat.le_of_ble_eq_true rfl) ?_
  intro p e s m args below meth c ls A Q hx hb hts hown hml hP hK hD hA hS hl hret
  have hown : s.vm.findClass RX3 = some m.cls := hown
  have hl : lv_has ls 4 [(0, .ref m0), (1, .int x), (2, .int y)] := hl
  have l32 := hts (.fieldLink RX3 32 "GroupDeskModel" "thrown" "I") (by decide +kernel)
  have iX3 : ∀ w ∈ u_ws RX3 TX3 11, w ∈ wsX3_about := by decide +kernel
  refine lv_iload_n hx hb dX3_about_0 rfl (lv_at hl 1 rfl) ?_
  refine m_rS (As := [.int x]) (rest := []) ⟨hx, hb, hml, hown, hts⟩ (c_X3_isName l dC dI cI x) (va_cwS 1 hts gX3_about_X3_isName rfl rfl rfl (by decide +kernel) ⟨Nat.le_of_ble_eq_true rfl, Nat.le_of_ble_eq_true rfl⟩) ma_nil hK rfl hl.1 rfl (Nat.le_of_ble_eq_true rfl) dX3_about_1 ⟨Nat.zero_le _, Nat.zero_le _⟩ (fun r hw => ?_)
  subst hw
  refine lv_if_eq (tgt := 16) hx hb dX3_about_4 (by decide) (fun c4 => ?_) (fun c4 => ?_)
  · have hj := b2i_0 c4
    refine lv_aload_n hx hb dX3_about_16 rfl (lv_at hl 0 rfl) ?_
    have hP : va_P (dC, dI) vwCl ([] ++ (wM cI m0 m1 m2 m3 m4 m5 m6 th gr co ofs grp kd vl ro fr nm dr)) _ := hP
    have hD : va_D A ([] ++ (wM cI m0 m1 m2 m3 m4 m5 m6 th gr co ofs grp kd vl ro fr nm dr)) := hD
    refine m_wVi (As := []) (rest := []) ⟨hx, hb, hml, hown, hts⟩ (c_X3_fails l dC dI cI m0 m1 m2 m3 m4 m5 m6 th gr co ofs grp kd vl ro fr nm dr) (cwV 0 hts gX3_about_X3_fails rfl rfl rfl (by decide +kernel) ⟨Nat.le_of_ble_eq_true rfl, Nat.le_of_ble_eq_true rfl⟩) hP hK hD hS hA 3 0 rfl rfl rfl hl.1 rfl (Nat.le_of_ble_eq_true rfl) dX3_about_17 ⟨Nat.zero_le _, Nat.zero_le _⟩ (fun r u H locs hw hP hD hS => ?_)
    obtain ⟨rfl, rfl⟩ := hw
    have hP : va_P (dC, dI) vwCl (wM cI m0 m1 m2 m3 m4 m5 m6 1 gr co ofs grp kd vl ro fr nm dr) _ := hP
    have hD : va_D A (wM cI m0 m1 m2 m3 m4 m5 m6 1 gr co ofs grp kd vl ro fr nm dr) := hD
    exact hret 0 ((1, gr, co, ofs, grp, kd, vl, ro, fr, nm, dr)) (rfl) (by simp only [mAbout]; rw [if_neg (by rw [hj, Bool.false_and]; decide)]; exact ⟨rfl, rfl⟩) hP hD hS dX3_about_20
  · have hj := b2i_n c4
    have hix := isR_of (by decide) hj
    have h7 := hix.1
    refine lv_iload_n hx hb dX3_about_7 rfl (lv_at hl 2 rfl) ?_
    refine lv_if_lt (tgt := 16) hx hb dX3_about_8 (by decide) (fun c8 => ?_) (fun c8 => ?_)
    · refine lv_aload_n hx hb dX3_about_16 rfl (lv_at hl 0 rfl) ?_
      have hP : va_P (dC, dI) vwCl ([] ++ (wM cI m0 m1 m2 m3 m4 m5 m6 th gr co ofs grp kd vl ro fr nm dr)) _ := hP
      have hD : va_D A ([] ++ (wM cI m0 m1 m2 m3 m4 m5 m6 th gr co ofs grp kd vl ro fr nm dr)) := hD
      refine m_wVi (As := []) (rest := []) ⟨hx, hb, hml, hown, hts⟩ (c_X3_fails l dC dI cI m0 m1 m2 m3 m4 m5 m6 th gr co ofs grp kd vl ro fr nm dr) (cwV 0 hts gX3_about_X3_fails rfl rfl rfl (by decide +kernel) ⟨Nat.le_of_ble_eq_true rfl, Nat.le_of_ble_eq_true rfl⟩) hP hK hD hS hA 3 0 rfl rfl rfl hl.1 rfl (Nat.le_of_ble_eq_true rfl) dX3_about_17 ⟨Nat.zero_le _, Nat.zero_le _⟩ (fun r u H locs hw hP hD hS => ?_)
      obtain ⟨rfl, rfl⟩ := hw
      have hP : va_P (dC, dI) vwCl (wM cI m0 m1 m2 m3 m4 m5 m6 1 gr co ofs grp kd vl ro fr nm dr) _ := hP
      have hD : va_D A (wM cI m0 m1 m2 m3 m4 m5 m6 1 gr co ofs grp kd vl ro fr nm dr) := hD
      exact hret 0 ((1, gr, co, ofs, grp, kd, vl, ro, fr, nm, dr)) (rfl) (by simp only [mAbout]; rw [if_neg (by unfold wOk; rw [decide_eq_false (not_not_intro c8), Bool.false_and, Bool.and_false]; decide)]; exact ⟨rfl, rfl⟩) hP hD hS dX3_about_20
    · refine lv_iload_n hx hb dX3_about_11 rfl (lv_at hl 2 rfl) ?_
      refine lv_iconst (v := 1) hx hb dX3_about_12 (by decide) ?_
      refine lv_icmp_le (tgt := 21) hx hb dX3_about_13 (by decide) (fun c13 => ?_) (fun c13 => ?_)
      · refine lv_aload_n hx hb dX3_about_21 rfl (lv_at hl 0 rfl) ?_
        refine lv_iconst (v := 0) hx hb dX3_about_22 (by decide) ?_
        refine va_put (D := (dC, dI)) (ci := 3) (v := .int 0) (ty := .int) (C := RX3) (T := TX3) (N := 11) hx hb hts iX3 tyX3 tyX3_ok nmX3 hown hK hP hD hS 0 rfl rfl 0 (by decide) l32 (fun _ h9 => h9) rfl (by decide +kernel) rfl rfl (Nat.le_of_ble_eq_true rfl) dX3_about_23 (fun H locs hP hD hS => ?_)
        have hP : va_P (dC, dI) vwCl (wM cI m0 m1 m2 m3 m4 m5 m6 0 gr co ofs grp kd vl ro fr nm dr) _ := hP
        have hD : va_D A (wM cI m0 m1 m2 m3 m4 m5 m6 0 gr co ofs grp kd vl ro fr nm dr) := hD
        refine lv_aload_n hx hb dX3_about_26 rfl (lv_at hl 0 rfl) ?_
        refine lv_sipush (v := nI 3000) hx hb dX3_about_27 (by decide) ?_
        refine lv_iload_n hx hb dX3_about_30 rfl (lv_at hl 1 rfl) ?_
        refine lv_iadd hx hb dX3_about_31 ?_
        refine mv_top (v := nI (3000 + rj x)) (by rw [hix.2, rj_nI (by have := hix.1; omega)]; exact nI_add 3000 _) ?_
        refine m_rV (As := [.int (nI (3000 + rj x))]) (rest := []) ⟨hx, hb, hml, hown, hts⟩ (c_X3_kindOf l dC dI cI m0 m1 m2 m3 m4 m5 m6 0 gr co ofs grp kd vl ro fr nm dr (3000 + rj x) (by omega) (by omega) hof) (cwV 1 hts gX3_about_X3_kindOf rfl rfl rfl (by decide +kernel) ⟨Nat.le_of_ble_eq_true rfl, Nat.le_of_ble_eq_true rfl⟩) hP hK 3 0 rfl rfl rfl hl.1 rfl (Nat.le_of_ble_eq_true rfl) dX3_about_32 ⟨Nat.zero_le _, Nat.zero_le _⟩ (fun r hw => ?_)
        subst hw
        refine lv_istore_n (lv' := [(3, .int (atM ofs kd (3000 + rj x) co)), (0, .ref m0), (1, .int x), (2, .int y)]) hx hb dX3_about_35 rfl hl (by decide) rfl (fun ls hl => ?_)
        refine lv_iload_n hx hb dX3_about_36 rfl (lv_at hl 3 rfl) ?_
        refine lv_if_ne (tgt := 44) hx hb dX3_about_37 (by decide) (fun c37 => ?_) (fun c37 => ?_)
        · refine lv_iload_n hx hb dX3_about_44 rfl (lv_at hl 0 rfl) ?_
          refine lv_iconst (v := 3) hx hb dX3_about_45 (by decide) ?_
          refine lv_icmp_ne (tgt := 65) hx hb dX3_about_46 (by decide) (fun c46 => ?_) (fun c46 => ?_)
          · refine lv_aload_n hx hb dX3_about_65 rfl (lv_at hl 1 rfl) ?_
            refine lv_sipush (v := nI 3000) hx hb dX3_about_66 (by decide) ?_
            refine lv_iload_n hx hb dX3_about_69 rfl (lv_at hl 2 rfl) ?_
            refine lv_iadd hx hb dX3_about_70 ?_
            refine mv_top (v := nI (3000 + rj x)) (by rw [hix.2, rj_nI (by have := hix.1; omega)]; exact nI_add 3000 _) ?_
            refine m_rV (As := [.int (nI (3000 + rj x))]) (rest := []) ⟨hx, hb, hml, hown, hts⟩ (c_X3_valueOf l dC dI cI m0 m1 m2 m3 m4 m5 m6 0 gr co ofs grp kd vl ro fr nm dr (3000 + rj x) (by omega) (by omega) hof) (cwV 1 hts gX3_about_X3_valueOf rfl rfl rfl (by decide +kernel) ⟨Nat.le_of_ble_eq_true rfl, Nat.le_of_ble_eq_true rfl⟩) hP hK 3 0 rfl rfl rfl hl.1 rfl (Nat.le_of_ble_eq_true rfl) dX3_about_71 ⟨Nat.zero_le _, Nat.zero_le _⟩ (fun r hw => ?_)
            subst hw
            exact hret (atM ofs vl (3000 + rj x) co) ((0, gr, co, ofs, grp, kd, vl, ro, fr, nm, dr)) (rfl) (by simp only [mAbout]; rw [if_pos (show (isR 1000 x && wOk y) = true by unfold wOk; rw [hj, decide_eq_true c8, decide_eq_true c13]; rfl), if_neg c37, if_neg c46]; exact ⟨rfl, rfl⟩) hP hD hS dX3_about_74
          · refine lv_aload_n hx hb dX3_about_49 rfl (lv_at hl 1 rfl) ?_
            refine lv_aload_n hx hb dX3_about_50 rfl (lv_at hl 1 rfl) ?_
            refine lv_sipush (v := nI 3000) hx hb dX3_about_51 (by decide) ?_
            refine lv_iload_n hx hb dX3_about_54 rfl (lv_at hl 2 rfl) ?_
            refine lv_iadd hx hb dX3_about_55 ?_
            refine mv_top (v := nI (3000 + rj x)) (by rw [hix.2, rj_nI (by have := hix.1; omega)]; exact nI_add 3000 _) ?_
            refine m_rV (As := [.int (nI (3000 + rj x))]) (rest := [.ref m0]) ⟨hx, hb, hml, hown, hts⟩ (c_X3_valueOf l dC dI cI m0 m1 m2 m3 m4 m5 m6 0 gr co ofs grp kd vl ro fr nm dr (3000 + rj x) (by omega) (by omega) hof) (cwV 1 hts gX3_about_X3_valueOf rfl rfl rfl (by decide +kernel) ⟨Nat.le_of_ble_eq_true rfl, Nat.le_of_ble_eq_true rfl⟩) hP hK 3 0 rfl rfl rfl hl.1 rfl (Nat.le_of_ble_eq_true rfl) dX3_about_56 ⟨Nat.zero_le _, Nat.zero_le _⟩ (fun r hw => ?_)
            subst hw
            refine mv_top (v := nI (rj (atM ofs vl (3000 + rj x) co))) ((hv _ hix.1 c46).1) ?_
            have h9 := (hv _ hix.1 c46).2
            refine m_rV (As := [.int (nI (rj (atM ofs vl (3000 + rj x) co)))]) (rest := []) ⟨hx, hb, hml, hown, hts⟩ (c_X3_size l dC dI cI m0 m1 m2 m3 m4 m5 m6 0 gr co ofs grp kd vl ro fr nm dr (rj (atM ofs vl (3000 + rj x) co)) (by omega)) (cwV 1 hts gX3_about_X3_size rfl rfl rfl (by decide +kernel) ⟨Nat.le_of_ble_eq_true rfl, Nat.le_of_ble_eq_true rfl⟩) hP hK 3 0 rfl rfl rfl hl.1 rfl (Nat.le_of_ble_eq_true rfl) dX3_about_59 ⟨Nat.zero_le _, Nat.zero_le _⟩ (fun r hw => ?_)
            subst hw
            refine lv_goto (tgt := 74) hx hb dX3_about_62 (by decide) ?_
            exact hret (sizeM fr (rj (atM ofs vl (3000 + rj x) co))) ((0, gr, co, ofs, grp, kd, vl, ro, fr, nm, dr)) (rfl) (by simp only [mAbout]; rw [if_pos (show (isR 1000 x && wOk y) = true by unfold wOk; rw [hj, decide_eq_true c8, decide_eq_true c13]; rfl), if_neg c37, if_pos c46]; exact ⟨rfl, rfl⟩) hP hD hS dX3_about_74
        · refine lv_iload_n hx hb dX3_about_40 rfl (lv_at hl 0 rfl) ?_
          refine lv_goto (tgt := 74) hx hb dX3_about_41 (by decide) ?_
          exact hret (atM ofs kd (3000 + rj x) co) ((0, gr, co, ofs, grp, kd, vl, ro, fr, nm, dr)) (rfl) (by simp only [mAbout]; rw [if_pos (show (isR 1000 x && wOk y) = true by unfold wOk; rw [hj, decide_eq_true c8, decide_eq_true c13]; rfl), if_pos c37]; exact ⟨rfl, rfl⟩) hP hD hS dX3_about_74
      · refine lv_aload_n hx hb dX3_about_16 rfl (lv_at hl 0 rfl) ?_
        have hP : va_P (dC, dI) vwCl ([] ++ (wM cI m0 m1 m2 m3 m4 m5 m6 th gr co ofs grp kd vl ro fr nm dr)) _ := hP
        have hD : va_D A ([] ++ (wM cI m0 m1 m2 m3 m4 m5 m6 th gr co ofs grp kd vl ro fr nm dr)) := hD
        refine m_wVi (As := []) (rest := []) ⟨hx, hb, hml, hown, hts⟩ (c_X3_fails l dC dI cI m0 m1 m2 m3 m4 m5 m6 th gr co ofs grp kd vl ro fr nm dr) (cwV 0 hts gX3_about_X3_fails rfl rfl rfl (by decide +kernel) ⟨Nat.le_of_ble_eq_true rfl, Nat.le_of_ble_eq_true rfl⟩) hP hK hD hS hA 3 0 rfl rfl rfl hl.1 rfl (Nat.le_of_ble_eq_true rfl) dX3_about_17 ⟨Nat.zero_le _, Nat.zero_le _⟩ (fun r u H locs hw hP hD hS => ?_)
        obtain ⟨rfl, rfl⟩ := hw
        have hP : va_P (dC, dI) vwCl (wM cI m0 m1 m2 m3 m4 m5 m6 1 gr co ofs grp kd vl ro fr nm dr) _ := hP
        have hD : va_D A (wM cI m0 m1 m2 m3 m4 m5 m6 1 gr co ofs grp kd vl ro fr nm dr) := hD
        exact hret 0 ((1, gr, co, ofs, grp, kd, vl, ro, fr, nm, dr)) (rfl) (by simp only [mAbout]; rw [if_neg (by unfold wOk; rw [decide_eq_false c13, Bool.and_false, Bool.and_false]; decide)]; exact ⟨rfl, rfl⟩) hP hD hS dX3_about_20
theorem nOk_lt {fr : Nat → Nat} {row : Nat} {x : Int32} (h1 : fr row ≤ fr (row + 1)) (h2 : fr (row + 1) < 2 ^ 31) (h : nOk fr row x = true) : x = nI (rj x) ∧ fr row + rj x < fr (row + 1) := by
  unfold nOk at h
  simp only [Bool.and_eq_true, decide_eq_true_eq] at h
  obtain ⟨h3, h4⟩ := h
  unfold sizeM at h4
  by_cases h0 : row = 0
  · rw [if_pos h0] at h4
    exact absurd h4 h3
  · rw [if_neg h0, pk_sub h1] at h4
    have h5 := isR_of (n := fr (row + 1) - fr row) (x := x) (by omega) (isR_t h3 (fun h => absurd h (Int32.not_le.mpr h4)))
    exact ⟨h5.2, by omega⟩
theorem mRow_sh {name : Int32} {co : Nat} {o : Nat → Nat} {k v : Nat → Int32} (h : name = -1) : mRow name co o k v = rj (atM o v 4000 co) := by unfold mRow; rw [if_pos h]
theorem mRow_3 {name : Int32} {co : Nat} {o : Nat → Nat} {k v : Nat → Int32} (h : ¬ name = -1) (hj : isR 1000 name = true) (h3 : atM o k (3000 + rj name) co = 3) : mRow name co o k v = rj (atM o v (3000 + rj name) co) := by unfold mRow; rw [if_neg h, if_pos hj, if_pos h3]
theorem mRow_n3 {name : Int32} {co : Nat} {o : Nat → Nat} {k v : Nat → Int32} (h : ¬ name = -1) (hj : isR 1000 name = true) (h3 : ¬ atM o k (3000 + rj name) co = 3) : mRow name co o k v = 0 := by unfold mRow; rw [if_neg h, if_pos hj, if_neg h3]
theorem mRow_0 {name : Int32} {co : Nat} {o : Nat → Nat} {k v : Nat → Int32} (h : ¬ name = -1) (hj : isR 1000 name = false) : mRow name co o k v = 0 := by unfold mRow; rw [if_neg h, hj]; rfl
set_option maxHeartbeats 4000000 in
set_option maxRecDepth 100000 in
theorem c_X3_number (l : Launch) (dC : Nat → ClassId) (dI : Nat → Nat → Nat) (cI : ClassId) (m0 m1 m2 m3 m4 m5 m6 : Nat) (th : Int32) (gr co : Nat) (ofs grp : Nat → Nat) (kd vl : Nat → Int32) (ro : Nat) (fr : Nat → Nat) (nm : Nat → Int32) (dr : Nat) (x y : Int32) (hco : co < 4200) (hro : ro + 1 < 4200) (hof : ∀ i, i < co → ofs i < 2 ^ 31) (hv : ∀ j, j < 1000 → atM ofs kd (3000 + j) co = 3 → atM ofs vl (3000 + j) co = nI (rj (atM ofs vl (3000 + j) co)) ∧ rj (atM ofs vl (3000 + j) co) < ro) (hs : atM ofs vl 4000 co = nI (rj (atM ofs vl 4000 co)) ∧ rj (atM ofs vl 4000 co) < ro) (hfr : ∀ r, r < ro → fr r ≤ fr (r + 1) ∧ fr (r + 1) ≤ 4400) : mWi l yX3_number wsX3_number ({ frames := 2, cells := 0, slots := 0, locals := 45 }) (dC, dI) cI [.ref m0, .int x, .int y] (wM cI m0 m1 m2 m3 m4 m5 m6 th gr co ofs grp kd vl ro fr nm dr) (fun r u => r = (mNumber x y (th, gr, co, ofs, grp, kd, vl, ro, fr, nm, dr)).1 ∧ u = (mNumber x y (th, gr, co, ofs, grp, kd, vl, ro, fr, nm, dr)).2) (fun u : MS => wM cI m0 m1 m2 m3 m4 m5 m6 u.1 u.2.1 u.2.2.1 u.2.2.2.1 u.2.2.2.2.1 u.2.2.2.2.2.1 u.2.2.2.2.2.2.1 u.2.2.2.2.2.2.2.1 u.2.2.2.2.2.2.2.2.1 u.2.2.2.2.2.2.2.2.2.1 u.2.2.2.2.2.2.2.2.2.2) := by
  refine m_ofWi (cc := cX3_number) (maxL := 5) (by decide) rfl (Nat.le_of_ble_eq_true rfl) ?_
  intro p e s m args below meth c ls A Q hx hb hts hown hml hP hK hD hA hS hl hret
  have hown : s.vm.findClass RX3 = some m.cls := hown
  have hl : lv_has ls 5 [(0, .ref m0), (1, .int x), (2, .int y)] := hl
  have l32 := hts (.fieldLink RX3 32 "GroupDeskModel" "thrown" "I") (by decide +kernel)
  have l29 := hts (.fieldLink RX3 29 "GroupDeskModel" "numbers" "[I") (by decide +kernel)
  have l26 := hts (.fieldLink RX3 26 "GroupDeskModel" "from" "[I") (by decide +kernel)
  have iX3 : ∀ w ∈ u_ws RX3 TX3 11, w ∈ wsX3_number := by decide +kernel
  have h1ro : 1 ≤ ro := by have := hs.2; omega
  have fin : ∀ (row : Nat) (z : Int32) (H : Heap) (locs : List Loc) (ls : Array Slot), row = mRow x co ofs kd vl → row < ro → ¬ (x = -1 ∧ y = -1) → va_P (dC, dI) vwCl (wM cI m0 m1 m2 m3 m4 m5 m6 0 gr co ofs grp kd vl ro fr nm dr) H → va_D A (wM cI m0 m1 m2 m3 m4 m5 m6 0 gr co ofs grp kd vl ro fr nm dr) → va_S A s.heap H locs → lv_has ls 5 [(0, .ref m0), (1, .int x), (2, .int y), (3, .int z), (4, .int (nI row))] → W p l e ({ frames := 2, cells := 0, slots := 0, locals := 45 }) s m args below meth c H locs 0 0 Q (F0 m 86 ls []) := by
    intro row z H locs ls hrow hr9 hnn hP hD hS hl
    have h5 := hfr row hr9
    refine lv_iload_n hx hb dX3_number_86 rfl (lv_at hl 2 rfl) ?_
    refine lv_if_lt (tgt := 100) hx hb dX3_number_87 (by decide) (fun c87 => ?_) (fun c87 => ?_)
    · refine lv_aload_n hx hb dX3_number_100 rfl (lv_at hl 0 rfl) ?_
      have hP : va_P (dC, dI) vwCl ([] ++ (wM cI m0 m1 m2 m3 m4 m5 m6 0 gr co ofs grp kd vl ro fr nm dr)) _ := hP
      have hD : va_D A ([] ++ (wM cI m0 m1 m2 m3 m4 m5 m6 0 gr co ofs grp kd vl ro fr nm dr)) := hD
      refine m_wVi (As := []) (rest := []) ⟨hx, hb, hml, hown, hts⟩ (c_X3_fails l dC dI cI m0 m1 m2 m3 m4 m5 m6 0 gr co ofs grp kd vl ro fr nm dr) (cwV 0 hts gX3_number_X3_fails rfl rfl rfl (by decide +kernel) ⟨Nat.le_of_ble_eq_true rfl, Nat.le_of_ble_eq_true rfl⟩) hP hK hD hS hA 3 0 rfl rfl rfl hl.1 rfl (Nat.le_of_ble_eq_true rfl) dX3_number_101 ⟨Nat.zero_le _, Nat.zero_le _⟩ (fun r u H locs hw hP hD hS => ?_)
      obtain ⟨rfl, rfl⟩ := hw
      have hP : va_P (dC, dI) vwCl (wM cI m0 m1 m2 m3 m4 m5 m6 1 gr co ofs grp kd vl ro fr nm dr) _ := hP
      have hD : va_D A (wM cI m0 m1 m2 m3 m4 m5 m6 1 gr co ofs grp kd vl ro fr nm dr) := hD
      refine lv_goto (tgt := 121) hx hb dX3_number_104 (by decide) ?_
      exact hret 0 ((1, gr, co, ofs, grp, kd, vl, ro, fr, nm, dr)) (rfl) (by simp only [mNumber]; rw [if_neg hnn, ← hrow, if_neg (by unfold nOk; rw [decide_eq_false (not_not_intro c87), Bool.false_and]; decide)]; exact ⟨rfl, rfl⟩) hP hD hS dX3_number_121
    · refine lv_iload_n hx hb dX3_number_90 rfl (lv_at hl 2 rfl) ?_
      refine lv_aload_n hx hb dX3_number_91 rfl (lv_at hl 0 rfl) ?_
      refine lv_iload hx hb dX3_number_92 (lv_at hl 4 rfl) ?_
      refine m_rV (As := [.int (nI row)]) (rest := [.int y]) ⟨hx, hb, hml, hown, hts⟩ (c_X3_size l dC dI cI m0 m1 m2 m3 m4 m5 m6 0 gr co ofs grp kd vl ro fr nm dr row (by omega)) (cwV 1 hts gX3_number_X3_size rfl rfl rfl (by decide +kernel) ⟨Nat.le_of_ble_eq_true rfl, Nat.le_of_ble_eq_true rfl⟩) hP hK 3 0 rfl rfl rfl hl.1 rfl (Nat.le_of_ble_eq_true rfl) dX3_number_94 ⟨Nat.zero_le _, Nat.zero_le _⟩ (fun r hw => ?_)
      subst hw
      refine lv_icmp_lt (tgt := 107) hx hb dX3_number_97 (by decide) (fun c97 => ?_) (fun c97 => ?_)
      · have h9 : nOk fr row y = true := by unfold nOk; rw [decide_eq_true c87, decide_eq_true c97]; rfl
        have h8 := nOk_lt h5.1 (by omega) h9
        refine lv_aload_n hx hb dX3_number_107 rfl (lv_at hl 0 rfl) ?_
        refine va_get (D := (dC, dI)) (ci := 3) (v := .ref m6) (C := RX3) (T := TX3) (N := 11) hx hb hts iX3 hown hK hP 0 rfl rfl 9 (by decide) l29 (fun _ h9 => h9) rfl dX3_number_108 ?_
        refine lv_aload_n hx hb dX3_number_111 rfl (lv_at hl 0 rfl) ?_
        refine va_get (D := (dC, dI)) (ci := 3) (v := .ref m5) (C := RX3) (T := TX3) (N := 11) hx hb hts iX3 hown hK hP 0 rfl rfl 8 (by decide) l26 (fun _ h9 => h9) rfl dX3_number_112 ?_
        refine lv_iload hx hb dX3_number_115 (lv_at hl 4 rfl) ?_
        refine mv_iald hx hb hK hP 5 0 rfl rfl (k := row) (rfl) (by omega) (by decide) (v := nI (fr row)) rfl dX3_number_117 ?_
        refine lv_iload_n hx hb dX3_number_118 rfl (lv_at hl 2 rfl) ?_
        refine lv_iadd hx hb dX3_number_119 ?_
        refine mv_top (v := nI (fr row + rj y)) (by rw [h8.1, rj_nI (by omega)]; exact nI_add _ _) ?_
        refine mv_iald hx hb hK hP 6 0 rfl rfl (k := fr row + rj y) (rfl) (by omega) (by decide) (v := nm (fr row + rj y)) rfl dX3_number_120 ?_
        exact hret (nm (fr row + rj y)) ((0, gr, co, ofs, grp, kd, vl, ro, fr, nm, dr)) (rfl) (by simp only [mNumber]; rw [if_neg hnn, ← hrow, if_pos h9]; exact ⟨rfl, rfl⟩) hP hD hS dX3_number_121
      · refine lv_aload_n hx hb dX3_number_100 rfl (lv_at hl 0 rfl) ?_
        have hP : va_P (dC, dI) vwCl ([] ++ (wM cI m0 m1 m2 m3 m4 m5 m6 0 gr co ofs grp kd vl ro fr nm dr)) _ := hP
        have hD : va_D A ([] ++ (wM cI m0 m1 m2 m3 m4 m5 m6 0 gr co ofs grp kd vl ro fr nm dr)) := hD
        refine m_wVi (As := []) (rest := []) ⟨hx, hb, hml, hown, hts⟩ (c_X3_fails l dC dI cI m0 m1 m2 m3 m4 m5 m6 0 gr co ofs grp kd vl ro fr nm dr) (cwV 0 hts gX3_number_X3_fails rfl rfl rfl (by decide +kernel) ⟨Nat.le_of_ble_eq_true rfl, Nat.le_of_ble_eq_true rfl⟩) hP hK hD hS hA 3 0 rfl rfl rfl hl.1 rfl (Nat.le_of_ble_eq_true rfl) dX3_number_101 ⟨Nat.zero_le _, Nat.zero_le _⟩ (fun r u H locs hw hP hD hS => ?_)
        obtain ⟨rfl, rfl⟩ := hw
        have hP : va_P (dC, dI) vwCl (wM cI m0 m1 m2 m3 m4 m5 m6 1 gr co ofs grp kd vl ro fr nm dr) _ := hP
        have hD : va_D A (wM cI m0 m1 m2 m3 m4 m5 m6 1 gr co ofs grp kd vl ro fr nm dr) := hD
        refine lv_goto (tgt := 121) hx hb dX3_number_104 (by decide) ?_
        exact hret 0 ((1, gr, co, ofs, grp, kd, vl, ro, fr, nm, dr)) (rfl) (by simp only [mNumber]; rw [if_neg hnn, ← hrow, if_neg (by unfold nOk; rw [decide_eq_false c97, Bool.and_false]; decide)]; exact ⟨rfl, rfl⟩) hP hD hS dX3_number_121
  refine lv_aload_n hx hb dX3_number_0 rfl (lv_at hl 0 rfl) ?_
  refine lv_iconst (v := 0) hx hb dX3_number_1 (by decide) ?_
  refine va_put (D := (dC, dI)) (ci := 3) (v := .int 0) (ty := .int) (C := RX3) (T := TX3) (N := 11) hx hb hts iX3 tyX3 tyX3_ok nmX3 hown hK hP hD hS 0 rfl rfl 0 (by decide) l32 (fun _ h9 => h9) rfl (by decide +kernel) rfl rfl (Nat.le_of_ble_eq_true rfl) dX3_number_2 (fun H locs hP hD hS => ?_)
  have hP : va_P (dC, dI) vwCl (wM cI m0 m1 m2 m3 m4 m5 m6 0 gr co ofs grp kd vl ro fr nm dr) _ := hP
  have hD : va_D A (wM cI m0 m1 m2 m3 m4 m5 m6 0 gr co ofs grp kd vl ro fr nm dr) := hD
  refine lv_iload_n hx hb dX3_number_5 rfl (lv_at hl 1 rfl) ?_
  refine lv_iconst (v := (-1)) hx hb dX3_number_6 (by decide) ?_
  refine lv_icmp_ne (tgt := 27) hx hb dX3_number_7 (by decide) (fun c7 => ?_) (fun c7 => ?_)
  · refine lv_iload_n hx hb dX3_number_27 rfl (lv_at hl 1 rfl) ?_
    refine lv_iconst (v := (-1)) hx hb dX3_number_28 (by decide) ?_
    refine lv_icmp_ne (tgt := 38) hx hb dX3_number_29 (by decide) (fun c29 => ?_) (fun c29 => ?_)
    · have h29 := c29
      refine lv_iload_n hx hb dX3_number_38 rfl (lv_at hl 1 rfl) ?_
      refine m_rS (As := [.int x]) (rest := []) ⟨hx, hb, hml, hown, hts⟩ (c_X3_isName l dC dI cI x) (va_cwS 1 hts gX3_number_X3_isName rfl rfl rfl (by decide +kernel) ⟨Nat.le_of_ble_eq_true rfl, Nat.le_of_ble_eq_true rfl⟩) ma_nil hK rfl hl.1 rfl (Nat.le_of_ble_eq_true rfl) dX3_number_39 ⟨Nat.zero_le _, Nat.zero_le _⟩ (fun r hw => ?_)
      subst hw
      refine lv_if_eq (tgt := 53) hx hb dX3_number_42 (by decide) (fun c42 => ?_) (fun c42 => ?_)
      · have hj := b2i_0 c42
        refine lv_iconst (v := (-1)) hx hb dX3_number_53 (by decide) ?_
        refine lv_istore_n (lv' := [(3, .int ((-1))), (0, .ref m0), (1, .int x), (2, .int y)]) hx hb dX3_number_54 rfl hl (by decide) rfl (fun ls hl => ?_)
        refine lv_iload_n hx hb dX3_number_55 rfl (lv_at hl 0 rfl) ?_
        refine lv_if_lt (tgt := 83) hx hb dX3_number_56 (by decide) (fun c56 => ?_) (fun c56 => ?_)
        · have h56 := c56
          refine lv_iconst (v := 0) hx hb dX3_number_83 (by decide) ?_
          refine mv_top (v := nI 0) rfl ?_
          refine lv_istore (lv' := [(4, .int (nI 0)), (3, .int ((-1))), (0, .ref m0), (1, .int x), (2, .int y)]) hx hb dX3_number_84 hl (by decide) rfl (fun ls hl => ?_)
          exact fin _ _ _ _ ls ((mRow_0 c29 hj).symm) (h1ro) (fun h => c7 h.1) hP hD hS (lv_sub hl [2, 3, 4, 1, 0] rfl)
        · exact absurd (by decide) c56
      · have hj := b2i_n c42
        have hix := isR_of (by decide) hj
        have h7 := hix.1
        refine lv_sipush (v := nI 3000) hx hb dX3_number_45 (by decide) ?_
        refine lv_iload_n hx hb dX3_number_48 rfl (lv_at hl 1 rfl) ?_
        refine lv_iadd hx hb dX3_number_49 ?_
        refine mv_top (v := nI (3000 + rj x)) (by rw [hix.2, rj_nI (by have := hix.1; omega)]; exact nI_add 3000 _) ?_
        refine lv_goto (tgt := 54) hx hb dX3_number_50 (by decide) ?_
        refine lv_istore_n (lv' := [(3, .int (nI (3000 + rj x))), (0, .ref m0), (1, .int x), (2, .int y)]) hx hb dX3_number_54 rfl hl (by decide) rfl (fun ls hl => ?_)
        refine lv_iload_n hx hb dX3_number_55 rfl (lv_at hl 0 rfl) ?_
        refine lv_if_lt (tgt := 83) hx hb dX3_number_56 (by decide) (fun c56 => ?_) (fun c56 => ?_)
        · exact absurd c56 (nI_pos (by omega))
        · have h56 := c56
          refine lv_iload_n hx hb dX3_number_59 rfl (lv_at hl 0 rfl) ?_
          refine lv_sipush (v := nI 4000) hx hb dX3_number_60 (by decide) ?_
          refine lv_icmp_eq (tgt := 75) hx hb dX3_number_63 (by decide) (fun c63 => ?_) (fun c63 => ?_)
          · exact absurd ((nI_eq (by omega) (by decide)).mp c63) (by omega)
          · have h63 := c63
            refine lv_aload_n hx hb dX3_number_66 rfl (lv_at hl 1 rfl) ?_
            refine lv_iload_n hx hb dX3_number_67 rfl (lv_at hl 0 rfl) ?_
            refine m_rV (As := [.int (nI (3000 + rj x))]) (rest := []) ⟨hx, hb, hml, hown, hts⟩ (c_X3_kindOf l dC dI cI m0 m1 m2 m3 m4 m5 m6 0 gr co ofs grp kd vl ro fr nm dr (3000 + rj x) (by omega) (by omega) hof) (cwV 1 hts gX3_number_X3_kindOf rfl rfl rfl (by decide +kernel) ⟨Nat.le_of_ble_eq_true rfl, Nat.le_of_ble_eq_true rfl⟩) hP hK 3 0 rfl rfl rfl hl.1 rfl (Nat.le_of_ble_eq_true rfl) dX3_number_68 ⟨Nat.zero_le _, Nat.zero_le _⟩ (fun r hw => ?_)
            subst hw
            refine lv_iconst (v := 3) hx hb dX3_number_71 (by decide) ?_
            refine lv_icmp_ne (tgt := 83) hx hb dX3_number_72 (by decide) (fun c72 => ?_) (fun c72 => ?_)
            · refine lv_iconst (v := 0) hx hb dX3_number_83 (by decide) ?_
              refine mv_top (v := nI 0) rfl ?_
              refine lv_istore (lv' := [(4, .int (nI 0)), (3, .int (nI (3000 + rj x))), (0, .ref m0), (1, .int x), (2, .int y)]) hx hb dX3_number_84 hl (by decide) rfl (fun ls hl => ?_)
              exact fin _ _ _ _ ls ((mRow_n3 c29 hj c72).symm) (h1ro) (fun h => c7 h.1) hP hD hS (lv_sub hl [2, 3, 4, 1, 0] rfl)
            · refine lv_aload_n hx hb dX3_number_75 rfl (lv_at hl 1 rfl) ?_
              refine lv_iload_n hx hb dX3_number_76 rfl (lv_at hl 0 rfl) ?_
              refine m_rV (As := [.int (nI (3000 + rj x))]) (rest := []) ⟨hx, hb, hml, hown, hts⟩ (c_X3_valueOf l dC dI cI m0 m1 m2 m3 m4 m5 m6 0 gr co ofs grp kd vl ro fr nm dr (3000 + rj x) (by omega) (by omega) hof) (cwV 1 hts gX3_number_X3_valueOf rfl rfl rfl (by decide +kernel) ⟨Nat.le_of_ble_eq_true rfl, Nat.le_of_ble_eq_true rfl⟩) hP hK 3 0 rfl rfl rfl hl.1 rfl (Nat.le_of_ble_eq_true rfl) dX3_number_77 ⟨Nat.zero_le _, Nat.zero_le _⟩ (fun r hw => ?_)
              subst hw
              refine lv_goto (tgt := 84) hx hb dX3_number_80 (by decide) ?_
              refine mv_top (v := nI (rj (atM ofs vl (3000 + rj x) co))) ((hv _ hix.1 c72).1) ?_
              refine lv_istore (lv' := [(4, .int (nI (rj (atM ofs vl (3000 + rj x) co)))), (3, .int (nI (3000 + rj x))), (0, .ref m0), (1, .int x), (2, .int y)]) hx hb dX3_number_84 hl (by decide) rfl (fun ls hl => ?_)
              exact fin _ _ _ _ ls ((mRow_3 c29 hj c72).symm) ((hv _ hix.1 c72).2) (fun h => c7 h.1) hP hD hS (lv_sub hl [2, 3, 4, 1, 0] rfl)
    · exact absurd c29 c7
  · refine lv_iload_n hx hb dX3_number_10 rfl (lv_at hl 2 rfl) ?_
    refine lv_iconst (v := (-1)) hx hb dX3_number_11 (by decide) ?_
    refine lv_icmp_ne (tgt := 27) hx hb dX3_number_12 (by decide) (fun c12 => ?_) (fun c12 => ?_)
    · refine lv_iload_n hx hb dX3_number_27 rfl (lv_at hl 1 rfl) ?_
      refine lv_iconst (v := (-1)) hx hb dX3_number_28 (by decide) ?_
      refine lv_icmp_ne (tgt := 38) hx hb dX3_number_29 (by decide) (fun c29 => ?_) (fun c29 => ?_)
      · exact absurd c7 c29
      · have h29 := c29
        refine lv_sipush (v := nI 4000) hx hb dX3_number_32 (by decide) ?_
        refine lv_goto (tgt := 54) hx hb dX3_number_35 (by decide) ?_
        refine lv_istore_n (lv' := [(3, .int (nI 4000)), (0, .ref m0), (1, .int x), (2, .int y)]) hx hb dX3_number_54 rfl hl (by decide) rfl (fun ls hl => ?_)
        refine lv_iload_n hx hb dX3_number_55 rfl (lv_at hl 0 rfl) ?_
        refine lv_if_lt (tgt := 83) hx hb dX3_number_56 (by decide) (fun c56 => ?_) (fun c56 => ?_)
        · exact absurd c56 (by decide)
        · have h56 := c56
          refine lv_iload_n hx hb dX3_number_59 rfl (lv_at hl 0 rfl) ?_
          refine lv_sipush (v := nI 4000) hx hb dX3_number_60 (by decide) ?_
          refine lv_icmp_eq (tgt := 75) hx hb dX3_number_63 (by decide) (fun c63 => ?_) (fun c63 => ?_)
          · have h63 := c63
            refine lv_aload_n hx hb dX3_number_75 rfl (lv_at hl 1 rfl) ?_
            refine lv_iload_n hx hb dX3_number_76 rfl (lv_at hl 0 rfl) ?_
            refine m_rV (As := [.int (nI 4000)]) (rest := []) ⟨hx, hb, hml, hown, hts⟩ (c_X3_valueOf l dC dI cI m0 m1 m2 m3 m4 m5 m6 0 gr co ofs grp kd vl ro fr nm dr 4000 (by omega) (by omega) hof) (cwV 1 hts gX3_number_X3_valueOf rfl rfl rfl (by decide +kernel) ⟨Nat.le_of_ble_eq_true rfl, Nat.le_of_ble_eq_true rfl⟩) hP hK 3 0 rfl rfl rfl hl.1 rfl (Nat.le_of_ble_eq_true rfl) dX3_number_77 ⟨Nat.zero_le _, Nat.zero_le _⟩ (fun r hw => ?_)
            subst hw
            refine lv_goto (tgt := 84) hx hb dX3_number_80 (by decide) ?_
            refine mv_top (v := nI (rj (atM ofs vl 4000 co))) (hs.1) ?_
            refine lv_istore (lv' := [(4, .int (nI (rj (atM ofs vl 4000 co)))), (3, .int (nI 4000)), (0, .ref m0), (1, .int x), (2, .int y)]) hx hb dX3_number_84 hl (by decide) rfl (fun ls hl => ?_)
            exact fin _ _ _ _ ls ((mRow_sh c29).symm) (hs.2) (fun h => c12 h.2) hP hD hS (lv_sub hl [2, 3, 4, 1, 0] rfl)
          · exact absurd rfl c63
    · refine lv_aload_n hx hb dX3_number_15 rfl (lv_at hl 0 rfl) ?_
      refine lv_aload_n hx hb dX3_number_16 rfl (lv_at hl 0 rfl) ?_
      refine lv_sipush (v := nI 4000) hx hb dX3_number_17 (by decide) ?_
      refine m_rV (As := [.int (nI 4000)]) (rest := [.ref m0]) ⟨hx, hb, hml, hown, hts⟩ (c_X3_valueOf l dC dI cI m0 m1 m2 m3 m4 m5 m6 0 gr co ofs grp kd vl ro fr nm dr 4000 (by omega) (by omega) hof) (cwV 1 hts gX3_number_X3_valueOf rfl rfl rfl (by decide +kernel) ⟨Nat.le_of_ble_eq_true rfl, Nat.le_of_ble_eq_true rfl⟩) hP hK 3 0 rfl rfl rfl hl.1 rfl (Nat.le_of_ble_eq_true rfl) dX3_number_20 ⟨Nat.zero_le _, Nat.zero_le _⟩ (fun r hw => ?_)
      subst hw
      refine mv_top (v := nI (rj (atM ofs vl 4000 co))) (hs.1) ?_
      have h6 := hs.2
      refine m_rV (As := [.int (nI (rj (atM ofs vl 4000 co)))]) (rest := []) ⟨hx, hb, hml, hown, hts⟩ (c_X3_size l dC dI cI m0 m1 m2 m3 m4 m5 m6 0 gr co ofs grp kd vl ro fr nm dr (rj (atM ofs vl 4000 co)) (by omega)) (cwV 1 hts gX3_number_X3_size rfl rfl rfl (by decide +kernel) ⟨Nat.le_of_ble_eq_true rfl, Nat.le_of_ble_eq_true rfl⟩) hP hK 3 0 rfl rfl rfl hl.1 rfl (Nat.le_of_ble_eq_true rfl) dX3_number_23 ⟨Nat.zero_le _, Nat.zero_le _⟩ (fun r hw => ?_)
      subst hw
      exact hret (sizeM fr (rj (atM ofs vl 4000 co))) ((0, gr, co, ofs, grp, kd, vl, ro, fr, nm, dr)) (rfl) (by simp only [mNumber]; rw [if_pos ⟨c7, c12⟩]; exact ⟨rfl, rfl⟩) hP hD hS dX3_number_26
set_option maxHeartbeats 4000000 in
set_option maxRecDepth 100000 in
theorem c_X3_count (l : Launch) (dC : Nat → ClassId) (dI : Nat → Nat → Nat) (cI : ClassId) (m0 m1 m2 m3 m4 m5 m6 : Nat) (th : Int32) (gr co : Nat) (ofs grp : Nat → Nat) (kd vl : Nat → Int32) (ro : Nat) (fr : Nat → Nat) (nm : Nat → Int32) (dr : Nat) (x : Int32) (hco : co < 4200) (hof : ∀ i, i < co → ofs i < 2 ^ 31) (h1 : 1 ≤ ro) (hro : ro + 1 < 4200) : mWi l yX3_count wsX3_count ({ frames := 2, cells := 0, slots := 0, locals := 45 }) (dC, dI) cI [.ref m0, .int x] (wM cI m0 m1 m2 m3 m4 m5 m6 th gr co ofs grp kd vl ro fr nm dr) (fun r u => r = (mCount x (th, gr, co, ofs, grp, kd, vl, ro, fr, nm, dr)).1 ∧ u = (mCount x (th, gr, co, ofs, grp, kd, vl, ro, fr, nm, dr)).2) (fun u : MS => wM cI m0 m1 m2 m3 m4 m5 m6 u.1 u.2.1 u.2.2.1 u.2.2.2.1 u.2.2.2.2.1 u.2.2.2.2.2.1 u.2.2.2.2.2.2.1 u.2.2.2.2.2.2.2.1 u.2.2.2.2.2.2.2.2.1 u.2.2.2.2.2.2.2.2.2.1 u.2.2.2.2.2.2.2.2.2.2) := by
  refine m_ofWi (cc := cX3_count) (maxL := 2) (by decide) rfl (Nat.le_of_ble_eq_true rfl) ?_
  intro p e s m args below meth c ls A Q hx hb hts hown hml hP hK hD hA hS hl hret
  have hown : s.vm.findClass RX3 = some m.cls := hown
  have hl : lv_has ls 2 [(0, .ref m0), (1, .int x)] := hl
  have l32 := hts (.fieldLink RX3 32 "GroupDeskModel" "thrown" "I") (by decide +kernel)
  have l35 := hts (.fieldLink RX3 35 "GroupDeskModel" "groups" "I") (by decide +kernel)
  have l60 := hts (.fieldLink RX3 60 "GroupDeskModel" "drafted" "I") (by decide +kernel)
  have iX3 : ∀ w ∈ u_ws RX3 TX3 11, w ∈ wsX3_count := by decide +kernel
  refine lv_aload_n hx hb dX3_count_0 rfl (lv_at hl 0 rfl) ?_
  refine lv_iconst (v := 0) hx hb dX3_count_1 (by decide) ?_
  refine va_put (D := (dC, dI)) (ci := 3) (v := .int 0) (ty := .int) (C := RX3) (T := TX3) (N := 11) hx hb hts iX3 tyX3 tyX3_ok nmX3 hown hK hP hD hS 0 rfl rfl 0 (by decide) l32 (fun _ h9 => h9) rfl (by decide +kernel) rfl rfl (Nat.le_of_ble_eq_true rfl) dX3_count_2 (fun H locs hP hD hS => ?_)
  have hP : va_P (dC, dI) vwCl (wM cI m0 m1 m2 m3 m4 m5 m6 0 gr co ofs grp kd vl ro fr nm dr) _ := hP
  have hD : va_D A (wM cI m0 m1 m2 m3 m4 m5 m6 0 gr co ofs grp kd vl ro fr nm dr) := hD
  refine lv_iload_n hx hb dX3_count_5 rfl (lv_at hl 1 rfl) ?_
  refine lv_if_ne (tgt := 16) hx hb dX3_count_6 (by decide) (fun c6 => ?_) (fun c6 => ?_)
  · refine lv_iload_n hx hb dX3_count_16 rfl (lv_at hl 1 rfl) ?_
    refine lv_iconst (v := 1) hx hb dX3_count_17 (by decide) ?_
    refine lv_icmp_ne (tgt := 28) hx hb dX3_count_18 (by decide) (fun c18 => ?_) (fun c18 => ?_)
    · refine lv_iload_n hx hb dX3_count_28 rfl (lv_at hl 1 rfl) ?_
      refine lv_iconst (v := 2) hx hb dX3_count_29 (by decide) ?_
      refine lv_icmp_ne (tgt := 40) hx hb dX3_count_30 (by decide) (fun c30 => ?_) (fun c30 => ?_)
      · refine lv_iconst (v := (-1)) hx hb dX3_count_40 (by decide) ?_
        exact hret ((-1)) ((0, gr, co, ofs, grp, kd, vl, ro, fr, nm, dr)) (rfl) (⟨by simp only [mCount]; rw [if_neg c6, if_neg c18, if_neg c30], rfl⟩) hP hD hS dX3_count_41
      · refine lv_aload_n hx hb dX3_count_33 rfl (lv_at hl 0 rfl) ?_
        refine m_rV (As := []) (rest := []) ⟨hx, hb, hml, hown, hts⟩ (c_X3_kept l dC dI cI m0 m1 m2 m3 m4 m5 m6 0 gr co ofs grp kd vl ro fr nm dr (by omega) hof h1 hro) (cwV 0 hts gX3_count_X3_kept rfl rfl rfl (by decide +kernel) ⟨Nat.le_of_ble_eq_true rfl, Nat.le_of_ble_eq_true rfl⟩) hP hK 3 0 rfl rfl rfl hl.1 rfl (Nat.le_of_ble_eq_true rfl) dX3_count_34 ⟨Nat.zero_le _, Nat.zero_le _⟩ (fun r hw => ?_)
        subst hw
        refine lv_goto (tgt := 41) hx hb dX3_count_37 (by decide) ?_
        exact hret (keptM ofs kd vl fr co (ro - 1)) ((0, gr, co, ofs, grp, kd, vl, ro, fr, nm, dr)) (rfl) (⟨by simp only [mCount]; rw [if_neg c6, if_neg c18, if_pos c30], rfl⟩) hP hD hS dX3_count_41
    · refine lv_aload_n hx hb dX3_count_21 rfl (lv_at hl 0 rfl) ?_
      refine va_get (D := (dC, dI)) (ci := 3) (v := .int (nI dr)) (C := RX3) (T := TX3) (N := 11) hx hb hts iX3 hown hK hP 0 rfl rfl 10 (by decide) l60 (fun _ h9 => h9) rfl dX3_count_22 ?_
      refine lv_goto (tgt := 41) hx hb dX3_count_25 (by decide) ?_
      exact hret (nI dr) ((0, gr, co, ofs, grp, kd, vl, ro, fr, nm, dr)) (rfl) (⟨by simp only [mCount]; rw [if_neg c6, if_pos c18], rfl⟩) hP hD hS dX3_count_41
  · refine lv_aload_n hx hb dX3_count_9 rfl (lv_at hl 0 rfl) ?_
    refine va_get (D := (dC, dI)) (ci := 3) (v := .int (nI gr)) (C := RX3) (T := TX3) (N := 11) hx hb hts iX3 hown hK hP 0 rfl rfl 1 (by decide) l35 (fun _ h9 => h9) rfl dX3_count_10 ?_
    refine lv_goto (tgt := 41) hx hb dX3_count_13 (by decide) ?_
    exact hret (nI gr) ((0, gr, co, ofs, grp, kd, vl, ro, fr, nm, dr)) (rfl) (⟨by simp only [mCount]; rw [if_pos c6], rfl⟩) hP hD hS dX3_count_41
end
section
/-- the class's state: kinds, values, savedPlaces, savedGroups, savedKinds, savedValues, savedCount, openGroups; numbers, starts, lengths, tellers, made, draftStart, draftLength, keptNumbers -/
abbrev DS : Type := (Nat → Int32) × (Nat → Int32) × (Nat → Nat) × (Nat → Nat) × (Nat → Int32) × (Nat → Int32) × Nat × Nat × (Nat → Int32) × (Nat → Nat) × (Nat → Nat) × (Nat → Int32) × Nat × Nat × Nat × Int32
def dAsg (pl : Nat) (k v gg : Int32) : DS → DS
  | (ki, va, sp, sg, sk, sv, sc, og, nu, st, le, te, ma, ds, dl, ke) => ((assignF ma le pl k v gg ki va sp sg sk sv sc og te ke).1, (assignF ma le pl k v gg ki va sp sg sk sv sc og te ke).2.1, (assignF ma le pl k v gg ki va sp sg sk sv sc og te ke).2.2.1, (assignF ma le pl k v gg ki va sp sg sk sv sc og te ke).2.2.2.1, (assignF ma le pl k v gg ki va sp sg sk sv sc og te ke).2.2.2.2.1, (assignF ma le pl k v gg ki va sp sg sk sv sc og te ke).2.2.2.2.2.1, (assignF ma le pl k v gg ki va sp sg sk sv sc og te ke).2.2.2.2.2.2.1, og, nu, st, le, (assignF ma le pl k v gg ki va sp sg sk sv sc og te ke).2.2.2.2.2.2.2.1, ma, ds, dl, (assignF ma le pl k v gg ki va sp sg sk sv sc og te ke).2.2.2.2.2.2.2.2)
def dOpen : DS → Int32 × DS
  | (ki, va, sp, sg, sk, sv, sc, og, nu, st, le, te, ma, ds, dl, ke) => if og < 200 then (1, (ki, va, sp, sg, sk, sv, sc, og + 1, nu, st, le, te, ma, ds, dl, ke)) else (0, (ki, va, sp, sg, sk, sv, sc, og, nu, st, le, te, ma, ds, dl, ke))
def dClose : DS → Int32 × DS
  | (ki, va, sp, sg, sk, sv, sc, og, nu, st, le, te, ma, ds, dl, ke) => ((leaveG ma le sp sg sk sv og sc ki va te ke).1, ((leaveG ma le sp sg sk sv og sc ki va te ke).2.2.2.1, (leaveG ma le sp sg sk sv og sc ki va te ke).2.2.2.2.1, sp, sg, sk, sv, (leaveG ma le sp sg sk sv og sc ki va te ke).2.1, (leaveG ma le sp sg sk sv og sc ki va te ke).2.2.1, nu, st, le, (leaveG ma le sp sg sk sv og sc ki va te ke).2.2.2.2.2.1, ma, ds, dl, (leaveG ma le sp sg sk sv og sc ki va te ke).2.2.2.2.2.2))
def dSet (x v gg : Int32) (D : DS) : Int32 × DS := if isR 2366 x then (1, dAsg (rj x) 0 v gg D) else (0, D)
def dMean (x k v gg : Int32) (D : DS) : Int32 × DS := if (isR 1000 x && kOk k) = true then (1, dAsg (2366 + rj x) k v gg D) else (0, D)
def dDraft (v : Int32) : DS → Int32 × DS
  | (ki, va, sp, sg, sk, sv, sc, og, nu, st, le, te, ma, ds, dl, ke) => ((joinF nu ds dl v).1, (ki, va, sp, sg, sk, sv, sc, og, (joinF nu ds dl v).2.1, st, le, te, ma, ds, (joinF nu ds dl v).2.2, ke))
def dTake : DS → Int32 × DS
  | (ki, va, sp, sg, sk, sv, sc, og, nu, st, le, te, ma, ds, dl, ke) => ((takeF st le ma ds dl).1, (ki, va, sp, sg, sk, sv, sc, og, nu, (takeF st le ma ds dl).2.1, (takeF st le ma ds dl).2.2.1, te, (takeF st le ma ds dl).2.2.2.1, (takeF st le ma ds dl).2.2.2.2.1, (takeF st le ma ds dl).2.2.2.2.2, ke))
def dLen (x : Int32) (D : DS) : Int32 := lenR D.2.2.2.2.2.2.2.2.2.2.2.2.1 D.2.2.2.2.2.2.2.2.2.2.1 x
def dDefine (x gg : Int32) (D : DS) : Int32 × DS := (dLen (dTake D).1 (dAsg (2366 + rj x) 3 (dTake D).1 gg (dTake D).2), dAsg (2366 + rj x) 3 (dTake D).1 gg (dTake D).2)
def dLet (x y gg : Int32) (D : DS) : Int32 × DS := if (isR 1000 x && isR 1000 y) = true then (1, dAsg (2366 + rj x) (D.1 (2366 + rj y)) (D.2.1 (2366 + rj y)) gg D) else (0, D)
def dShape (gg : Int32) (D : DS) : Int32 × DS := (dLen (dTake D).1 (dAsg 3366 0 (dTake D).1 gg (dTake D).2), dAsg 3366 0 (dTake D).1 gg (dTake D).2)
def dGet (x : Int32) (D : DS) : Int32 := D.2.1 (rj x)
def dAbout (x y : Int32) (D : DS) : Int32 := if y = 0 then D.1 (2366 + rj x) else if D.1 (2366 + rj x) = 3 then dLen (D.2.1 (2366 + rj x)) D else D.2.1 (2366 + rj x)
def dRow (x : Int32) (D : DS) : Int32 := if x = -1 then D.2.1 3366 else if isR 1000 x then (if D.1 (2366 + rj x) = 3 then D.2.1 (2366 + rj x) else -1) else -1
def dHas (x y : Int32) (D : DS) : Bool := hasR D.2.2.2.2.2.2.2.2.2.2.2.2.1 D.2.2.2.2.2.2.2.2.2.2.1 (dRow x D) y
def dNum (x y : Int32) (D : DS) : Int32 := if x = -1 ∧ y = -1 then dLen (dRow x D) D else numR D.2.2.2.2.2.2.2.2.2.2.2.2.1 D.2.2.2.2.2.2.2.2.2.1 D.2.2.2.2.2.2.2.2.2.2.1 D.2.2.2.2.2.2.2.2.1 (dRow x D) y
def dCount (x : Int32) (D : DS) : Int32 := if x = 0 then nI D.2.2.2.2.2.2.2.1 else if x = 1 then nI D.2.2.2.2.2.2.2.2.2.2.2.2.2.2.1 else if x = 2 then D.2.2.2.2.2.2.2.2.2.2.2.2.2.2.2 else -1
set_option maxHeartbeats 4000000 in
set_option maxRecDepth 100000 in
theorem c_X2_isCell (l : Launch) (dC : Nat → ClassId) (dI : Nat → Nat → Nat) (cI : ClassId) (x : Int32)  : mRi l yX2_isCell wsX2_isCell ({ frames := 0, cells := 0, slots := 0, locals := 0 }) (dC, dI) cI [.int x] ([]) (fun r => r = b2i (isR 2366 x)) := by
  refine m_ofR (cc := cX2_isCell) (maxL := 1) (by decide) rfl (Nat.le_of_ble_eq_true rfl) ?_
  intro p e s m args below meth c ls Q hx hb hts hown hml hP hK hl hret
  have hown : s.vm.findClass RX2 = some m.cls := hown
  have hl : lv_has ls 1 [(0, .int x)] := hl
  refine lv_iload_n hx hb dX2_isCell_0 rfl (lv_at hl 0 rfl) ?_
  refine lv_if_lt (tgt := 15) hx hb dX2_isCell_1 (by decide) (fun c1 => ?_) (fun c1 => ?_)
  · refine lv_iconst (v := 0) hx hb dX2_isCell_15 (by decide) ?_
    exact hret 0 (rfl) (by rw [isR_f1 c1]; rfl) dX2_isCell_16
  · refine lv_iload_n hx hb dX2_isCell_4 rfl (lv_at hl 0 rfl) ?_
    refine lv_sipush (v := nI 2366) hx hb dX2_isCell_5 (by decide) ?_
    refine lv_icmp_ge (tgt := 15) hx hb dX2_isCell_8 (by decide) (fun c8 => ?_) (fun c8 => ?_)
    · refine lv_iconst (v := 0) hx hb dX2_isCell_15 (by decide) ?_
      exact hret 0 (rfl) (by rw [isR_f2 c8]; rfl) dX2_isCell_16
    · refine lv_iconst (v := 1) hx hb dX2_isCell_11 (by decide) ?_
      refine lv_goto (tgt := 16) hx hb dX2_isCell_12 (by decide) ?_
      exact hret 1 (rfl) (by rw [isR_t c1 c8]; rfl) dX2_isCell_16
set_option maxHeartbeats 4000000 in
set_option maxRecDepth 100000 in
theorem c_X2_isName (l : Launch) (dC : Nat → ClassId) (dI : Nat → Nat → Nat) (cI : ClassId) (x : Int32)  : mRi l yX2_isName wsX2_isName ({ frames := 0, cells := 0, slots := 0, locals := 0 }) (dC, dI) cI [.int x] ([]) (fun r => r = b2i (isR 1000 x)) := by
  refine m_ofR (cc := cX2_isName) (maxL := 1) (by decide) rfl (Nat.le_of_ble_eq_true rfl) ?_
  intro p e s m args below meth c ls Q hx hb hts hown hml hP hK hl hret
  have hown : s.vm.findClass RX2 = some m.cls := hown
  have hl : lv_has ls 1 [(0, .int x)] := hl
  refine lv_iload_n hx hb dX2_isName_0 rfl (lv_at hl 0 rfl) ?_
  refine lv_if_lt (tgt := 15) hx hb dX2_isName_1 (by decide) (fun c1 => ?_) (fun c1 => ?_)
  · refine lv_iconst (v := 0) hx hb dX2_isName_15 (by decide) ?_
    exact hret 0 (rfl) (by rw [isR_f1 c1]; rfl) dX2_isName_16
  · refine lv_iload_n hx hb dX2_isName_4 rfl (lv_at hl 0 rfl) ?_
    refine lv_sipush (v := nI 1000) hx hb dX2_isName_5 (by decide) ?_
    refine lv_icmp_ge (tgt := 15) hx hb dX2_isName_8 (by decide) (fun c8 => ?_) (fun c8 => ?_)
    · refine lv_iconst (v := 0) hx hb dX2_isName_15 (by decide) ?_
      exact hret 0 (rfl) (by rw [isR_f2 c8]; rfl) dX2_isName_16
    · refine lv_iconst (v := 1) hx hb dX2_isName_11 (by decide) ?_
      refine lv_goto (tgt := 16) hx hb dX2_isName_12 (by decide) ?_
      exact hret 1 (rfl) (by rw [isR_t c1 c8]; rfl) dX2_isName_16
set_option maxHeartbeats 4000000 in
set_option maxRecDepth 100000 in
theorem c_X2_isKindWithInt (l : Launch) (dC : Nat → ClassId) (dI : Nat → Nat → Nat) (cI : ClassId) (x : Int32)  : mRi l yX2_isKindWithInt wsX2_isKindWithInt ({ frames := 0, cells := 0, slots := 0, locals := 0 }) (dC, dI) cI [.int x] ([]) (fun r => r = b2i (kOk x)) := by
  refine m_ofR (cc := cX2_isKindWithInt) (maxL := 1) (by decide) rfl (Nat.le_of_ble_eq_true rfl) ?_
  intro p e s m args below meth c ls Q hx hb hts hown hml hP hK hl hret
  have hown : s.vm.findClass RX2 = some m.cls := hown
  have hl : lv_has ls 1 [(0, .int x)] := hl
  refine lv_iload_n hx hb dX2_isKindWithInt_0 rfl (lv_at hl 0 rfl) ?_
  refine lv_if_lt (tgt := 19) hx hb dX2_isKindWithInt_1 (by decide) (fun c1 => ?_) (fun c1 => ?_)
  · refine lv_iconst (v := 0) hx hb dX2_isKindWithInt_19 (by decide) ?_
    exact hret 0 (rfl) (by unfold kOk; rw [decide_eq_false (not_not_intro c1)]; rfl) dX2_isKindWithInt_20
  · refine lv_iload_n hx hb dX2_isKindWithInt_4 rfl (lv_at hl 0 rfl) ?_
    refine lv_bipush (v := nI 8) hx hb dX2_isKindWithInt_5 (by decide) ?_
    refine lv_icmp_gt (tgt := 19) hx hb dX2_isKindWithInt_7 (by decide) (fun c7 => ?_) (fun c7 => ?_)
    · refine lv_iconst (v := 0) hx hb dX2_isKindWithInt_19 (by decide) ?_
      exact hret 0 (rfl) (by unfold kOk; rw [decide_eq_false (not_not_intro c7), Bool.and_false]; rfl) dX2_isKindWithInt_20
    · refine lv_iload_n hx hb dX2_isKindWithInt_10 rfl (lv_at hl 0 rfl) ?_
      refine lv_iconst (v := 3) hx hb dX2_isKindWithInt_11 (by decide) ?_
      refine lv_icmp_eq (tgt := 19) hx hb dX2_isKindWithInt_12 (by decide) (fun c12 => ?_) (fun c12 => ?_)
      · refine lv_iconst (v := 0) hx hb dX2_isKindWithInt_19 (by decide) ?_
        exact hret 0 (rfl) (by unfold kOk; rw [decide_eq_false (not_not_intro c12), Bool.and_false]; rfl) dX2_isKindWithInt_20
      · refine lv_iconst (v := 1) hx hb dX2_isKindWithInt_15 (by decide) ?_
        refine lv_goto (tgt := 20) hx hb dX2_isKindWithInt_16 (by decide) ?_
        exact hret 1 (rfl) (by unfold kOk; rw [decide_eq_true c1, decide_eq_true c7, decide_eq_true c12]; rfl) dX2_isKindWithInt_20
theorem en_z (og : Nat) : narrow .boolean (.int (if og < 200 then ((1 : Int32), og + 1) else (0, og)).1) = .int (if og < 200 then ((1 : Int32), og + 1) else (0, og)).1 := by
  by_cases h : og < 200
  · rw [if_pos h]; exact b2i_z true (Or.inl rfl)
  · rw [if_neg h]; exact b2i_z false (Or.inl rfl)
theorem lg_z (ma : Nat) (le sp sg : Nat → Nat) (sk sv : Nat → Int32) (og sc : Nat) (ki va te : Nat → Int32) (ke : Int32) : narrow .boolean (.int (leaveG ma le sp sg sk sv og sc ki va te ke).1) = .int (leaveG ma le sp sg sk sv og sc ki va te ke).1 := by
  unfold leaveG
  by_cases h : og = 0
  · rw [if_pos h]; exact b2i_z false (Or.inl rfl)
  · rw [if_neg h]; exact b2i_z true (Or.inl rfl)
theorem jn_z (nu : Nat → Int32) (ds dl : Nat) (v : Int32) : narrow .boolean (.int (joinF nu ds dl v).1) = .int (joinF nu ds dl v).1 := by
  unfold joinF
  by_cases h : dl < 200 ∧ ds + dl < 512
  · rw [if_pos h]; exact b2i_z true (Or.inl rfl)
  · rw [if_neg h]; exact b2i_z false (Or.inl rfl)
theorem takeF_ma {st le : Nat → Nat} {ma ds dl : Nat} (h : ma ≤ 513) : (takeF st le ma ds dl).2.2.2.1 ≤ 513 := by
  unfold takeF
  by_cases h2 : dl = 0 ∨ 513 ≤ ma
  · rw [if_pos h2]; exact h
  · rw [if_neg h2]
    show ma + 1 ≤ 513
    omega
set_option maxHeartbeats 4000000 in
set_option maxRecDepth 100000 in
theorem c_X2_open (l : Launch) (dC : Nat → ClassId) (dI : Nat → Nat → Nat) (g0 r0 p0 : Nat) (cI : ClassId) (p1 p2 p3 p4 p5 p6 : Nat) (ki va : Nat → Int32) (sp sg : Nat → Nat) (sk sv : Nat → Int32) (sc og r1 r2 r3 r4 : Nat) (nu : Nat → Int32) (st le : Nat → Nat) (te : Nat → Int32) (ma ds dl : Nat) (ke : Int32)  (hog : og < 2 ^ 31) : mWi l yX2_open wsX2_open ({ frames := 1, cells := 0, slots := 0, locals := 20 }) (dC, dI) cI [.ref g0] (wG g0 r0 p0 ++ (wP cI r0 p0 p1 p2 p3 p4 p5 p6 ki va sp sg sk sv sc og ++ wR cI r0 r1 r2 r3 r4 nu st le te ma ds dl ke)) (fun r u => r = (dOpen (ki, va, sp, sg, sk, sv, sc, og, nu, st, le, te, ma, ds, dl, ke)).1 ∧ u = (dOpen (ki, va, sp, sg, sk, sv, sc, og, nu, st, le, te, ma, ds, dl, ke)).2) (fun u : DS => wG g0 r0 p0 ++ (wP cI r0 p0 p1 p2 p3 p4 p5 p6 u.1 u.2.1 u.2.2.1 u.2.2.2.1 u.2.2.2.2.1 u.2.2.2.2.2.1 u.2.2.2.2.2.2.1 u.2.2.2.2.2.2.2.1 ++ wR cI r0 r1 r2 r3 r4 u.2.2.2.2.2.2.2.2.1 u.2.2.2.2.2.2.2.2.2.1 u.2.2.2.2.2.2.2.2.2.2.1 u.2.2.2.2.2.2.2.2.2.2.2.1 u.2.2.2.2.2.2.2.2.2.2.2.2.1 u.2.2.2.2.2.2.2.2.2.2.2.2.2.1 u.2.2.2.2.2.2.2.2.2.2.2.2.2.2.1 u.2.2.2.2.2.2.2.2.2.2.2.2.2.2.2)) := by
  refine m_ofWi (cc := cX2_open) (maxL := 1) (by decide) rfl (Nat.le_of_ble_eq_true rfl) ?_
  intro p e s m args below meth c ls A Q hx hb hts hown hml hP hK hD hA hS hl hret
  have hown : s.vm.findClass RX2 = some m.cls := hown
  have hl : lv_has ls 1 [(0, .ref g0)] := hl
  have l21 := hts (.fieldLink RX2 21 "GroupDesk" "places" "LGroupDesk$Places;") (by decide +kernel)
  have iX2 : ∀ w ∈ u_ws RX2 TX2 2, w ∈ wsX2_open := by decide +kernel
  refine lv_aload_n hx hb dX2_open_0 rfl (lv_at hl 0 rfl) ?_
  refine va_get (D := (dC, dI)) (ci := 2) (v := .ref p0) (C := RX2) (T := TX2) (N := 2) hx hb hts iX2 hown hK hP 0 rfl rfl 1 (by decide) l21 (fun _ h9 => h9) rfl dX2_open_1 ?_
  have hP : va_P (dC, dI) vwCl ((wG g0 r0 p0) ++ (wP cI r0 p0 p1 p2 p3 p4 p5 p6 ki va sp sg sk sv sc og ++ wR cI r0 r1 r2 r3 r4 nu st le te ma ds dl ke)) _ := hP
  have hD : va_D A ((wG g0 r0 p0) ++ (wP cI r0 p0 p1 p2 p3 p4 p5 p6 ki va sp sg sk sv sc og ++ wR cI r0 r1 r2 r3 r4 nu st le te ma ds dl ke)) := hD
  refine m_wVi (As := []) (rest := []) ⟨hx, hb, hml, hown, hts⟩ (c_X0_enter l dC dI cI r0 p0 p1 p2 p3 p4 p5 p6 ki va sp sg sk sv sc og r1 r2 r3 r4 nu st le te ma ds dl ke hog) (cwV 0 hts gX2_open_X0_enter rfl rfl rfl (by decide +kernel) ⟨Nat.le_of_ble_eq_true rfl, Nat.le_of_ble_eq_true rfl⟩) hP hK hD hS hA 0 0 rfl rfl rfl hl.1 rfl (Nat.le_of_ble_eq_true rfl) dX2_open_4 ⟨Nat.zero_le _, Nat.zero_le _⟩ (fun r u H locs hw hP hD hS => ?_)
  obtain ⟨rfl, rfl⟩ := hw
  have hP : va_P (dC, dI) vwCl (wG g0 r0 p0 ++ (wP cI r0 p0 p1 p2 p3 p4 p5 p6 ki va sp sg sk sv sc ((if og < 200 then ((1 : Int32), og + 1) else (0, og)).2) ++ wR cI r0 r1 r2 r3 r4 nu st le te ma ds dl ke)) _ := hP
  have hD : va_D A (wG g0 r0 p0 ++ (wP cI r0 p0 p1 p2 p3 p4 p5 p6 ki va sp sg sk sv sc ((if og < 200 then ((1 : Int32), og + 1) else (0, og)).2) ++ wR cI r0 r1 r2 r3 r4 nu st le te ma ds dl ke)) := hD
  exact hret ((if og < 200 then ((1 : Int32), og + 1) else (0, og)).1) ((ki, va, sp, sg, sk, sv, sc, (if og < 200 then ((1 : Int32), og + 1) else (0, og)).2, nu, st, le, te, ma, ds, dl, ke)) (en_z og) (by simp only [dOpen]; by_cases h : og < 200 <;> simp only [h, if_true, if_false, and_self]) hP hD hS dX2_open_7
set_option maxHeartbeats 4000000 in
set_option maxRecDepth 100000 in
theorem c_X2_close (l : Launch) (dC : Nat → ClassId) (dI : Nat → Nat → Nat) (g0 r0 p0 : Nat) (cI : ClassId) (p1 p2 p3 p4 p5 p6 : Nat) (ki va : Nat → Int32) (sp sg : Nat → Nat) (sk sv : Nat → Int32) (sc og r1 r2 r3 r4 : Nat) (nu : Nat → Int32) (st le : Nat → Nat) (te : Nat → Int32) (ma ds dl : Nat) (ke : Int32)  (hm : ma ≤ 513) (hsc : sc ≤ 512) (hog : og < 2 ^ 31) (hsg : ∀ j, j < sc → sg j < 2 ^ 31) (hsp : ∀ j, j < sc → sp j < 3367) : mWi l yX2_close wsX2_close ({ frames := 5, cells := 0, slots := 0, locals := 107 }) (dC, dI) cI [.ref g0] (wG g0 r0 p0 ++ (wP cI r0 p0 p1 p2 p3 p4 p5 p6 ki va sp sg sk sv sc og ++ wR cI r0 r1 r2 r3 r4 nu st le te ma ds dl ke)) (fun r u => r = (dClose (ki, va, sp, sg, sk, sv, sc, og, nu, st, le, te, ma, ds, dl, ke)).1 ∧ u = (dClose (ki, va, sp, sg, sk, sv, sc, og, nu, st, le, te, ma, ds, dl, ke)).2) (fun u : DS => wG g0 r0 p0 ++ (wP cI r0 p0 p1 p2 p3 p4 p5 p6 u.1 u.2.1 u.2.2.1 u.2.2.2.1 u.2.2.2.2.1 u.2.2.2.2.2.1 u.2.2.2.2.2.2.1 u.2.2.2.2.2.2.2.1 ++ wR cI r0 r1 r2 r3 r4 u.2.2.2.2.2.2.2.2.1 u.2.2.2.2.2.2.2.2.2.1 u.2.2.2.2.2.2.2.2.2.2.1 u.2.2.2.2.2.2.2.2.2.2.2.1 u.2.2.2.2.2.2.2.2.2.2.2.2.1 u.2.2.2.2.2.2.2.2.2.2.2.2.2.1 u.2.2.2.2.2.2.2.2.2.2.2.2.2.2.1 u.2.2.2.2.2.2.2.2.2.2.2.2.2.2.2)) := by
  refine m_ofWi (cc := cX2_close) (maxL := 1) (by decide) rfl (Nat.le_of_ble_eq_true rfl) ?_
  intro p e s m args below meth c ls A Q hx hb hts hown hml hP hK hD hA hS hl hret
  have hown : s.vm.findClass RX2 = some m.cls := hown
  have hl : lv_has ls 1 [(0, .ref g0)] := hl
  have l21 := hts (.fieldLink RX2 21 "GroupDesk" "places" "LGroupDesk$Places;") (by decide +kernel)
  have iX2 : ∀ w ∈ u_ws RX2 TX2 2, w ∈ wsX2_close := by decide +kernel
  refine lv_aload_n hx hb dX2_close_0 rfl (lv_at hl 0 rfl) ?_
  refine va_get (D := (dC, dI)) (ci := 2) (v := .ref p0) (C := RX2) (T := TX2) (N := 2) hx hb hts iX2 hown hK hP 0 rfl rfl 1 (by decide) l21 (fun _ h9 => h9) rfl dX2_close_1 ?_
  have hP : va_P (dC, dI) vwCl ((wG g0 r0 p0) ++ (wP cI r0 p0 p1 p2 p3 p4 p5 p6 ki va sp sg sk sv sc og ++ wR cI r0 r1 r2 r3 r4 nu st le te ma ds dl ke)) _ := hP
  have hD : va_D A ((wG g0 r0 p0) ++ (wP cI r0 p0 p1 p2 p3 p4 p5 p6 ki va sp sg sk sv sc og ++ wR cI r0 r1 r2 r3 r4 nu st le te ma ds dl ke)) := hD
  refine m_wVi (As := []) (rest := []) ⟨hx, hb, hml, hown, hts⟩ (c_X0_leave l dC dI cI r0 p0 p1 p2 p3 p4 p5 p6 ki va sp sg sk sv sc og r1 r2 r3 r4 nu st le te ma ds dl ke hm hsc hog hsg hsp) (cwV 0 hts gX2_close_X0_leave rfl rfl rfl (by decide +kernel) ⟨Nat.le_of_ble_eq_true rfl, Nat.le_of_ble_eq_true rfl⟩) hP hK hD hS hA 0 0 rfl rfl rfl hl.1 rfl (Nat.le_of_ble_eq_true rfl) dX2_close_4 ⟨Nat.zero_le _, Nat.zero_le _⟩ (fun r u H locs hw hP hD hS => ?_)
  obtain ⟨rfl, rfl⟩ := hw
  have hP : va_P (dC, dI) vwCl (wG g0 r0 p0 ++ (wP cI r0 p0 p1 p2 p3 p4 p5 p6 ((leaveG ma le sp sg sk sv og sc ki va te ke).2.2.2.1) ((leaveG ma le sp sg sk sv og sc ki va te ke).2.2.2.2.1) sp sg sk sv ((leaveG ma le sp sg sk sv og sc ki va te ke).2.1) ((leaveG ma le sp sg sk sv og sc ki va te ke).2.2.1) ++ wR cI r0 r1 r2 r3 r4 nu st le ((leaveG ma le sp sg sk sv og sc ki va te ke).2.2.2.2.2.1) ma ds dl ((leaveG ma le sp sg sk sv og sc ki va te ke).2.2.2.2.2.2))) _ := hP
  have hD : va_D A (wG g0 r0 p0 ++ (wP cI r0 p0 p1 p2 p3 p4 p5 p6 ((leaveG ma le sp sg sk sv og sc ki va te ke).2.2.2.1) ((leaveG ma le sp sg sk sv og sc ki va te ke).2.2.2.2.1) sp sg sk sv ((leaveG ma le sp sg sk sv og sc ki va te ke).2.1) ((leaveG ma le sp sg sk sv og sc ki va te ke).2.2.1) ++ wR cI r0 r1 r2 r3 r4 nu st le ((leaveG ma le sp sg sk sv og sc ki va te ke).2.2.2.2.2.1) ma ds dl ((leaveG ma le sp sg sk sv og sc ki va te ke).2.2.2.2.2.2))) := hD
  exact hret ((leaveG ma le sp sg sk sv og sc ki va te ke).1) (((leaveG ma le sp sg sk sv og sc ki va te ke).2.2.2.1, (leaveG ma le sp sg sk sv og sc ki va te ke).2.2.2.2.1, sp, sg, sk, sv, (leaveG ma le sp sg sk sv og sc ki va te ke).2.1, (leaveG ma le sp sg sk sv og sc ki va te ke).2.2.1, nu, st, le, (leaveG ma le sp sg sk sv og sc ki va te ke).2.2.2.2.2.1, ma, ds, dl, (leaveG ma le sp sg sk sv og sc ki va te ke).2.2.2.2.2.2)) (lg_z _ _ _ _ _ _ _ _ _ _ _ _) (⟨rfl, rfl⟩) hP hD hS dX2_close_7
set_option maxHeartbeats 4000000 in
set_option maxRecDepth 100000 in
theorem c_X2_set (l : Launch) (dC : Nat → ClassId) (dI : Nat → Nat → Nat) (g0 r0 p0 : Nat) (cI : ClassId) (p1 p2 p3 p4 p5 p6 : Nat) (ki va : Nat → Int32) (sp sg : Nat → Nat) (sk sv : Nat → Int32) (sc og r1 r2 r3 r4 : Nat) (nu : Nat → Int32) (st le : Nat → Nat) (te : Nat → Int32) (ma ds dl : Nat) (ke : Int32) (x v g : Int32) (hm : ma ≤ 513) (hsc : sc ≤ 512) (hog : og < 2 ^ 31) (hsg : ∀ j, j < sc → sg j < 2 ^ 31) (hsp : ∀ j, j < sc → sp j < 3367) : mWi l yX2_set wsX2_set ({ frames := 5, cells := 0, slots := 0, locals := 111 }) (dC, dI) cI [.ref g0, .int x, .int v, .int g] (wG g0 r0 p0 ++ (wP cI r0 p0 p1 p2 p3 p4 p5 p6 ki va sp sg sk sv sc og ++ wR cI r0 r1 r2 r3 r4 nu st le te ma ds dl ke)) (fun r u => r = (dSet x v g (ki, va, sp, sg, sk, sv, sc, og, nu, st, le, te, ma, ds, dl, ke)).1 ∧ u = (dSet x v g (ki, va, sp, sg, sk, sv, sc, og, nu, st, le, te, ma, ds, dl, ke)).2) (fun u : DS => wG g0 r0 p0 ++ (wP cI r0 p0 p1 p2 p3 p4 p5 p6 u.1 u.2.1 u.2.2.1 u.2.2.2.1 u.2.2.2.2.1 u.2.2.2.2.2.1 u.2.2.2.2.2.2.1 u.2.2.2.2.2.2.2.1 ++ wR cI r0 r1 r2 r3 r4 u.2.2.2.2.2.2.2.2.1 u.2.2.2.2.2.2.2.2.2.1 u.2.2.2.2.2.2.2.2.2.2.1 u.2.2.2.2.2.2.2.2.2.2.2.1 u.2.2.2.2.2.2.2.2.2.2.2.2.1 u.2.2.2.2.2.2.2.2.2.2.2.2.2.1 u.2.2.2.2.2.2.2.2.2.2.2.2.2.2.1 u.2.2.2.2.2.2.2.2.2.2.2.2.2.2.2)) := by
  refine m_ofWi (cc := cX2_set) (maxL := 4) (by decide) rfl (Nat.le_of_ble_eq_true rfl) ?_
  intro p e s m args below meth c ls A Q hx hb hts hown hml hP hK hD hA hS hl hret
  have hown : s.vm.findClass RX2 = some m.cls := hown
  have hl : lv_has ls 4 [(0, .ref g0), (1, .int x), (2, .int v), (3, .int g)] := hl
  have l21 := hts (.fieldLink RX2 21 "GroupDesk" "places" "LGroupDesk$Places;") (by decide +kernel)
  have iX2 : ∀ w ∈ u_ws RX2 TX2 2, w ∈ wsX2_set := by decide +kernel
  refine lv_iload_n hx hb dX2_set_0 rfl (lv_at hl 1 rfl) ?_
  refine m_rS (As := [.int x]) (rest := []) ⟨hx, hb, hml, hown, hts⟩ (c_X2_isCell l dC dI cI x) (va_cwS 1 hts gX2_set_X2_isCell rfl rfl rfl (by decide +kernel) ⟨Nat.le_of_ble_eq_true rfl, Nat.le_of_ble_eq_true rfl⟩) ma_nil hK rfl hl.1 rfl (Nat.le_of_ble_eq_true rfl) dX2_set_1 ⟨Nat.zero_le _, Nat.zero_le _⟩ (fun r hw => ?_)
  subst hw
  refine lv_if_ne (tgt := 9) hx hb dX2_set_4 (by decide) (fun c4 => ?_) (fun c4 => ?_)
  · have hj := b2i_n c4
    have hi := isR_of (by decide) hj
    have h7 := hi.1
    refine lv_aload_n hx hb dX2_set_9 rfl (lv_at hl 0 rfl) ?_
    refine va_get (D := (dC, dI)) (ci := 2) (v := .ref p0) (C := RX2) (T := TX2) (N := 2) hx hb hts iX2 hown hK hP 0 rfl rfl 1 (by decide) l21 (fun _ h9 => h9) rfl dX2_set_10 ?_
    refine lv_iload_n hx hb dX2_set_13 rfl (lv_at hl 1 rfl) ?_
    refine mv_top (v := nI (rj x)) (hi.2) ?_
    refine lv_iconst (v := 0) hx hb dX2_set_14 (by decide) ?_
    refine lv_iload_n hx hb dX2_set_15 rfl (lv_at hl 2 rfl) ?_
    refine lv_iload_n hx hb dX2_set_16 rfl (lv_at hl 3 rfl) ?_
    have hP : va_P (dC, dI) vwCl ((wG g0 r0 p0) ++ (wP cI r0 p0 p1 p2 p3 p4 p5 p6 ki va sp sg sk sv sc og ++ wR cI r0 r1 r2 r3 r4 nu st le te ma ds dl ke)) _ := hP
    have hD : va_D A ((wG g0 r0 p0) ++ (wP cI r0 p0 p1 p2 p3 p4 p5 p6 ki va sp sg sk sv sc og ++ wR cI r0 r1 r2 r3 r4 nu st le te ma ds dl ke)) := hD
    refine m_wVv (As := [.int (nI (rj x)), .int 0, .int v, .int g]) (rest := []) ⟨hx, hb, hml, hown, hts⟩ (c_X0_assign l dC dI cI r0 p0 p1 p2 p3 p4 p5 p6 ki va sp sg sk sv sc og r1 r2 r3 r4 nu st le te ma ds dl ke (rj x) 0 v g hm (by omega) hsc hog hsg (fun j h => Nat.lt_trans (hsp j h) (by decide))) (cwV 4 hts gX2_set_X0_assign rfl rfl rfl (by decide +kernel) ⟨Nat.le_of_ble_eq_true rfl, Nat.le_of_ble_eq_true rfl⟩) hP hK hD hS hA 0 0 rfl rfl rfl hl.1 rfl (Nat.le_of_ble_eq_true rfl) dX2_set_17 ⟨Nat.zero_le _, Nat.zero_le _⟩ (fun u H locs hw hP hD hS => ?_)
    subst hw
    have hP : va_P (dC, dI) vwCl (wG g0 r0 p0 ++ (wP cI r0 p0 p1 p2 p3 p4 p5 p6 ((assignF ma le (rj x) 0 v g ki va sp sg sk sv sc og te ke).1) ((assignF ma le (rj x) 0 v g ki va sp sg sk sv sc og te ke).2.1) ((assignF ma le (rj x) 0 v g ki va sp sg sk sv sc og te ke).2.2.1) ((assignF ma le (rj x) 0 v g ki va sp sg sk sv sc og te ke).2.2.2.1) ((assignF ma le (rj x) 0 v g ki va sp sg sk sv sc og te ke).2.2.2.2.1) ((assignF ma le (rj x) 0 v g ki va sp sg sk sv sc og te ke).2.2.2.2.2.1) ((assignF ma le (rj x) 0 v g ki va sp sg sk sv sc og te ke).2.2.2.2.2.2.1) og ++ wR cI r0 r1 r2 r3 r4 nu st le ((assignF ma le (rj x) 0 v g ki va sp sg sk sv sc og te ke).2.2.2.2.2.2.2.1) ma ds dl ((assignF ma le (rj x) 0 v g ki va sp sg sk sv sc og te ke).2.2.2.2.2.2.2.2))) _ := hP
    have hD : va_D A (wG g0 r0 p0 ++ (wP cI r0 p0 p1 p2 p3 p4 p5 p6 ((assignF ma le (rj x) 0 v g ki va sp sg sk sv sc og te ke).1) ((assignF ma le (rj x) 0 v g ki va sp sg sk sv sc og te ke).2.1) ((assignF ma le (rj x) 0 v g ki va sp sg sk sv sc og te ke).2.2.1) ((assignF ma le (rj x) 0 v g ki va sp sg sk sv sc og te ke).2.2.2.1) ((assignF ma le (rj x) 0 v g ki va sp sg sk sv sc og te ke).2.2.2.2.1) ((assignF ma le (rj x) 0 v g ki va sp sg sk sv sc og te ke).2.2.2.2.2.1) ((assignF ma le (rj x) 0 v g ki va sp sg sk sv sc og te ke).2.2.2.2.2.2.1) og ++ wR cI r0 r1 r2 r3 r4 nu st le ((assignF ma le (rj x) 0 v g ki va sp sg sk sv sc og te ke).2.2.2.2.2.2.2.1) ma ds dl ((assignF ma le (rj x) 0 v g ki va sp sg sk sv sc og te ke).2.2.2.2.2.2.2.2))) := hD
    refine lv_iconst (v := 1) hx hb dX2_set_20 (by decide) ?_
    exact hret 1 (((assignF ma le (rj x) 0 v g ki va sp sg sk sv sc og te ke).1, (assignF ma le (rj x) 0 v g ki va sp sg sk sv sc og te ke).2.1, (assignF ma le (rj x) 0 v g ki va sp sg sk sv sc og te ke).2.2.1, (assignF ma le (rj x) 0 v g ki va sp sg sk sv sc og te ke).2.2.2.1, (assignF ma le (rj x) 0 v g ki va sp sg sk sv sc og te ke).2.2.2.2.1, (assignF ma le (rj x) 0 v g ki va sp sg sk sv sc og te ke).2.2.2.2.2.1, (assignF ma le (rj x) 0 v g ki va sp sg sk sv sc og te ke).2.2.2.2.2.2.1, og, nu, st, le, (assignF ma le (rj x) 0 v g ki va sp sg sk sv sc og te ke).2.2.2.2.2.2.2.1, ma, ds, dl, (assignF ma le (rj x) 0 v g ki va sp sg sk sv sc og te ke).2.2.2.2.2.2.2.2)) (rfl) (by unfold dSet; rw [if_pos hj]; exact ⟨rfl, rfl⟩) hP hD hS dX2_set_21
  · have hj := b2i_0 c4
    refine lv_iconst (v := 0) hx hb dX2_set_7 (by decide) ?_
    exact hret 0 ((ki, va, sp, sg, sk, sv, sc, og, nu, st, le, te, ma, ds, dl, ke)) (rfl) (by unfold dSet; rw [if_neg (by rw [hj]; decide)]; exact ⟨rfl, rfl⟩) hP hD hS dX2_set_8
set_option maxHeartbeats 4000000 in
set_option maxRecDepth 100000 in
theorem c_X2_mean (l : Launch) (dC : Nat → ClassId) (dI : Nat → Nat → Nat) (g0 r0 p0 : Nat) (cI : ClassId) (p1 p2 p3 p4 p5 p6 : Nat) (ki va : Nat → Int32) (sp sg : Nat → Nat) (sk sv : Nat → Int32) (sc og r1 r2 r3 r4 : Nat) (nu : Nat → Int32) (st le : Nat → Nat) (te : Nat → Int32) (ma ds dl : Nat) (ke : Int32) (x k v g : Int32) (hm : ma ≤ 513) (hsc : sc ≤ 512) (hog : og < 2 ^ 31) (hsg : ∀ j, j < sc → sg j < 2 ^ 31) (hsp : ∀ j, j < sc → sp j < 3367) : mWi l yX2_mean wsX2_mean ({ frames := 5, cells := 0, slots := 0, locals := 111 }) (dC, dI) cI [.ref g0, .int x, .int k, .int v, .int g] (wG g0 r0 p0 ++ (wP cI r0 p0 p1 p2 p3 p4 p5 p6 ki va sp sg sk sv sc og ++ wR cI r0 r1 r2 r3 r4 nu st le te ma ds dl ke)) (fun r u => r = (dMean x k v g (ki, va, sp, sg, sk, sv, sc, og, nu, st, le, te, ma, ds, dl, ke)).1 ∧ u = (dMean x k v g (ki, va, sp, sg, sk, sv, sc, og, nu, st, le, te, ma, ds, dl, ke)).2) (fun u : DS => wG g0 r0 p0 ++ (wP cI r0 p0 p1 p2 p3 p4 p5 p6 u.1 u.2.1 u.2.2.1 u.2.2.2.1 u.2.2.2.2.1 u.2.2.2.2.2.1 u.2.2.2.2.2.2.1 u.2.2.2.2.2.2.2.1 ++ wR cI r0 r1 r2 r3 r4 u.2.2.2.2.2.2.2.2.1 u.2.2.2.2.2.2.2.2.2.1 u.2.2.2.2.2.2.2.2.2.2.1 u.2.2.2.2.2.2.2.2.2.2.2.1 u.2.2.2.2.2.2.2.2.2.2.2.2.1 u.2.2.2.2.2.2.2.2.2.2.2.2.2.1 u.2.2.2.2.2.2.2.2.2.2.2.2.2.2.1 u.2.2.2.2.2.2.2.2.2.2.2.2.2.2.2)) := by
  refine m_ofWi (cc := cX2_mean) (maxL := 5) (by decide) rfl (Nat.le_of_ble_eq_true rfl) ?_
  intro p e s m args below meth c ls A Q hx hb hts hown hml hP hK hD hA hS hl hret
  have hown : s.vm.findClass RX2 = some m.cls := hown
  have hl : lv_has ls 5 [(0, .ref g0), (1, .int x), (2, .int k), (3, .int v), (4, .int g)] := hl
  have l21 := hts (.fieldLink RX2 21 "GroupDesk" "places" "LGroupDesk$Places;") (by decide +kernel)
  have iX2 : ∀ w ∈ u_ws RX2 TX2 2, w ∈ wsX2_mean := by decide +kernel
  refine lv_iload_n hx hb dX2_mean_0 rfl (lv_at hl 1 rfl) ?_
  refine m_rS (As := [.int x]) (rest := []) ⟨hx, hb, hml, hown, hts⟩ (c_X2_isName l dC dI cI x) (va_cwS 1 hts gX2_mean_X2_isName rfl rfl rfl (by decide +kernel) ⟨Nat.le_of_ble_eq_true rfl, Nat.le_of_ble_eq_true rfl⟩) ma_nil hK rfl hl.1 rfl (Nat.le_of_ble_eq_true rfl) dX2_mean_1 ⟨Nat.zero_le _, Nat.zero_le _⟩ (fun r hw => ?_)
  subst hw
  refine lv_if_eq (tgt := 14) hx hb dX2_mean_4 (by decide) (fun c4 => ?_) (fun c4 => ?_)
  · have hj := b2i_0 c4
    refine lv_iconst (v := 0) hx hb dX2_mean_14 (by decide) ?_
    exact hret 0 ((ki, va, sp, sg, sk, sv, sc, og, nu, st, le, te, ma, ds, dl, ke)) (rfl) (by unfold dMean; rw [if_neg (by rw [hj, Bool.false_and]; decide)]; exact ⟨rfl, rfl⟩) hP hD hS dX2_mean_15
  · have hj := b2i_n c4
    have hix := isR_of (by decide) hj
    have h7 := hix.1
    refine lv_iload_n hx hb dX2_mean_7 rfl (lv_at hl 2 rfl) ?_
    refine m_rS (As := [.int k]) (rest := []) ⟨hx, hb, hml, hown, hts⟩ (c_X2_isKindWithInt l dC dI cI k) (va_cwS 1 hts gX2_mean_X2_isKindWithInt rfl rfl rfl (by decide +kernel) ⟨Nat.le_of_ble_eq_true rfl, Nat.le_of_ble_eq_true rfl⟩) ma_nil hK rfl hl.1 rfl (Nat.le_of_ble_eq_true rfl) dX2_mean_8 ⟨Nat.zero_le _, Nat.zero_le _⟩ (fun r hw => ?_)
    subst hw
    refine lv_if_ne (tgt := 16) hx hb dX2_mean_11 (by decide) (fun c11 => ?_) (fun c11 => ?_)
    · refine lv_aload_n hx hb dX2_mean_16 rfl (lv_at hl 0 rfl) ?_
      refine va_get (D := (dC, dI)) (ci := 2) (v := .ref p0) (C := RX2) (T := TX2) (N := 2) hx hb hts iX2 hown hK hP 0 rfl rfl 1 (by decide) l21 (fun _ h9 => h9) rfl dX2_mean_17 ?_
      refine lv_sipush (v := nI 2366) hx hb dX2_mean_20 (by decide) ?_
      refine lv_iload_n hx hb dX2_mean_23 rfl (lv_at hl 1 rfl) ?_
      refine lv_iadd hx hb dX2_mean_24 ?_
      refine mv_top (v := nI (2366 + rj x)) (by rw [hix.2, rj_nI (by have := hix.1; omega)]; exact nI_add 2366 _) ?_
      refine lv_iload_n hx hb dX2_mean_25 rfl (lv_at hl 2 rfl) ?_
      refine lv_iload_n hx hb dX2_mean_26 rfl (lv_at hl 3 rfl) ?_
      refine lv_iload hx hb dX2_mean_27 (lv_at hl 4 rfl) ?_
      have hP : va_P (dC, dI) vwCl ((wG g0 r0 p0) ++ (wP cI r0 p0 p1 p2 p3 p4 p5 p6 ki va sp sg sk sv sc og ++ wR cI r0 r1 r2 r3 r4 nu st le te ma ds dl ke)) _ := hP
      have hD : va_D A ((wG g0 r0 p0) ++ (wP cI r0 p0 p1 p2 p3 p4 p5 p6 ki va sp sg sk sv sc og ++ wR cI r0 r1 r2 r3 r4 nu st le te ma ds dl ke)) := hD
      refine m_wVv (As := [.int (nI (2366 + rj x)), .int k, .int v, .int g]) (rest := []) ⟨hx, hb, hml, hown, hts⟩ (c_X0_assign l dC dI cI r0 p0 p1 p2 p3 p4 p5 p6 ki va sp sg sk sv sc og r1 r2 r3 r4 nu st le te ma ds dl ke (2366 + rj x) k v g hm (by omega) hsc hog hsg (fun j h => Nat.lt_trans (hsp j h) (by decide))) (cwV 4 hts gX2_mean_X0_assign rfl rfl rfl (by decide +kernel) ⟨Nat.le_of_ble_eq_true rfl, Nat.le_of_ble_eq_true rfl⟩) hP hK hD hS hA 0 0 rfl rfl rfl hl.1 rfl (Nat.le_of_ble_eq_true rfl) dX2_mean_29 ⟨Nat.zero_le _, Nat.zero_le _⟩ (fun u H locs hw hP hD hS => ?_)
      subst hw
      have hP : va_P (dC, dI) vwCl (wG g0 r0 p0 ++ (wP cI r0 p0 p1 p2 p3 p4 p5 p6 ((assignF ma le (2366 + rj x) k v g ki va sp sg sk sv sc og te ke).1) ((assignF ma le (2366 + rj x) k v g ki va sp sg sk sv sc og te ke).2.1) ((assignF ma le (2366 + rj x) k v g ki va sp sg sk sv sc og te ke).2.2.1) ((assignF ma le (2366 + rj x) k v g ki va sp sg sk sv sc og te ke).2.2.2.1) ((assignF ma le (2366 + rj x) k v g ki va sp sg sk sv sc og te ke).2.2.2.2.1) ((assignF ma le (2366 + rj x) k v g ki va sp sg sk sv sc og te ke).2.2.2.2.2.1) ((assignF ma le (2366 + rj x) k v g ki va sp sg sk sv sc og te ke).2.2.2.2.2.2.1) og ++ wR cI r0 r1 r2 r3 r4 nu st le ((assignF ma le (2366 + rj x) k v g ki va sp sg sk sv sc og te ke).2.2.2.2.2.2.2.1) ma ds dl ((assignF ma le (2366 + rj x) k v g ki va sp sg sk sv sc og te ke).2.2.2.2.2.2.2.2))) _ := hP
      have hD : va_D A (wG g0 r0 p0 ++ (wP cI r0 p0 p1 p2 p3 p4 p5 p6 ((assignF ma le (2366 + rj x) k v g ki va sp sg sk sv sc og te ke).1) ((assignF ma le (2366 + rj x) k v g ki va sp sg sk sv sc og te ke).2.1) ((assignF ma le (2366 + rj x) k v g ki va sp sg sk sv sc og te ke).2.2.1) ((assignF ma le (2366 + rj x) k v g ki va sp sg sk sv sc og te ke).2.2.2.1) ((assignF ma le (2366 + rj x) k v g ki va sp sg sk sv sc og te ke).2.2.2.2.1) ((assignF ma le (2366 + rj x) k v g ki va sp sg sk sv sc og te ke).2.2.2.2.2.1) ((assignF ma le (2366 + rj x) k v g ki va sp sg sk sv sc og te ke).2.2.2.2.2.2.1) og ++ wR cI r0 r1 r2 r3 r4 nu st le ((assignF ma le (2366 + rj x) k v g ki va sp sg sk sv sc og te ke).2.2.2.2.2.2.2.1) ma ds dl ((assignF ma le (2366 + rj x) k v g ki va sp sg sk sv sc og te ke).2.2.2.2.2.2.2.2))) := hD
      refine lv_iconst (v := 1) hx hb dX2_mean_32 (by decide) ?_
      exact hret 1 (((assignF ma le (2366 + rj x) k v g ki va sp sg sk sv sc og te ke).1, (assignF ma le (2366 + rj x) k v g ki va sp sg sk sv sc og te ke).2.1, (assignF ma le (2366 + rj x) k v g ki va sp sg sk sv sc og te ke).2.2.1, (assignF ma le (2366 + rj x) k v g ki va sp sg sk sv sc og te ke).2.2.2.1, (assignF ma le (2366 + rj x) k v g ki va sp sg sk sv sc og te ke).2.2.2.2.1, (assignF ma le (2366 + rj x) k v g ki va sp sg sk sv sc og te ke).2.2.2.2.2.1, (assignF ma le (2366 + rj x) k v g ki va sp sg sk sv sc og te ke).2.2.2.2.2.2.1, og, nu, st, le, (assignF ma le (2366 + rj x) k v g ki va sp sg sk sv sc og te ke).2.2.2.2.2.2.2.1, ma, ds, dl, (assignF ma le (2366 + rj x) k v g ki va sp sg sk sv sc og te ke).2.2.2.2.2.2.2.2)) (rfl) (by unfold dMean; rw [if_pos (by rw [hj, b2i_n c11]; rfl)]; exact ⟨rfl, rfl⟩) hP hD hS dX2_mean_33
    · refine lv_iconst (v := 0) hx hb dX2_mean_14 (by decide) ?_
      exact hret 0 ((ki, va, sp, sg, sk, sv, sc, og, nu, st, le, te, ma, ds, dl, ke)) (rfl) (by unfold dMean; rw [if_neg (by rw [b2i_0 c11, Bool.and_false]; decide)]; exact ⟨rfl, rfl⟩) hP hD hS dX2_mean_15
set_option maxHeartbeats 4000000 in
set_option maxRecDepth 100000 in
theorem c_X2_draft (l : Launch) (dC : Nat → ClassId) (dI : Nat → Nat → Nat) (g0 r0 p0 : Nat) (cI : ClassId) (p1 p2 p3 p4 p5 p6 : Nat) (ki va : Nat → Int32) (sp sg : Nat → Nat) (sk sv : Nat → Int32) (sc og r1 r2 r3 r4 : Nat) (nu : Nat → Int32) (st le : Nat → Nat) (te : Nat → Int32) (ma ds dl : Nat) (ke : Int32) (v : Int32) (hd : ds + dl ≤ 512) : mWi l yX2_draft wsX2_draft ({ frames := 1, cells := 0, slots := 0, locals := 22 }) (dC, dI) cI [.ref g0, .int v] (wG g0 r0 p0 ++ (wP cI r0 p0 p1 p2 p3 p4 p5 p6 ki va sp sg sk sv sc og ++ wR cI r0 r1 r2 r3 r4 nu st le te ma ds dl ke)) (fun r u => r = (dDraft v (ki, va, sp, sg, sk, sv, sc, og, nu, st, le, te, ma, ds, dl, ke)).1 ∧ u = (dDraft v (ki, va, sp, sg, sk, sv, sc, og, nu, st, le, te, ma, ds, dl, ke)).2) (fun u : DS => wG g0 r0 p0 ++ (wP cI r0 p0 p1 p2 p3 p4 p5 p6 u.1 u.2.1 u.2.2.1 u.2.2.2.1 u.2.2.2.2.1 u.2.2.2.2.2.1 u.2.2.2.2.2.2.1 u.2.2.2.2.2.2.2.1 ++ wR cI r0 r1 r2 r3 r4 u.2.2.2.2.2.2.2.2.1 u.2.2.2.2.2.2.2.2.2.1 u.2.2.2.2.2.2.2.2.2.2.1 u.2.2.2.2.2.2.2.2.2.2.2.1 u.2.2.2.2.2.2.2.2.2.2.2.2.1 u.2.2.2.2.2.2.2.2.2.2.2.2.2.1 u.2.2.2.2.2.2.2.2.2.2.2.2.2.2.1 u.2.2.2.2.2.2.2.2.2.2.2.2.2.2.2)) := by
  refine m_ofWi (cc := cX2_draft) (maxL := 2) (by decide) rfl (Nat.le_of_ble_eq_true rfl) ?_
  intro p e s m args below meth c ls A Q hx hb hts hown hml hP hK hD hA hS hl hret
  have hown : s.vm.findClass RX2 = some m.cls := hown
  have hl : lv_has ls 2 [(0, .ref g0), (1, .int v)] := hl
  have l12 := hts (.fieldLink RX2 12 "GroupDesk" "rows" "LGroupDesk$Rows;") (by decide +kernel)
  have iX2 : ∀ w ∈ u_ws RX2 TX2 2, w ∈ wsX2_draft := by decide +kernel
  refine lv_aload_n hx hb dX2_draft_0 rfl (lv_at hl 0 rfl) ?_
  refine va_get (D := (dC, dI)) (ci := 2) (v := .ref r0) (C := RX2) (T := TX2) (N := 2) hx hb hts iX2 hown hK hP 0 rfl rfl 0 (by decide) l12 (fun _ h9 => h9) rfl dX2_draft_1 ?_
  refine lv_iload_n hx hb dX2_draft_4 rfl (lv_at hl 1 rfl) ?_
  have hP : va_P (dC, dI) vwCl ((wG g0 r0 p0 ++ wP cI r0 p0 p1 p2 p3 p4 p5 p6 ki va sp sg sk sv sc og) ++ (wR cI r0 r1 r2 r3 r4 nu st le te ma ds dl ke)) _ := hP
  have hD : va_D A ((wG g0 r0 p0 ++ wP cI r0 p0 p1 p2 p3 p4 p5 p6 ki va sp sg sk sv sc og) ++ (wR cI r0 r1 r2 r3 r4 nu st le te ma ds dl ke)) := hD
  refine m_wVi (As := [.int v]) (rest := []) ⟨hx, hb, hml, hown, hts⟩ (c_X1_join l dC dI cI r0 r1 r2 r3 r4 nu st le te ma ds dl ke v (by omega)) (cwV 1 hts gX2_draft_X1_join rfl rfl rfl (by decide +kernel) ⟨Nat.le_of_ble_eq_true rfl, Nat.le_of_ble_eq_true rfl⟩) hP hK hD hS hA 1 0 rfl rfl rfl hl.1 rfl (Nat.le_of_ble_eq_true rfl) dX2_draft_5 ⟨Nat.zero_le _, Nat.zero_le _⟩ (fun r u H locs hw hP hD hS => ?_)
  obtain ⟨rfl, rfl⟩ := hw
  have hP : va_P (dC, dI) vwCl (wG g0 r0 p0 ++ (wP cI r0 p0 p1 p2 p3 p4 p5 p6 ki va sp sg sk sv sc og ++ wR cI r0 r1 r2 r3 r4 ((joinF nu ds dl v).2.1) st le te ma ds ((joinF nu ds dl v).2.2) ke)) _ := hP
  have hD : va_D A (wG g0 r0 p0 ++ (wP cI r0 p0 p1 p2 p3 p4 p5 p6 ki va sp sg sk sv sc og ++ wR cI r0 r1 r2 r3 r4 ((joinF nu ds dl v).2.1) st le te ma ds ((joinF nu ds dl v).2.2) ke)) := hD
  exact hret ((joinF nu ds dl v).1) ((ki, va, sp, sg, sk, sv, sc, og, (joinF nu ds dl v).2.1, st, le, te, ma, ds, (joinF nu ds dl v).2.2, ke)) (jn_z _ _ _ _) (⟨rfl, rfl⟩) hP hD hS dX2_draft_8
theorem atP_nI (f : Nat → Int32) {j : Nat} (h : j < 3367) : atP f (nI j) = f j := by
  unfold atP
  rw [isR_nI (by decide) h, rj_nI (by omega)]
  rfl
set_option maxHeartbeats 4000000 in
set_option maxRecDepth 100000 in
theorem c_X2_let (l : Launch) (dC : Nat → ClassId) (dI : Nat → Nat → Nat) (g0 r0 p0 : Nat) (cI : ClassId) (p1 p2 p3 p4 p5 p6 : Nat) (ki va : Nat → Int32) (sp sg : Nat → Nat) (sk sv : Nat → Int32) (sc og r1 r2 r3 r4 : Nat) (nu : Nat → Int32) (st le : Nat → Nat) (te : Nat → Int32) (ma ds dl : Nat) (ke : Int32) (x y g : Int32) (hm : ma ≤ 513) (hsc : sc ≤ 512) (hog : og < 2 ^ 31) (hsg : ∀ j, j < sc → sg j < 2 ^ 31) (hsp : ∀ j, j < sc → sp j < 3367) : mWi l yX2_let wsX2_let ({ frames := 5, cells := 0, slots := 0, locals := 111 }) (dC, dI) cI [.ref g0, .int x, .int y, .int g] (wG g0 r0 p0 ++ (wP cI r0 p0 p1 p2 p3 p4 p5 p6 ki va sp sg sk sv sc og ++ wR cI r0 r1 r2 r3 r4 nu st le te ma ds dl ke)) (fun r u => r = (dLet x y g (ki, va, sp, sg, sk, sv, sc, og, nu, st, le, te, ma, ds, dl, ke)).1 ∧ u = (dLet x y g (ki, va, sp, sg, sk, sv, sc, og, nu, st, le, te, ma, ds, dl, ke)).2) (fun u : DS => wG g0 r0 p0 ++ (wP cI r0 p0 p1 p2 p3 p4 p5 p6 u.1 u.2.1 u.2.2.1 u.2.2.2.1 u.2.2.2.2.1 u.2.2.2.2.2.1 u.2.2.2.2.2.2.1 u.2.2.2.2.2.2.2.1 ++ wR cI r0 r1 r2 r3 r4 u.2.2.2.2.2.2.2.2.1 u.2.2.2.2.2.2.2.2.2.1 u.2.2.2.2.2.2.2.2.2.2.1 u.2.2.2.2.2.2.2.2.2.2.2.1 u.2.2.2.2.2.2.2.2.2.2.2.2.1 u.2.2.2.2.2.2.2.2.2.2.2.2.2.1 u.2.2.2.2.2.2.2.2.2.2.2.2.2.2.1 u.2.2.2.2.2.2.2.2.2.2.2.2.2.2.2)) := by
  refine m_ofWi (cc := cX2_let) (maxL := 5) (by decide) rfl (Nat.le_of_ble_eq_true rfl) ?_
  intro p e s m args below meth c ls A Q hx hb hts hown hml hP hK hD hA hS hl hret
  have hown : s.vm.findClass RX2 = some m.cls := hown
  have hl : lv_has ls 5 [(0, .ref g0), (1, .int x), (2, .int y), (3, .int g)] := hl
  have l21 := hts (.fieldLink RX2 21 "GroupDesk" "places" "LGroupDesk$Places;") (by decide +kernel)
  have iX2 : ∀ w ∈ u_ws RX2 TX2 2, w ∈ wsX2_let := by decide +kernel
  refine lv_iload_n hx hb dX2_let_0 rfl (lv_at hl 1 rfl) ?_
  refine m_rS (As := [.int x]) (rest := []) ⟨hx, hb, hml, hown, hts⟩ (c_X2_isName l dC dI cI x) (va_cwS 1 hts gX2_let_X2_isName rfl rfl rfl (by decide +kernel) ⟨Nat.le_of_ble_eq_true rfl, Nat.le_of_ble_eq_true rfl⟩) ma_nil hK rfl hl.1 rfl (Nat.le_of_ble_eq_true rfl) dX2_let_1 ⟨Nat.zero_le _, Nat.zero_le _⟩ (fun r hw => ?_)
  subst hw
  refine lv_if_eq (tgt := 14) hx hb dX2_let_4 (by decide) (fun c4 => ?_) (fun c4 => ?_)
  · have hj := b2i_0 c4
    refine lv_iconst (v := 0) hx hb dX2_let_14 (by decide) ?_
    exact hret 0 ((ki, va, sp, sg, sk, sv, sc, og, nu, st, le, te, ma, ds, dl, ke)) (rfl) (by unfold dLet; rw [if_neg (by rw [hj, Bool.false_and]; decide)]; exact ⟨rfl, rfl⟩) hP hD hS dX2_let_15
  · have hj := b2i_n c4
    have hix := isR_of (by decide) hj
    have h7 := hix.1
    refine lv_iload_n hx hb dX2_let_7 rfl (lv_at hl 2 rfl) ?_
    refine m_rS (As := [.int y]) (rest := []) ⟨hx, hb, hml, hown, hts⟩ (c_X2_isName l dC dI cI y) (va_cwS 1 hts gX2_let_X2_isName rfl rfl rfl (by decide +kernel) ⟨Nat.le_of_ble_eq_true rfl, Nat.le_of_ble_eq_true rfl⟩) ma_nil hK rfl hl.1 rfl (Nat.le_of_ble_eq_true rfl) dX2_let_8 ⟨Nat.zero_le _, Nat.zero_le _⟩ (fun r hw => ?_)
    subst hw
    refine lv_if_ne (tgt := 16) hx hb dX2_let_11 (by decide) (fun c11 => ?_) (fun c11 => ?_)
    · have hj2 := b2i_n c11
      have hiy := isR_of (by decide) hj2
      have h8 := hiy.1
      refine lv_sipush (v := nI 2366) hx hb dX2_let_16 (by decide) ?_
      refine lv_iload_n hx hb dX2_let_19 rfl (lv_at hl 2 rfl) ?_
      refine lv_iadd hx hb dX2_let_20 ?_
      refine mv_top (v := nI (2366 + rj y)) (by rw [hiy.2, rj_nI (by have := hiy.1; omega)]; exact nI_add 2366 _) ?_
      refine lv_istore (lv' := [(4, .int (nI (2366 + rj y))), (0, .ref g0), (1, .int x), (2, .int y), (3, .int g)]) hx hb dX2_let_21 hl (by decide) rfl (fun ls hl => ?_)
      refine lv_aload_n hx hb dX2_let_23 rfl (lv_at hl 1 rfl) ?_
      refine va_get (D := (dC, dI)) (ci := 2) (v := .ref p0) (C := RX2) (T := TX2) (N := 2) hx hb hts iX2 hown hK hP 0 rfl rfl 1 (by decide) l21 (fun _ h9 => h9) rfl dX2_let_24 ?_
      refine lv_sipush (v := nI 2366) hx hb dX2_let_27 (by decide) ?_
      refine lv_iload_n hx hb dX2_let_30 rfl (lv_at hl 2 rfl) ?_
      refine lv_iadd hx hb dX2_let_31 ?_
      refine mv_top (v := nI (2366 + rj x)) (by rw [hix.2, rj_nI (by have := hix.1; omega)]; exact nI_add 2366 _) ?_
      refine lv_aload_n hx hb dX2_let_32 rfl (lv_at hl 1 rfl) ?_
      refine va_get (D := (dC, dI)) (ci := 2) (v := .ref p0) (C := RX2) (T := TX2) (N := 2) hx hb hts iX2 hown hK hP 0 rfl rfl 1 (by decide) l21 (fun _ h9 => h9) rfl dX2_let_33 ?_
      refine lv_iload hx hb dX2_let_36 (lv_at hl 0 rfl) ?_
      refine m_rV (As := [.int (nI (2366 + rj y))]) (rest := [.int (nI (2366 + rj x)), .ref p0]) ⟨hx, hb, hml, hown, hts⟩ (c_X0_kindAt l dC dI cI r0 p0 p1 p2 p3 p4 p5 p6 ki va sp sg sk sv sc og (nI (2366 + rj y))) (cwV 1 hts gX2_let_X0_kindAt rfl rfl rfl (by decide +kernel) ⟨Nat.le_of_ble_eq_true rfl, Nat.le_of_ble_eq_true rfl⟩) (ma_Pl (ma_P hP)) hK 0 0 rfl rfl rfl hl.1 rfl (Nat.le_of_ble_eq_true rfl) dX2_let_38 ⟨Nat.zero_le _, Nat.zero_le _⟩ (fun r hw => ?_)
      subst hw
      refine mv_top (v := ki (2366 + rj y)) (atP_nI _ (by omega)) ?_
      refine lv_aload_n hx hb dX2_let_41 rfl (lv_at hl 1 rfl) ?_
      refine va_get (D := (dC, dI)) (ci := 2) (v := .ref p0) (C := RX2) (T := TX2) (N := 2) hx hb hts iX2 hown hK hP 0 rfl rfl 1 (by decide) l21 (fun _ h9 => h9) rfl dX2_let_42 ?_
      refine lv_iload hx hb dX2_let_45 (lv_at hl 0 rfl) ?_
      refine m_rV (As := [.int (nI (2366 + rj y))]) (rest := [.int (ki (2366 + rj y)), .int (nI (2366 + rj x)), .ref p0]) ⟨hx, hb, hml, hown, hts⟩ (c_X0_valueAt l dC dI cI r0 p0 p1 p2 p3 p4 p5 p6 ki va sp sg sk sv sc og (nI (2366 + rj y))) (cwV 1 hts gX2_let_X0_valueAt rfl rfl rfl (by decide +kernel) ⟨Nat.le_of_ble_eq_true rfl, Nat.le_of_ble_eq_true rfl⟩) (ma_Pl (ma_P hP)) hK 0 0 rfl rfl rfl hl.1 rfl (Nat.le_of_ble_eq_true rfl) dX2_let_47 ⟨Nat.zero_le _, Nat.zero_le _⟩ (fun r hw => ?_)
      subst hw
      refine mv_top (v := va (2366 + rj y)) (atP_nI _ (by omega)) ?_
      refine lv_iload_n hx hb dX2_let_50 rfl (lv_at hl 4 rfl) ?_
      have hP : va_P (dC, dI) vwCl ((wG g0 r0 p0) ++ (wP cI r0 p0 p1 p2 p3 p4 p5 p6 ki va sp sg sk sv sc og ++ wR cI r0 r1 r2 r3 r4 nu st le te ma ds dl ke)) _ := hP
      have hD : va_D A ((wG g0 r0 p0) ++ (wP cI r0 p0 p1 p2 p3 p4 p5 p6 ki va sp sg sk sv sc og ++ wR cI r0 r1 r2 r3 r4 nu st le te ma ds dl ke)) := hD
      refine m_wVv (As := [.int (nI (2366 + rj x)), .int (ki (2366 + rj y)), .int (va (2366 + rj y)), .int g]) (rest := []) ⟨hx, hb, hml, hown, hts⟩ (c_X0_assign l dC dI cI r0 p0 p1 p2 p3 p4 p5 p6 ki va sp sg sk sv sc og r1 r2 r3 r4 nu st le te ma ds dl ke (2366 + rj x) (ki (2366 + rj y)) (va (2366 + rj y)) g hm (by omega) hsc hog hsg (fun j h => Nat.lt_trans (hsp j h) (by decide))) (cwV 4 hts gX2_let_X0_assign rfl rfl rfl (by decide +kernel) ⟨Nat.le_of_ble_eq_true rfl, Nat.le_of_ble_eq_true rfl⟩) hP hK hD hS hA 0 0 rfl rfl rfl hl.1 rfl (Nat.le_of_ble_eq_true rfl) dX2_let_51 ⟨Nat.zero_le _, Nat.zero_le _⟩ (fun u H locs hw hP hD hS => ?_)
      subst hw
      have hP : va_P (dC, dI) vwCl (wG g0 r0 p0 ++ (wP cI r0 p0 p1 p2 p3 p4 p5 p6 ((assignF ma le (2366 + rj x) (ki (2366 + rj y)) (va (2366 + rj y)) g ki va sp sg sk sv sc og te ke).1) ((assignF ma le (2366 + rj x) (ki (2366 + rj y)) (va (2366 + rj y)) g ki va sp sg sk sv sc og te ke).2.1) ((assignF ma le (2366 + rj x) (ki (2366 + rj y)) (va (2366 + rj y)) g ki va sp sg sk sv sc og te ke).2.2.1) ((assignF ma le (2366 + rj x) (ki (2366 + rj y)) (va (2366 + rj y)) g ki va sp sg sk sv sc og te ke).2.2.2.1) ((assignF ma le (2366 + rj x) (ki (2366 + rj y)) (va (2366 + rj y)) g ki va sp sg sk sv sc og te ke).2.2.2.2.1) ((assignF ma le (2366 + rj x) (ki (2366 + rj y)) (va (2366 + rj y)) g ki va sp sg sk sv sc og te ke).2.2.2.2.2.1) ((assignF ma le (2366 + rj x) (ki (2366 + rj y)) (va (2366 + rj y)) g ki va sp sg sk sv sc og te ke).2.2.2.2.2.2.1) og ++ wR cI r0 r1 r2 r3 r4 nu st le ((assignF ma le (2366 + rj x) (ki (2366 + rj y)) (va (2366 + rj y)) g ki va sp sg sk sv sc og te ke).2.2.2.2.2.2.2.1) ma ds dl ((assignF ma le (2366 + rj x) (ki (2366 + rj y)) (va (2366 + rj y)) g ki va sp sg sk sv sc og te ke).2.2.2.2.2.2.2.2))) _ := hP
      have hD : va_D A (wG g0 r0 p0 ++ (wP cI r0 p0 p1 p2 p3 p4 p5 p6 ((assignF ma le (2366 + rj x) (ki (2366 + rj y)) (va (2366 + rj y)) g ki va sp sg sk sv sc og te ke).1) ((assignF ma le (2366 + rj x) (ki (2366 + rj y)) (va (2366 + rj y)) g ki va sp sg sk sv sc og te ke).2.1) ((assignF ma le (2366 + rj x) (ki (2366 + rj y)) (va (2366 + rj y)) g ki va sp sg sk sv sc og te ke).2.2.1) ((assignF ma le (2366 + rj x) (ki (2366 + rj y)) (va (2366 + rj y)) g ki va sp sg sk sv sc og te ke).2.2.2.1) ((assignF ma le (2366 + rj x) (ki (2366 + rj y)) (va (2366 + rj y)) g ki va sp sg sk sv sc og te ke).2.2.2.2.1) ((assignF ma le (2366 + rj x) (ki (2366 + rj y)) (va (2366 + rj y)) g ki va sp sg sk sv sc og te ke).2.2.2.2.2.1) ((assignF ma le (2366 + rj x) (ki (2366 + rj y)) (va (2366 + rj y)) g ki va sp sg sk sv sc og te ke).2.2.2.2.2.2.1) og ++ wR cI r0 r1 r2 r3 r4 nu st le ((assignF ma le (2366 + rj x) (ki (2366 + rj y)) (va (2366 + rj y)) g ki va sp sg sk sv sc og te ke).2.2.2.2.2.2.2.1) ma ds dl ((assignF ma le (2366 + rj x) (ki (2366 + rj y)) (va (2366 + rj y)) g ki va sp sg sk sv sc og te ke).2.2.2.2.2.2.2.2))) := hD
      refine lv_iconst (v := 1) hx hb dX2_let_54 (by decide) ?_
      exact hret 1 (((assignF ma le (2366 + rj x) (ki (2366 + rj y)) (va (2366 + rj y)) g ki va sp sg sk sv sc og te ke).1, (assignF ma le (2366 + rj x) (ki (2366 + rj y)) (va (2366 + rj y)) g ki va sp sg sk sv sc og te ke).2.1, (assignF ma le (2366 + rj x) (ki (2366 + rj y)) (va (2366 + rj y)) g ki va sp sg sk sv sc og te ke).2.2.1, (assignF ma le (2366 + rj x) (ki (2366 + rj y)) (va (2366 + rj y)) g ki va sp sg sk sv sc og te ke).2.2.2.1, (assignF ma le (2366 + rj x) (ki (2366 + rj y)) (va (2366 + rj y)) g ki va sp sg sk sv sc og te ke).2.2.2.2.1, (assignF ma le (2366 + rj x) (ki (2366 + rj y)) (va (2366 + rj y)) g ki va sp sg sk sv sc og te ke).2.2.2.2.2.1, (assignF ma le (2366 + rj x) (ki (2366 + rj y)) (va (2366 + rj y)) g ki va sp sg sk sv sc og te ke).2.2.2.2.2.2.1, og, nu, st, le, (assignF ma le (2366 + rj x) (ki (2366 + rj y)) (va (2366 + rj y)) g ki va sp sg sk sv sc og te ke).2.2.2.2.2.2.2.1, ma, ds, dl, (assignF ma le (2366 + rj x) (ki (2366 + rj y)) (va (2366 + rj y)) g ki va sp sg sk sv sc og te ke).2.2.2.2.2.2.2.2)) (rfl) (by unfold dLet; rw [if_pos (by rw [hj, hj2]; rfl)]; exact ⟨rfl, rfl⟩) hP hD hS dX2_let_55
    · have hj2 := b2i_0 c11
      refine lv_iconst (v := 0) hx hb dX2_let_14 (by decide) ?_
      exact hret 0 ((ki, va, sp, sg, sk, sv, sc, og, nu, st, le, te, ma, ds, dl, ke)) (rfl) (by unfold dLet; rw [if_neg (by rw [hj2, Bool.and_false]; decide)]; exact ⟨rfl, rfl⟩) hP hD hS dX2_let_15
set_option maxHeartbeats 4000000 in
set_option maxRecDepth 100000 in
theorem c_X2_shape (l : Launch) (dC : Nat → ClassId) (dI : Nat → Nat → Nat) (g0 r0 p0 : Nat) (cI : ClassId) (p1 p2 p3 p4 p5 p6 : Nat) (ki va : Nat → Int32) (sp sg : Nat → Nat) (sk sv : Nat → Int32) (sc og r1 r2 r3 r4 : Nat) (nu : Nat → Int32) (st le : Nat → Nat) (te : Nat → Int32) (ma ds dl : Nat) (ke : Int32) (g : Int32) (hm : ma ≤ 513) (hsc : sc ≤ 512) (hog : og < 2 ^ 31) (hsg : ∀ j, j < sc → sg j < 2 ^ 31) (hsp : ∀ j, j < sc → sp j < 3367) (hd : ds + dl ≤ 512) : mWi l yX2_shape wsX2_shape ({ frames := 5, cells := 0, slots := 0, locals := 111 }) (dC, dI) cI [.ref g0, .int g] (wG g0 r0 p0 ++ (wP cI r0 p0 p1 p2 p3 p4 p5 p6 ki va sp sg sk sv sc og ++ wR cI r0 r1 r2 r3 r4 nu st le te ma ds dl ke)) (fun r u => r = (dShape g (ki, va, sp, sg, sk, sv, sc, og, nu, st, le, te, ma, ds, dl, ke)).1 ∧ u = (dShape g (ki, va, sp, sg, sk, sv, sc, og, nu, st, le, te, ma, ds, dl, ke)).2) (fun u : DS => wG g0 r0 p0 ++ (wP cI r0 p0 p1 p2 p3 p4 p5 p6 u.1 u.2.1 u.2.2.1 u.2.2.2.1 u.2.2.2.2.1 u.2.2.2.2.2.1 u.2.2.2.2.2.2.1 u.2.2.2.2.2.2.2.1 ++ wR cI r0 r1 r2 r3 r4 u.2.2.2.2.2.2.2.2.1 u.2.2.2.2.2.2.2.2.2.1 u.2.2.2.2.2.2.2.2.2.2.1 u.2.2.2.2.2.2.2.2.2.2.2.1 u.2.2.2.2.2.2.2.2.2.2.2.2.1 u.2.2.2.2.2.2.2.2.2.2.2.2.2.1 u.2.2.2.2.2.2.2.2.2.2.2.2.2.2.1 u.2.2.2.2.2.2.2.2.2.2.2.2.2.2.2)) := by
  refine m_ofWi (cc := cX2_shape) (maxL := 3) (by decide) rfl (Nat.le_of_ble_eq_true rfl) ?_
  intro p e s m args below meth c ls A Q hx hb hts hown hml hP hK hD hA hS hl hret
  have hown : s.vm.findClass RX2 = some m.cls := hown
  have hl : lv_has ls 3 [(0, .ref g0), (1, .int g)] := hl
  have l12 := hts (.fieldLink RX2 12 "GroupDesk" "rows" "LGroupDesk$Rows;") (by decide +kernel)
  have l21 := hts (.fieldLink RX2 21 "GroupDesk" "places" "LGroupDesk$Places;") (by decide +kernel)
  have iX2 : ∀ w ∈ u_ws RX2 TX2 2, w ∈ wsX2_shape := by decide +kernel
  refine lv_aload_n hx hb dX2_shape_0 rfl (lv_at hl 0 rfl) ?_
  refine va_get (D := (dC, dI)) (ci := 2) (v := .ref r0) (C := RX2) (T := TX2) (N := 2) hx hb hts iX2 hown hK hP 0 rfl rfl 0 (by decide) l12 (fun _ h9 => h9) rfl dX2_shape_1 ?_
  have hP : va_P (dC, dI) vwCl ((wG g0 r0 p0 ++ wP cI r0 p0 p1 p2 p3 p4 p5 p6 ki va sp sg sk sv sc og) ++ (wR cI r0 r1 r2 r3 r4 nu st le te ma ds dl ke)) _ := hP
  have hD : va_D A ((wG g0 r0 p0 ++ wP cI r0 p0 p1 p2 p3 p4 p5 p6 ki va sp sg sk sv sc og) ++ (wR cI r0 r1 r2 r3 r4 nu st le te ma ds dl ke)) := hD
  refine m_wVi (As := []) (rest := []) ⟨hx, hb, hml, hown, hts⟩ (c_X1_takeDraft l dC dI cI r0 r1 r2 r3 r4 nu st le te ma ds dl ke hm hd) (cwV 0 hts gX2_shape_X1_takeDraft rfl rfl rfl (by decide +kernel) ⟨Nat.le_of_ble_eq_true rfl, Nat.le_of_ble_eq_true rfl⟩) hP hK hD hS hA 1 0 rfl rfl rfl hl.1 rfl (Nat.le_of_ble_eq_true rfl) dX2_shape_4 ⟨Nat.zero_le _, Nat.zero_le _⟩ (fun r u H locs hw hP hD hS => ?_)
  obtain ⟨rfl, rfl⟩ := hw
  have hP : va_P (dC, dI) vwCl (wG g0 r0 p0 ++ (wP cI r0 p0 p1 p2 p3 p4 p5 p6 ki va sp sg sk sv sc og ++ wR cI r0 r1 r2 r3 r4 nu ((takeF st le ma ds dl).2.1) ((takeF st le ma ds dl).2.2.1) te ((takeF st le ma ds dl).2.2.2.1) ((takeF st le ma ds dl).2.2.2.2.1) ((takeF st le ma ds dl).2.2.2.2.2) ke)) _ := hP
  have hD : va_D A (wG g0 r0 p0 ++ (wP cI r0 p0 p1 p2 p3 p4 p5 p6 ki va sp sg sk sv sc og ++ wR cI r0 r1 r2 r3 r4 nu ((takeF st le ma ds dl).2.1) ((takeF st le ma ds dl).2.2.1) te ((takeF st le ma ds dl).2.2.2.1) ((takeF st le ma ds dl).2.2.2.2.1) ((takeF st le ma ds dl).2.2.2.2.2) ke)) := hD
  refine lv_istore_n (lv' := [(2, .int ((takeF st le ma ds dl).1)), (0, .ref g0), (1, .int g)]) hx hb dX2_shape_7 rfl hl (by decide) rfl (fun ls hl => ?_)
  refine lv_aload_n hx hb dX2_shape_8 rfl (lv_at hl 1 rfl) ?_
  refine va_get (D := (dC, dI)) (ci := 2) (v := .ref p0) (C := RX2) (T := TX2) (N := 2) hx hb hts iX2 hown hK hP 0 rfl rfl 1 (by decide) l21 (fun _ h9 => h9) rfl dX2_shape_9 ?_
  refine lv_sipush (v := nI 3366) hx hb dX2_shape_12 (by decide) ?_
  refine lv_iconst (v := 0) hx hb dX2_shape_15 (by decide) ?_
  refine lv_iload_n hx hb dX2_shape_16 rfl (lv_at hl 0 rfl) ?_
  refine lv_iload_n hx hb dX2_shape_17 rfl (lv_at hl 2 rfl) ?_
  have hP : va_P (dC, dI) vwCl ((wG g0 r0 p0) ++ (wP cI r0 p0 p1 p2 p3 p4 p5 p6 ki va sp sg sk sv sc og ++ wR cI r0 r1 r2 r3 r4 nu ((takeF st le ma ds dl).2.1) ((takeF st le ma ds dl).2.2.1) te ((takeF st le ma ds dl).2.2.2.1) ((takeF st le ma ds dl).2.2.2.2.1) ((takeF st le ma ds dl).2.2.2.2.2) ke)) _ := hP
  have hD : va_D A ((wG g0 r0 p0) ++ (wP cI r0 p0 p1 p2 p3 p4 p5 p6 ki va sp sg sk sv sc og ++ wR cI r0 r1 r2 r3 r4 nu ((takeF st le ma ds dl).2.1) ((takeF st le ma ds dl).2.2.1) te ((takeF st le ma ds dl).2.2.2.1) ((takeF st le ma ds dl).2.2.2.2.1) ((takeF st le ma ds dl).2.2.2.2.2) ke)) := hD
  refine m_wVv (As := [.int (nI 3366), .int 0, .int ((takeF st le ma ds dl).1), .int g]) (rest := []) ⟨hx, hb, hml, hown, hts⟩ (c_X0_assign l dC dI cI r0 p0 p1 p2 p3 p4 p5 p6 ki va sp sg sk sv sc og r1 r2 r3 r4 nu ((takeF st le ma ds dl).2.1) ((takeF st le ma ds dl).2.2.1) te ((takeF st le ma ds dl).2.2.2.1) ((takeF st le ma ds dl).2.2.2.2.1) ((takeF st le ma ds dl).2.2.2.2.2) ke 3366 0 ((takeF st le ma ds dl).1) g (takeF_ma hm) (by omega) hsc hog hsg (fun j h => Nat.lt_trans (hsp j h) (by decide))) (cwV 4 hts gX2_shape_X0_assign rfl rfl rfl (by decide +kernel) ⟨Nat.le_of_ble_eq_true rfl, Nat.le_of_ble_eq_true rfl⟩) hP hK hD hS hA 0 0 rfl rfl rfl hl.1 rfl (Nat.le_of_ble_eq_true rfl) dX2_shape_18 ⟨Nat.zero_le _, Nat.zero_le _⟩ (fun u H locs hw hP hD hS => ?_)
  subst hw
  have hP : va_P (dC, dI) vwCl (wG g0 r0 p0 ++ (wP cI r0 p0 p1 p2 p3 p4 p5 p6 ((assignF ((takeF st le ma ds dl).2.2.2.1) ((takeF st le ma ds dl).2.2.1) 3366 0 ((takeF st le ma ds dl).1) g ki va sp sg sk sv sc og te ke).1) ((assignF ((takeF st le ma ds dl).2.2.2.1) ((takeF st le ma ds dl).2.2.1) 3366 0 ((takeF st le ma ds dl).1) g ki va sp sg sk sv sc og te ke).2.1) ((assignF ((takeF st le ma ds dl).2.2.2.1) ((takeF st le ma ds dl).2.2.1) 3366 0 ((takeF st le ma ds dl).1) g ki va sp sg sk sv sc og te ke).2.2.1) ((assignF ((takeF st le ma ds dl).2.2.2.1) ((takeF st le ma ds dl).2.2.1) 3366 0 ((takeF st le ma ds dl).1) g ki va sp sg sk sv sc og te ke).2.2.2.1) ((assignF ((takeF st le ma ds dl).2.2.2.1) ((takeF st le ma ds dl).2.2.1) 3366 0 ((takeF st le ma ds dl).1) g ki va sp sg sk sv sc og te ke).2.2.2.2.1) ((assignF ((takeF st le ma ds dl).2.2.2.1) ((takeF st le ma ds dl).2.2.1) 3366 0 ((takeF st le ma ds dl).1) g ki va sp sg sk sv sc og te ke).2.2.2.2.2.1) ((assignF ((takeF st le ma ds dl).2.2.2.1) ((takeF st le ma ds dl).2.2.1) 3366 0 ((takeF st le ma ds dl).1) g ki va sp sg sk sv sc og te ke).2.2.2.2.2.2.1) og ++ wR cI r0 r1 r2 r3 r4 nu ((takeF st le ma ds dl).2.1) ((takeF st le ma ds dl).2.2.1) ((assignF ((takeF st le ma ds dl).2.2.2.1) ((takeF st le ma ds dl).2.2.1) 3366 0 ((takeF st le ma ds dl).1) g ki va sp sg sk sv sc og te ke).2.2.2.2.2.2.2.1) ((takeF st le ma ds dl).2.2.2.1) ((takeF st le ma ds dl).2.2.2.2.1) ((takeF st le ma ds dl).2.2.2.2.2) ((assignF ((takeF st le ma ds dl).2.2.2.1) ((takeF st le ma ds dl).2.2.1) 3366 0 ((takeF st le ma ds dl).1) g ki va sp sg sk sv sc og te ke).2.2.2.2.2.2.2.2))) _ := hP
  have hD : va_D A (wG g0 r0 p0 ++ (wP cI r0 p0 p1 p2 p3 p4 p5 p6 ((assignF ((takeF st le ma ds dl).2.2.2.1) ((takeF st le ma ds dl).2.2.1) 3366 0 ((takeF st le ma ds dl).1) g ki va sp sg sk sv sc og te ke).1) ((assignF ((takeF st le ma ds dl).2.2.2.1) ((takeF st le ma ds dl).2.2.1) 3366 0 ((takeF st le ma ds dl).1) g ki va sp sg sk sv sc og te ke).2.1) ((assignF ((takeF st le ma ds dl).2.2.2.1) ((takeF st le ma ds dl).2.2.1) 3366 0 ((takeF st le ma ds dl).1) g ki va sp sg sk sv sc og te ke).2.2.1) ((assignF ((takeF st le ma ds dl).2.2.2.1) ((takeF st le ma ds dl).2.2.1) 3366 0 ((takeF st le ma ds dl).1) g ki va sp sg sk sv sc og te ke).2.2.2.1) ((assignF ((takeF st le ma ds dl).2.2.2.1) ((takeF st le ma ds dl).2.2.1) 3366 0 ((takeF st le ma ds dl).1) g ki va sp sg sk sv sc og te ke).2.2.2.2.1) ((assignF ((takeF st le ma ds dl).2.2.2.1) ((takeF st le ma ds dl).2.2.1) 3366 0 ((takeF st le ma ds dl).1) g ki va sp sg sk sv sc og te ke).2.2.2.2.2.1) ((assignF ((takeF st le ma ds dl).2.2.2.1) ((takeF st le ma ds dl).2.2.1) 3366 0 ((takeF st le ma ds dl).1) g ki va sp sg sk sv sc og te ke).2.2.2.2.2.2.1) og ++ wR cI r0 r1 r2 r3 r4 nu ((takeF st le ma ds dl).2.1) ((takeF st le ma ds dl).2.2.1) ((assignF ((takeF st le ma ds dl).2.2.2.1) ((takeF st le ma ds dl).2.2.1) 3366 0 ((takeF st le ma ds dl).1) g ki va sp sg sk sv sc og te ke).2.2.2.2.2.2.2.1) ((takeF st le ma ds dl).2.2.2.1) ((takeF st le ma ds dl).2.2.2.2.1) ((takeF st le ma ds dl).2.2.2.2.2) ((assignF ((takeF st le ma ds dl).2.2.2.1) ((takeF st le ma ds dl).2.2.1) 3366 0 ((takeF st le ma ds dl).1) g ki va sp sg sk sv sc og te ke).2.2.2.2.2.2.2.2))) := hD
  refine lv_aload_n hx hb dX2_shape_21 rfl (lv_at hl 1 rfl) ?_
  refine va_get (D := (dC, dI)) (ci := 2) (v := .ref r0) (C := RX2) (T := TX2) (N := 2) hx hb hts iX2 hown hK hP 0 rfl rfl 0 (by decide) l12 (fun _ h9 => h9) rfl dX2_shape_22 ?_
  refine lv_iload_n hx hb dX2_shape_25 rfl (lv_at hl 0 rfl) ?_
  refine m_rV (As := [.int ((takeF st le ma ds dl).1)]) (rest := []) ⟨hx, hb, hml, hown, hts⟩ (c_X1_lengthOf l dC dI cI r0 r1 r2 r3 r4 nu ((takeF st le ma ds dl).2.1) ((takeF st le ma ds dl).2.2.1) ((assignF ((takeF st le ma ds dl).2.2.2.1) ((takeF st le ma ds dl).2.2.1) 3366 0 ((takeF st le ma ds dl).1) g ki va sp sg sk sv sc og te ke).2.2.2.2.2.2.2.1) ((takeF st le ma ds dl).2.2.2.1) ((takeF st le ma ds dl).2.2.2.2.1) ((takeF st le ma ds dl).2.2.2.2.2) ((assignF ((takeF st le ma ds dl).2.2.2.1) ((takeF st le ma ds dl).2.2.1) 3366 0 ((takeF st le ma ds dl).1) g ki va sp sg sk sv sc og te ke).2.2.2.2.2.2.2.2) ((takeF st le ma ds dl).1) (takeF_ma hm)) (cwV 1 hts gX2_shape_X1_lengthOf rfl rfl rfl (by decide +kernel) ⟨Nat.le_of_ble_eq_true rfl, Nat.le_of_ble_eq_true rfl⟩) (ma_P (ma_P hP)) hK 1 0 rfl rfl rfl hl.1 rfl (Nat.le_of_ble_eq_true rfl) dX2_shape_26 ⟨Nat.zero_le _, Nat.zero_le _⟩ (fun r hw => ?_)
  subst hw
  exact hret (lenR ((takeF st le ma ds dl).2.2.2.1) ((takeF st le ma ds dl).2.2.1) ((takeF st le ma ds dl).1)) (((assignF ((takeF st le ma ds dl).2.2.2.1) ((takeF st le ma ds dl).2.2.1) 3366 0 ((takeF st le ma ds dl).1) g ki va sp sg sk sv sc og te ke).1, (assignF ((takeF st le ma ds dl).2.2.2.1) ((takeF st le ma ds dl).2.2.1) 3366 0 ((takeF st le ma ds dl).1) g ki va sp sg sk sv sc og te ke).2.1, (assignF ((takeF st le ma ds dl).2.2.2.1) ((takeF st le ma ds dl).2.2.1) 3366 0 ((takeF st le ma ds dl).1) g ki va sp sg sk sv sc og te ke).2.2.1, (assignF ((takeF st le ma ds dl).2.2.2.1) ((takeF st le ma ds dl).2.2.1) 3366 0 ((takeF st le ma ds dl).1) g ki va sp sg sk sv sc og te ke).2.2.2.1, (assignF ((takeF st le ma ds dl).2.2.2.1) ((takeF st le ma ds dl).2.2.1) 3366 0 ((takeF st le ma ds dl).1) g ki va sp sg sk sv sc og te ke).2.2.2.2.1, (assignF ((takeF st le ma ds dl).2.2.2.1) ((takeF st le ma ds dl).2.2.1) 3366 0 ((takeF st le ma ds dl).1) g ki va sp sg sk sv sc og te ke).2.2.2.2.2.1, (assignF ((takeF st le ma ds dl).2.2.2.1) ((takeF st le ma ds dl).2.2.1) 3366 0 ((takeF st le ma ds dl).1) g ki va sp sg sk sv sc og te ke).2.2.2.2.2.2.1, og, nu, (takeF st le ma ds dl).2.1, (takeF st le ma ds dl).2.2.1, (assignF ((takeF st le ma ds dl).2.2.2.1) ((takeF st le ma ds dl).2.2.1) 3366 0 ((takeF st le ma ds dl).1) g ki va sp sg sk sv sc og te ke).2.2.2.2.2.2.2.1, (takeF st le ma ds dl).2.2.2.1, (takeF st le ma ds dl).2.2.2.2.1, (takeF st le ma ds dl).2.2.2.2.2, (assignF ((takeF st le ma ds dl).2.2.2.1) ((takeF st le ma ds dl).2.2.1) 3366 0 ((takeF st le ma ds dl).1) g ki va sp sg sk sv sc og te ke).2.2.2.2.2.2.2.2)) (rfl) (⟨rfl, rfl⟩) hP hD hS dX2_shape_29
theorem sw_out {x : Int32} (h0 : ¬ x = 0) (h1 : ¬ x = 1) (h2 : ¬ x = 2) : x.toInt < 0 ∨ 2 < x.toInt := by
  have e0 : ¬ x.toInt = 0 := fun h => h0 (Int32.toInt_inj.mp h)
  have e1 : ¬ x.toInt = 1 := fun h => h1 (Int32.toInt_inj.mp h)
  have e2 : ¬ x.toInt = 2 := fun h => h2 (Int32.toInt_inj.mp h)
  omega
set_option maxHeartbeats 4000000 in
set_option maxRecDepth 100000 in
theorem c_X2_count (l : Launch) (dC : Nat → ClassId) (dI : Nat → Nat → Nat) (g0 r0 p0 : Nat) (cI : ClassId) (p1 p2 p3 p4 p5 p6 : Nat) (ki va : Nat → Int32) (sp sg : Nat → Nat) (sk sv : Nat → Int32) (sc og r1 r2 r3 r4 : Nat) (nu : Nat → Int32) (st le : Nat → Nat) (te : Nat → Int32) (ma ds dl : Nat) (ke : Int32) (x : Int32)  : mRi l yX2_count wsX2_count ({ frames := 1, cells := 0, slots := 0, locals := 20 }) (dC, dI) cI [.ref g0, .int x] (wG g0 r0 p0 ++ (wP cI r0 p0 p1 p2 p3 p4 p5 p6 ki va sp sg sk sv sc og ++ wR cI r0 r1 r2 r3 r4 nu st le te ma ds dl ke)) (fun r => r = dCount x (ki, va, sp, sg, sk, sv, sc, og, nu, st, le, te, ma, ds, dl, ke)) := by
  refine m_ofR (cc := cX2_count) (maxL := 2) (by decide) rfl (Nat.le_of_ble_eq_true rfl) ?_
  intro p e s m args below meth c ls Q hx hb hts hown hml hP hK hl hret
  have hown : s.vm.findClass RX2 = some m.cls := hown
  have hl : lv_has ls 2 [(0, .ref g0), (1, .int x)] := hl
  have l21 := hts (.fieldLink RX2 21 "GroupDesk" "places" "LGroupDesk$Places;") (by decide +kernel)
  have l12 := hts (.fieldLink RX2 12 "GroupDesk" "rows" "LGroupDesk$Rows;") (by decide +kernel)
  have iX2 : ∀ w ∈ u_ws RX2 TX2 2, w ∈ wsX2_count := by decide +kernel
  have hP0 := hP
  refine lv_iload_n hx hb dX2_count_0 rfl (lv_at hl 1 rfl) ?_
  by_cases h0 : x = 0
  · subst h0
    refine lv_tableIn (tgt := 28) hx hb dX2_count_1 (by decide) (by decide) rfl (by decide) ?_
    refine lv_aload_n hx hb dX2_count_28 rfl (lv_at hl 0 rfl) ?_
    refine va_get (D := (dC, dI)) (ci := 2) (v := .ref p0) (C := RX2) (T := TX2) (N := 2) hx hb hts iX2 hown hK hP 0 rfl rfl 1 (by decide) l21 (fun _ h9 => h9) rfl dX2_count_29 ?_
    refine m_rV (As := []) (rest := []) ⟨hx, hb, hml, hown, hts⟩ (c_X0_depth l dC dI cI r0 p0 p1 p2 p3 p4 p5 p6 ki va sp sg sk sv sc og) (cwV 0 hts gX2_count_X0_depth rfl rfl rfl (by decide +kernel) ⟨Nat.le_of_ble_eq_true rfl, Nat.le_of_ble_eq_true rfl⟩) (ma_Pl (ma_P hP)) hK 0 0 rfl rfl rfl hl.1 rfl (Nat.le_of_ble_eq_true rfl) dX2_count_32 ⟨Nat.zero_le _, Nat.zero_le _⟩ (fun r hw => ?_)
    subst hw
    exact hret (nI og) (rfl) (rfl) dX2_count_35
  by_cases h1 : x = 1
  · subst h1
    refine lv_tableIn (tgt := 36) hx hb dX2_count_1 (by decide) (by decide) rfl (by decide) ?_
    refine lv_aload_n hx hb dX2_count_36 rfl (lv_at hl 0 rfl) ?_
    refine va_get (D := (dC, dI)) (ci := 2) (v := .ref r0) (C := RX2) (T := TX2) (N := 2) hx hb hts iX2 hown hK hP 0 rfl rfl 0 (by decide) l12 (fun _ h9 => h9) rfl dX2_count_37 ?_
    refine m_rV (As := []) (rest := []) ⟨hx, hb, hml, hown, hts⟩ (c_X1_drafted l dC dI cI r0 r1 r2 r3 r4 nu st le te ma ds dl ke) (cwV 0 hts gX2_count_X1_drafted rfl rfl rfl (by decide +kernel) ⟨Nat.le_of_ble_eq_true rfl, Nat.le_of_ble_eq_true rfl⟩) (ma_P (ma_P hP)) hK 1 0 rfl rfl rfl hl.1 rfl (Nat.le_of_ble_eq_true rfl) dX2_count_40 ⟨Nat.zero_le _, Nat.zero_le _⟩ (fun r hw => ?_)
    subst hw
    exact hret (nI dl) (rfl) (rfl) dX2_count_43
  by_cases h2 : x = 2
  · subst h2
    refine lv_tableIn (tgt := 44) hx hb dX2_count_1 (by decide) (by decide) rfl (by decide) ?_
    refine lv_aload_n hx hb dX2_count_44 rfl (lv_at hl 0 rfl) ?_
    refine va_get (D := (dC, dI)) (ci := 2) (v := .ref r0) (C := RX2) (T := TX2) (N := 2) hx hb hts iX2 hown hK hP 0 rfl rfl 0 (by decide) l12 (fun _ h9 => h9) rfl dX2_count_45 ?_
    refine m_rV (As := []) (rest := []) ⟨hx, hb, hml, hown, hts⟩ (c_X1_kept l dC dI cI r0 r1 r2 r3 r4 nu st le te ma ds dl ke) (cwV 0 hts gX2_count_X1_kept rfl rfl rfl (by decide +kernel) ⟨Nat.le_of_ble_eq_true rfl, Nat.le_of_ble_eq_true rfl⟩) (ma_P (ma_P hP)) hK 1 0 rfl rfl rfl hl.1 rfl (Nat.le_of_ble_eq_true rfl) dX2_count_48 ⟨Nat.zero_le _, Nat.zero_le _⟩ (fun r hw => ?_)
    rw [hw]
    exact hret ke (rfl) (rfl) dX2_count_51
  refine lv_tableOut (tgt := 52) hx hb dX2_count_1 (sw_out h0 h1 h2) (by decide) ?_
  refine lv_iconst (v := (-1)) hx hb dX2_count_52 (by decide) ?_
  exact hret ((-1)) (rfl) (by unfold dCount; rw [if_neg h0, if_neg h1, if_neg h2]) dX2_count_53
set_option maxHeartbeats 4000000 in
set_option maxRecDepth 100000 in
theorem c_X2_rowOf (l : Launch) (dC : Nat → ClassId) (dI : Nat → Nat → Nat) (g0 r0 p0 : Nat) (cI : ClassId) (p1 p2 p3 p4 p5 p6 : Nat) (ki va : Nat → Int32) (sp sg : Nat → Nat) (sk sv : Nat → Int32) (sc og r1 r2 r3 r4 : Nat) (nu : Nat → Int32) (st le : Nat → Nat) (te : Nat → Int32) (ma ds dl : Nat) (ke : Int32) (x : Int32)  : mRi l yX2_rowOf wsX2_rowOf ({ frames := 2, cells := 0, slots := 0, locals := 41 }) (dC, dI) cI [.ref g0, .int x] (wG g0 r0 p0 ++ (wP cI r0 p0 p1 p2 p3 p4 p5 p6 ki va sp sg sk sv sc og ++ wR cI r0 r1 r2 r3 r4 nu st le te ma ds dl ke)) (fun r => r = dRow x (ki, va, sp, sg, sk, sv, sc, og, nu, st, le, te, ma, ds, dl, ke)) := by
  refine m_ofR (cc := cX2_rowOf) (maxL := 2) (by decide) rfl (Nat.le_of_ble_eq_true rfl) ?_
  intro p e s m args below meth c ls Q hx hb hts hown hml hP hK hl hret
  have hown : s.vm.findClass RX2 = some m.cls := hown
  have hl : lv_has ls 2 [(0, .ref g0), (1, .int x)] := hl
  have l21 := hts (.fieldLink RX2 21 "GroupDesk" "places" "LGroupDesk$Places;") (by decide +kernel)
  have iX2 : ∀ w ∈ u_ws RX2 TX2 2, w ∈ wsX2_rowOf := by decide +kernel
  refine lv_iload_n hx hb dX2_rowOf_0 rfl (lv_at hl 1 rfl) ?_
  refine lv_iconst (v := (-1)) hx hb dX2_rowOf_1 (by decide) ?_
  refine lv_icmp_ne (tgt := 16) hx hb dX2_rowOf_2 (by decide) (fun c2 => ?_) (fun c2 => ?_)
  · refine lv_iload_n hx hb dX2_rowOf_16 rfl (lv_at hl 1 rfl) ?_
    refine m_rS (As := [.int x]) (rest := []) ⟨hx, hb, hml, hown, hts⟩ (c_X2_isName l dC dI cI x) (va_cwS 1 hts gX2_rowOf_X2_isName rfl rfl rfl (by decide +kernel) ⟨Nat.le_of_ble_eq_true rfl, Nat.le_of_ble_eq_true rfl⟩) ma_nil hK rfl hl.1 rfl (Nat.le_of_ble_eq_true rfl) dX2_rowOf_17 ⟨Nat.zero_le _, Nat.zero_le _⟩ (fun r hw => ?_)
    subst hw
    refine lv_if_eq (tgt := 39) hx hb dX2_rowOf_20 (by decide) (fun c20 => ?_) (fun c20 => ?_)
    · have hj := b2i_0 c20
      refine lv_iconst (v := (-1)) hx hb dX2_rowOf_39 (by decide) ?_
      exact hret ((-1)) (rfl) (by unfold dRow; rw [if_neg c2, hj]; rfl) dX2_rowOf_40
    · have hj := b2i_n c20
      have hix := isR_of (by decide) hj
      have h7 := hix.1
      refine lv_aload_n hx hb dX2_rowOf_23 rfl (lv_at hl 0 rfl) ?_
      refine va_get (D := (dC, dI)) (ci := 2) (v := .ref p0) (C := RX2) (T := TX2) (N := 2) hx hb hts iX2 hown hK hP 0 rfl rfl 1 (by decide) l21 (fun _ h9 => h9) rfl dX2_rowOf_24 ?_
      refine lv_sipush (v := nI 2366) hx hb dX2_rowOf_27 (by decide) ?_
      refine lv_iload_n hx hb dX2_rowOf_30 rfl (lv_at hl 1 rfl) ?_
      refine lv_iadd hx hb dX2_rowOf_31 ?_
      refine mv_top (v := nI (2366 + rj x)) (by rw [hix.2, rj_nI (by have := hix.1; omega)]; exact nI_add 2366 _) ?_
      refine m_rV (As := [.int (nI (2366 + rj x))]) (rest := []) ⟨hx, hb, hml, hown, hts⟩ (c_X0_kindAt l dC dI cI r0 p0 p1 p2 p3 p4 p5 p6 ki va sp sg sk sv sc og (nI (2366 + rj x))) (cwV 1 hts gX2_rowOf_X0_kindAt rfl rfl rfl (by decide +kernel) ⟨Nat.le_of_ble_eq_true rfl, Nat.le_of_ble_eq_true rfl⟩) (ma_Pl (ma_P hP)) hK 0 0 rfl rfl rfl hl.1 rfl (Nat.le_of_ble_eq_true rfl) dX2_rowOf_32 ⟨Nat.zero_le _, Nat.zero_le _⟩ (fun r hw => ?_)
      subst hw
      refine mv_top (v := ki (2366 + rj x)) (atP_nI _ (by omega)) ?_
      refine lv_iconst (v := 3) hx hb dX2_rowOf_35 (by decide) ?_
      refine lv_icmp_eq (tgt := 41) hx hb dX2_rowOf_36 (by decide) (fun c36 => ?_) (fun c36 => ?_)
      · refine lv_aload_n hx hb dX2_rowOf_41 rfl (lv_at hl 0 rfl) ?_
        refine va_get (D := (dC, dI)) (ci := 2) (v := .ref p0) (C := RX2) (T := TX2) (N := 2) hx hb hts iX2 hown hK hP 0 rfl rfl 1 (by decide) l21 (fun _ h9 => h9) rfl dX2_rowOf_42 ?_
        refine lv_sipush (v := nI 2366) hx hb dX2_rowOf_45 (by decide) ?_
        refine lv_iload_n hx hb dX2_rowOf_48 rfl (lv_at hl 1 rfl) ?_
        refine lv_iadd hx hb dX2_rowOf_49 ?_
        refine mv_top (v := nI (2366 + rj x)) (by rw [hix.2, rj_nI (by have := hix.1; omega)]; exact nI_add 2366 _) ?_
        refine m_rV (As := [.int (nI (2366 + rj x))]) (rest := []) ⟨hx, hb, hml, hown, hts⟩ (c_X0_valueAt l dC dI cI r0 p0 p1 p2 p3 p4 p5 p6 ki va sp sg sk sv sc og (nI (2366 + rj x))) (cwV 1 hts gX2_rowOf_X0_valueAt rfl rfl rfl (by decide +kernel) ⟨Nat.le_of_ble_eq_true rfl, Nat.le_of_ble_eq_true rfl⟩) (ma_Pl (ma_P hP)) hK 0 0 rfl rfl rfl hl.1 rfl (Nat.le_of_ble_eq_true rfl) dX2_rowOf_50 ⟨Nat.zero_le _, Nat.zero_le _⟩ (fun r hw => ?_)
        subst hw
        refine mv_top (v := va (2366 + rj x)) (atP_nI _ (by omega)) ?_
        exact hret (va (2366 + rj x)) (rfl) (by unfold dRow; rw [if_neg c2, if_pos hj, if_pos c36]) dX2_rowOf_53
      · refine lv_iconst (v := (-1)) hx hb dX2_rowOf_39 (by decide) ?_
        exact hret ((-1)) (rfl) (by unfold dRow; rw [if_neg c2, if_pos hj, if_neg c36]) dX2_rowOf_40
  · refine lv_aload_n hx hb dX2_rowOf_5 rfl (lv_at hl 0 rfl) ?_
    refine va_get (D := (dC, dI)) (ci := 2) (v := .ref p0) (C := RX2) (T := TX2) (N := 2) hx hb hts iX2 hown hK hP 0 rfl rfl 1 (by decide) l21 (fun _ h9 => h9) rfl dX2_rowOf_6 ?_
    refine lv_sipush (v := nI 3366) hx hb dX2_rowOf_9 (by decide) ?_
    refine m_rV (As := [.int (nI 3366)]) (rest := []) ⟨hx, hb, hml, hown, hts⟩ (c_X0_valueAt l dC dI cI r0 p0 p1 p2 p3 p4 p5 p6 ki va sp sg sk sv sc og (nI 3366)) (cwV 1 hts gX2_rowOf_X0_valueAt rfl rfl rfl (by decide +kernel) ⟨Nat.le_of_ble_eq_true rfl, Nat.le_of_ble_eq_true rfl⟩) (ma_Pl (ma_P hP)) hK 0 0 rfl rfl rfl hl.1 rfl (Nat.le_of_ble_eq_true rfl) dX2_rowOf_12 ⟨Nat.zero_le _, Nat.zero_le _⟩ (fun r hw => ?_)
    subst hw
    refine mv_top (v := va (3366)) (atP_nI _ (by omega)) ?_
    exact hret (va (3366)) (rfl) (by unfold dRow; rw [if_pos c2]) dX2_rowOf_15
end
section
set_option maxHeartbeats 4000000 in
set_option maxRecDepth 100000 in
theorem c_X2_define (l : Launch) (dC : Nat → ClassId) (dI : Nat → Nat → Nat) (g0 r0 p0 : Nat) (cI : ClassId) (p1 p2 p3 p4 p5 p6 : Nat) (ki va : Nat → Int32) (sp sg : Nat → Nat) (sk sv : Nat → Int32) (sc og r1 r2 r3 r4 : Nat) (nu : Nat → Int32) (st le : Nat → Nat) (te : Nat → Int32) (ma ds dl : Nat) (ke : Int32) (x g : Int32) (hl0 : l.stackTraces = false) (hm : ma ≤ 513) (hsc : sc ≤ 512) (hog : og < 2 ^ 31) (hsg : ∀ j, j < sc → sg j < 2 ^ 31) (hsp : ∀ j, j < sc → sp j < 3367) (hd : ds + dl ≤ 512) : mXi l yX2_define wsX2_define ({ frames := 6, cells := 1, slots := 6, locals := 111 }) (dC, dI) cI [.ref g0, .int x, .int g] (wG g0 r0 p0 ++ (wP cI r0 p0 p1 p2 p3 p4 p5 p6 ki va sp sg sk sv sc og ++ wR cI r0 r1 r2 r3 r4 nu st le te ma ds dl ke)) (fun r u => isR 1000 x = true ∧ r = (dDefine x g (ki, va, sp, sg, sk, sv, sc, og, nu, st, le, te, ma, ds, dl, ke)).1 ∧ u = (dDefine x g (ki, va, sp, sg, sk, sv, sc, og, nu, st, le, te, ma, ds, dl, ke)).2) (fun u : DS => wG g0 r0 p0 ++ (wP cI r0 p0 p1 p2 p3 p4 p5 p6 u.1 u.2.1 u.2.2.1 u.2.2.2.1 u.2.2.2.2.1 u.2.2.2.2.2.1 u.2.2.2.2.2.2.1 u.2.2.2.2.2.2.2.1 ++ wR cI r0 r1 r2 r3 r4 u.2.2.2.2.2.2.2.2.1 u.2.2.2.2.2.2.2.2.2.1 u.2.2.2.2.2.2.2.2.2.2.1 u.2.2.2.2.2.2.2.2.2.2.2.1 u.2.2.2.2.2.2.2.2.2.2.2.2.1 u.2.2.2.2.2.2.2.2.2.2.2.2.2.1 u.2.2.2.2.2.2.2.2.2.2.2.2.2.2.1 u.2.2.2.2.2.2.2.2.2.2.2.2.2.2.2)) (isR 1000 x = false) := by
  refine m_ofXi hl0 (cc := cX2_define) (maxL := 4) (by decide) rfl rfl (Nat.le_of_ble_eq_true rfl) rfl rfl (Nat.le_of_ble_eq_true rfl) (Nat.le_of_ble_eq_true rfl) (by decide +kernel) (by decide +kernel) (fun w h => List.mem_cons_of_mem _ (List.mem_append_right _ h)) ?_
  intro p e s m args below meth c ls A Q hx hb hts hown hml hP hK hD hA hS hl hret hxs hthr
  have hown : s.vm.findClass RX2 = some m.cls := hown
  have hl : lv_has ls 4 [(0, .ref g0), (1, .int x), (2, .int g)] := hl
  have l12 := hts (.fieldLink RX2 12 "GroupDesk" "rows" "LGroupDesk$Rows;") (by decide +kernel)
  have l21 := hts (.fieldLink RX2 21 "GroupDesk" "places" "LGroupDesk$Places;") (by decide +kernel)
  have iX2 : ∀ w ∈ u_ws RX2 TX2 2, w ∈ wsX2_define := by decide +kernel
  refine lv_iload_n hx hb dX2_define_0 rfl (lv_at hl 1 rfl) ?_
  refine m_rS (As := [.int x]) (rest := []) ⟨hx, hb, hml, hown, hts⟩ (c_X2_isName l dC dI cI x) (va_cwS 1 hts gX2_define_X2_isName rfl rfl rfl (by decide +kernel) ⟨Nat.le_of_ble_eq_true rfl, Nat.le_of_ble_eq_true rfl⟩) ma_nil hK rfl hl.1 rfl (Nat.le_of_ble_eq_true rfl) dX2_define_1 ⟨Nat.zero_le _, Nat.zero_le _⟩ (fun r hw => ?_)
  subst hw
  refine lv_if_ne (tgt := 17) hx hb dX2_define_4 (by decide) (fun c4 => ?_) (fun c4 => ?_)
  · have hj := b2i_n c4
    have hix := isR_of (by decide) hj
    have h7 := hix.1
    refine lv_aload_n hx hb dX2_define_17 rfl (lv_at hl 0 rfl) ?_
    refine va_get (D := (dC, dI)) (ci := 2) (v := .ref r0) (C := RX2) (T := TX2) (N := 2) hx hb hts iX2 hown hK hP 0 rfl rfl 0 (by decide) l12 (fun _ h9 => h9) rfl dX2_define_18 ?_
    have hP : va_P (dC, dI) vwCl ((wG g0 r0 p0 ++ wP cI r0 p0 p1 p2 p3 p4 p5 p6 ki va sp sg sk sv sc og) ++ (wR cI r0 r1 r2 r3 r4 nu st le te ma ds dl ke)) _ := hP
    have hD : va_D A ((wG g0 r0 p0 ++ wP cI r0 p0 p1 p2 p3 p4 p5 p6 ki va sp sg sk sv sc og) ++ (wR cI r0 r1 r2 r3 r4 nu st le te ma ds dl ke)) := hD
    refine m_wVi (As := []) (rest := []) ⟨hx, hb, hml, hown, hts⟩ (c_X1_takeDraft l dC dI cI r0 r1 r2 r3 r4 nu st le te ma ds dl ke hm hd) (cwV 0 hts gX2_define_X1_takeDraft rfl rfl rfl (by decide +kernel) ⟨Nat.le_of_ble_eq_true rfl, Nat.le_of_ble_eq_true rfl⟩) hP hK hD hS hA 1 0 rfl rfl rfl hl.1 rfl (Nat.le_of_ble_eq_true rfl) dX2_define_21 ⟨Nat.zero_le _, Nat.zero_le _⟩ (fun r u H locs hw hP hD hS => ?_)
    obtain ⟨rfl, rfl⟩ := hw
    have hP : va_P (dC, dI) vwCl (wG g0 r0 p0 ++ (wP cI r0 p0 p1 p2 p3 p4 p5 p6 ki va sp sg sk sv sc og ++ wR cI r0 r1 r2 r3 r4 nu ((takeF st le ma ds dl).2.1) ((takeF st le ma ds dl).2.2.1) te ((takeF st le ma ds dl).2.2.2.1) ((takeF st le ma ds dl).2.2.2.2.1) ((takeF st le ma ds dl).2.2.2.2.2) ke)) _ := hP
    have hD : va_D A (wG g0 r0 p0 ++ (wP cI r0 p0 p1 p2 p3 p4 p5 p6 ki va sp sg sk sv sc og ++ wR cI r0 r1 r2 r3 r4 nu ((takeF st le ma ds dl).2.1) ((takeF st le ma ds dl).2.2.1) te ((takeF st le ma ds dl).2.2.2.1) ((takeF st le ma ds dl).2.2.2.2.1) ((takeF st le ma ds dl).2.2.2.2.2) ke)) := hD
    refine lv_istore_n (lv' := [(3, .int ((takeF st le ma ds dl).1)), (0, .ref g0), (1, .int x), (2, .int g)]) hx hb dX2_define_24 rfl hl (by decide) rfl (fun ls hl => ?_)
    refine lv_aload_n hx hb dX2_define_25 rfl (lv_at hl 1 rfl) ?_
    refine va_get (D := (dC, dI)) (ci := 2) (v := .ref p0) (C := RX2) (T := TX2) (N := 2) hx hb hts iX2 hown hK hP 0 rfl rfl 1 (by decide) l21 (fun _ h9 => h9) rfl dX2_define_26 ?_
    refine lv_sipush (v := nI 2366) hx hb dX2_define_29 (by decide) ?_
    refine lv_iload_n hx hb dX2_define_32 rfl (lv_at hl 2 rfl) ?_
    refine lv_iadd hx hb dX2_define_33 ?_
    refine mv_top (v := nI (2366 + rj x)) (by rw [hix.2, rj_nI (by have := hix.1; omega)]; exact nI_add 2366 _) ?_
    refine lv_iconst (v := 3) hx hb dX2_define_34 (by decide) ?_
    refine lv_iload_n hx hb dX2_define_35 rfl (lv_at hl 0 rfl) ?_
    refine lv_iload_n hx hb dX2_define_36 rfl (lv_at hl 3 rfl) ?_
    have hP : va_P (dC, dI) vwCl ((wG g0 r0 p0) ++ (wP cI r0 p0 p1 p2 p3 p4 p5 p6 ki va sp sg sk sv sc og ++ wR cI r0 r1 r2 r3 r4 nu ((takeF st le ma ds dl).2.1) ((takeF st le ma ds dl).2.2.1) te ((takeF st le ma ds dl).2.2.2.1) ((takeF st le ma ds dl).2.2.2.2.1) ((takeF st le ma ds dl).2.2.2.2.2) ke)) _ := hP
    have hD : va_D A ((wG g0 r0 p0) ++ (wP cI r0 p0 p1 p2 p3 p4 p5 p6 ki va sp sg sk sv sc og ++ wR cI r0 r1 r2 r3 r4 nu ((takeF st le ma ds dl).2.1) ((takeF st le ma ds dl).2.2.1) te ((takeF st le ma ds dl).2.2.2.1) ((takeF st le ma ds dl).2.2.2.2.1) ((takeF st le ma ds dl).2.2.2.2.2) ke)) := hD
    refine m_wVv (As := [.int (nI (2366 + rj x)), .int 3, .int ((takeF st le ma ds dl).1), .int g]) (rest := []) ⟨hx, hb, hml, hown, hts⟩ (c_X0_assign l dC dI cI r0 p0 p1 p2 p3 p4 p5 p6 ki va sp sg sk sv sc og r1 r2 r3 r4 nu ((takeF st le ma ds dl).2.1) ((takeF st le ma ds dl).2.2.1) te ((takeF st le ma ds dl).2.2.2.1) ((takeF st le ma ds dl).2.2.2.2.1) ((takeF st le ma ds dl).2.2.2.2.2) ke (2366 + rj x) 3 ((takeF st le ma ds dl).1) g (takeF_ma hm) (by omega) hsc hog hsg (fun j h => Nat.lt_trans (hsp j h) (by decide))) (cwV 4 hts gX2_define_X0_assign rfl rfl rfl (by decide +kernel) ⟨Nat.le_of_ble_eq_true rfl, Nat.le_of_ble_eq_true rfl⟩) hP hK hD hS hA 0 0 rfl rfl rfl hl.1 rfl (Nat.le_of_ble_eq_true rfl) dX2_define_37 ⟨Nat.zero_le _, Nat.zero_le _⟩ (fun u H locs hw hP hD hS => ?_)
    subst hw
    have hP : va_P (dC, dI) vwCl (wG g0 r0 p0 ++ (wP cI r0 p0 p1 p2 p3 p4 p5 p6 ((assignF ((takeF st le ma ds dl).2.2.2.1) ((takeF st le ma ds dl).2.2.1) (2366 + rj x) 3 ((takeF st le ma ds dl).1) g ki va sp sg sk sv sc og te ke).1) ((assignF ((takeF st le ma ds dl).2.2.2.1) ((takeF st le ma ds dl).2.2.1) (2366 + rj x) 3 ((takeF st le ma ds dl).1) g ki va sp sg sk sv sc og te ke).2.1) ((assignF ((takeF st le ma ds dl).2.2.2.1) ((takeF st le ma ds dl).2.2.1) (2366 + rj x) 3 ((takeF st le ma ds dl).1) g ki va sp sg sk sv sc og te ke).2.2.1) ((assignF ((takeF st le ma ds dl).2.2.2.1) ((takeF st le ma ds dl).2.2.1) (2366 + rj x) 3 ((takeF st le ma ds dl).1) g ki va sp sg sk sv sc og te ke).2.2.2.1) ((assignF ((takeF st le ma ds dl).2.2.2.1) ((takeF st le ma ds dl).2.2.1) (2366 + rj x) 3 ((takeF st le ma ds dl).1) g ki va sp sg sk sv sc og te ke).2.2.2.2.1) ((assignF ((takeF st le ma ds dl).2.2.2.1) ((takeF st le ma ds dl).2.2.1) (2366 + rj x) 3 ((takeF st le ma ds dl).1) g ki va sp sg sk sv sc og te ke).2.2.2.2.2.1) ((assignF ((takeF st le ma ds dl).2.2.2.1) ((takeF st le ma ds dl).2.2.1) (2366 + rj x) 3 ((takeF st le ma ds dl).1) g ki va sp sg sk sv sc og te ke).2.2.2.2.2.2.1) og ++ wR cI r0 r1 r2 r3 r4 nu ((takeF st le ma ds dl).2.1) ((takeF st le ma ds dl).2.2.1) ((assignF ((takeF st le ma ds dl).2.2.2.1) ((takeF st le ma ds dl).2.2.1) (2366 + rj x) 3 ((takeF st le ma ds dl).1) g ki va sp sg sk sv sc og te ke).2.2.2.2.2.2.2.1) ((takeF st le ma ds dl).2.2.2.1) ((takeF st le ma ds dl).2.2.2.2.1) ((takeF st le ma ds dl).2.2.2.2.2) ((assignF ((takeF st le ma ds dl).2.2.2.1) ((takeF st le ma ds dl).2.2.1) (2366 + rj x) 3 ((takeF st le ma ds dl).1) g ki va sp sg sk sv sc og te ke).2.2.2.2.2.2.2.2))) _ := hP
    have hD : va_D A (wG g0 r0 p0 ++ (wP cI r0 p0 p1 p2 p3 p4 p5 p6 ((assignF ((takeF st le ma ds dl).2.2.2.1) ((takeF st le ma ds dl).2.2.1) (2366 + rj x) 3 ((takeF st le ma ds dl).1) g ki va sp sg sk sv sc og te ke).1) ((assignF ((takeF st le ma ds dl).2.2.2.1) ((takeF st le ma ds dl).2.2.1) (2366 + rj x) 3 ((takeF st le ma ds dl).1) g ki va sp sg sk sv sc og te ke).2.1) ((assignF ((takeF st le ma ds dl).2.2.2.1) ((takeF st le ma ds dl).2.2.1) (2366 + rj x) 3 ((takeF st le ma ds dl).1) g ki va sp sg sk sv sc og te ke).2.2.1) ((assignF ((takeF st le ma ds dl).2.2.2.1) ((takeF st le ma ds dl).2.2.1) (2366 + rj x) 3 ((takeF st le ma ds dl).1) g ki va sp sg sk sv sc og te ke).2.2.2.1) ((assignF ((takeF st le ma ds dl).2.2.2.1) ((takeF st le ma ds dl).2.2.1) (2366 + rj x) 3 ((takeF st le ma ds dl).1) g ki va sp sg sk sv sc og te ke).2.2.2.2.1) ((assignF ((takeF st le ma ds dl).2.2.2.1) ((takeF st le ma ds dl).2.2.1) (2366 + rj x) 3 ((takeF st le ma ds dl).1) g ki va sp sg sk sv sc og te ke).2.2.2.2.2.1) ((assignF ((takeF st le ma ds dl).2.2.2.1) ((takeF st le ma ds dl).2.2.1) (2366 + rj x) 3 ((takeF st le ma ds dl).1) g ki va sp sg sk sv sc og te ke).2.2.2.2.2.2.1) og ++ wR cI r0 r1 r2 r3 r4 nu ((takeF st le ma ds dl).2.1) ((takeF st le ma ds dl).2.2.1) ((assignF ((takeF st le ma ds dl).2.2.2.1) ((takeF st le ma ds dl).2.2.1) (2366 + rj x) 3 ((takeF st le ma ds dl).1) g ki va sp sg sk sv sc og te ke).2.2.2.2.2.2.2.1) ((takeF st le ma ds dl).2.2.2.1) ((takeF st le ma ds dl).2.2.2.2.1) ((takeF st le ma ds dl).2.2.2.2.2) ((assignF ((takeF st le ma ds dl).2.2.2.1) ((takeF st le ma ds dl).2.2.1) (2366 + rj x) 3 ((takeF st le ma ds dl).1) g ki va sp sg sk sv sc og te ke).2.2.2.2.2.2.2.2))) := hD
    refine lv_aload_n hx hb dX2_define_40 rfl (lv_at hl 1 rfl) ?_
    refine va_get (D := (dC, dI)) (ci := 2) (v := .ref r0) (C := RX2) (T := TX2) (N := 2) hx hb hts iX2 hown hK hP 0 rfl rfl 0 (by decide) l12 (fun _ h9 => h9) rfl dX2_define_41 ?_
    refine lv_iload_n hx hb dX2_define_44 rfl (lv_at hl 0 rfl) ?_
    refine m_rV (As := [.int ((takeF st le ma ds dl).1)]) (rest := []) ⟨hx, hb, hml, hown, hts⟩ (c_X1_lengthOf l dC dI cI r0 r1 r2 r3 r4 nu ((takeF st le ma ds dl).2.1) ((takeF st le ma ds dl).2.2.1) ((assignF ((takeF st le ma ds dl).2.2.2.1) ((takeF st le ma ds dl).2.2.1) (2366 + rj x) 3 ((takeF st le ma ds dl).1) g ki va sp sg sk sv sc og te ke).2.2.2.2.2.2.2.1) ((takeF st le ma ds dl).2.2.2.1) ((takeF st le ma ds dl).2.2.2.2.1) ((takeF st le ma ds dl).2.2.2.2.2) ((assignF ((takeF st le ma ds dl).2.2.2.1) ((takeF st le ma ds dl).2.2.1) (2366 + rj x) 3 ((takeF st le ma ds dl).1) g ki va sp sg sk sv sc og te ke).2.2.2.2.2.2.2.2) ((takeF st le ma ds dl).1) (takeF_ma hm)) (cwV 1 hts gX2_define_X1_lengthOf rfl rfl rfl (by decide +kernel) ⟨Nat.le_of_ble_eq_true rfl, Nat.le_of_ble_eq_true rfl⟩) (ma_P (ma_P hP)) hK 1 0 rfl rfl rfl hl.1 rfl (Nat.le_of_ble_eq_true rfl) dX2_define_45 ⟨Nat.zero_le _, Nat.zero_le _⟩ (fun r hw => ?_)
    subst hw
    exact hret (lenR ((takeF st le ma ds dl).2.2.2.1) ((takeF st le ma ds dl).2.2.1) ((takeF st le ma ds dl).1)) (((assignF ((takeF st le ma ds dl).2.2.2.1) ((takeF st le ma ds dl).2.2.1) (2366 + rj x) 3 ((takeF st le ma ds dl).1) g ki va sp sg sk sv sc og te ke).1, (assignF ((takeF st le ma ds dl).2.2.2.1) ((takeF st le ma ds dl).2.2.1) (2366 + rj x) 3 ((takeF st le ma ds dl).1) g ki va sp sg sk sv sc og te ke).2.1, (assignF ((takeF st le ma ds dl).2.2.2.1) ((takeF st le ma ds dl).2.2.1) (2366 + rj x) 3 ((takeF st le ma ds dl).1) g ki va sp sg sk sv sc og te ke).2.2.1, (assignF ((takeF st le ma ds dl).2.2.2.1) ((takeF st le ma ds dl).2.2.1) (2366 + rj x) 3 ((takeF st le ma ds dl).1) g ki va sp sg sk sv sc og te ke).2.2.2.1, (assignF ((takeF st le ma ds dl).2.2.2.1) ((takeF st le ma ds dl).2.2.1) (2366 + rj x) 3 ((takeF st le ma ds dl).1) g ki va sp sg sk sv sc og te ke).2.2.2.2.1, (assignF ((takeF st le ma ds dl).2.2.2.1) ((takeF st le ma ds dl).2.2.1) (2366 + rj x) 3 ((takeF st le ma ds dl).1) g ki va sp sg sk sv sc og te ke).2.2.2.2.2.1, (assignF ((takeF st le ma ds dl).2.2.2.1) ((takeF st le ma ds dl).2.2.1) (2366 + rj x) 3 ((takeF st le ma ds dl).1) g ki va sp sg sk sv sc og te ke).2.2.2.2.2.2.1, og, nu, (takeF st le ma ds dl).2.1, (takeF st le ma ds dl).2.2.1, (assignF ((takeF st le ma ds dl).2.2.2.1) ((takeF st le ma ds dl).2.2.1) (2366 + rj x) 3 ((takeF st le ma ds dl).1) g ki va sp sg sk sv sc og te ke).2.2.2.2.2.2.2.1, (takeF st le ma ds dl).2.2.2.1, (takeF st le ma ds dl).2.2.2.2.1, (takeF st le ma ds dl).2.2.2.2.2, (assignF ((takeF st le ma ds dl).2.2.2.1) ((takeF st le ma ds dl).2.2.1) (2366 + rj x) 3 ((takeF st le ma ds dl).1) g ki va sp sg sk sv sc og te ke).2.2.2.2.2.2.2.2)) (rfl) (⟨hj, rfl, rfl⟩) hP hD hS dX2_define_48
  · have hj := b2i_0 c4
    obtain ⟨sa, hsa⟩ := hxs.1
    exact hthr 51 sa "no such name" (hj) hsa hl.1 (Nat.le_of_ble_eq_true rfl) dX2_define_7 dX2_define_10 dX2_define_11 dX2_define_13 dX2_define_16
set_option maxHeartbeats 4000000 in
set_option maxRecDepth 100000 in
theorem c_X2_get (l : Launch) (dC : Nat → ClassId) (dI : Nat → Nat → Nat) (g0 r0 p0 : Nat) (cI : ClassId) (p1 p2 p3 p4 p5 p6 : Nat) (ki va : Nat → Int32) (sp sg : Nat → Nat) (sk sv : Nat → Int32) (sc og r1 r2 r3 r4 : Nat) (nu : Nat → Int32) (st le : Nat → Nat) (te : Nat → Int32) (ma ds dl : Nat) (ke : Int32) (x : Int32) (hl0 : l.stackTraces = false) : mXi l yX2_get wsX2_get ({ frames := 6, cells := 1, slots := 6, locals := 91 }) (dC, dI) cI [.ref g0, .int x] (wG g0 r0 p0 ++ (wP cI r0 p0 p1 p2 p3 p4 p5 p6 ki va sp sg sk sv sc og ++ wR cI r0 r1 r2 r3 r4 nu st le te ma ds dl ke)) (fun r _ => isR 2366 x = true ∧ r = dGet x (ki, va, sp, sg, sk, sv, sc, og, nu, st, le, te, ma, ds, dl, ke)) (fun u : Unit => wG g0 r0 p0 ++ (wP cI r0 p0 p1 p2 p3 p4 p5 p6 ki va sp sg sk sv sc og ++ wR cI r0 r1 r2 r3 r4 nu st le te ma ds dl ke)) (isR 2366 x = false) := by
  refine m_ofXi hl0 (cc := cX2_get) (maxL := 2) (by decide) rfl rfl (Nat.le_of_ble_eq_true rfl) rfl rfl (Nat.le_of_ble_eq_true rfl) (Nat.le_of_ble_eq_true rfl) (by decide +kernel) (by decide +kernel) (fun w h => List.mem_cons_of_mem _ (List.mem_append_right _ h)) ?_
  intro p e s m args below meth c ls A Q hx hb hts hown hml hP hK hD hA hS hl hret hxs hthr
  have hown : s.vm.findClass RX2 = some m.cls := hown
  have hl : lv_has ls 2 [(0, .ref g0), (1, .int x)] := hl
  have l21 := hts (.fieldLink RX2 21 "GroupDesk" "places" "LGroupDesk$Places;") (by decide +kernel)
  have iX2 : ∀ w ∈ u_ws RX2 TX2 2, w ∈ wsX2_get := by decide +kernel
  refine lv_iload_n hx hb dX2_get_0 rfl (lv_at hl 1 rfl) ?_
  refine m_rS (As := [.int x]) (rest := []) ⟨hx, hb, hml, hown, hts⟩ (c_X2_isCell l dC dI cI x) (va_cwS 1 hts gX2_get_X2_isCell rfl rfl rfl (by decide +kernel) ⟨Nat.le_of_ble_eq_true rfl, Nat.le_of_ble_eq_true rfl⟩) ma_nil hK rfl hl.1 rfl (Nat.le_of_ble_eq_true rfl) dX2_get_1 ⟨Nat.zero_le _, Nat.zero_le _⟩ (fun r hw => ?_)
  subst hw
  refine lv_if_ne (tgt := 17) hx hb dX2_get_4 (by decide) (fun c4 => ?_) (fun c4 => ?_)
  · have hj := b2i_n c4
    have hix := isR_of (by decide) hj
    have h7 := hix.1
    refine lv_aload_n hx hb dX2_get_17 rfl (lv_at hl 0 rfl) ?_
    refine va_get (D := (dC, dI)) (ci := 2) (v := .ref p0) (C := RX2) (T := TX2) (N := 2) hx hb hts iX2 hown hK hP 0 rfl rfl 1 (by decide) l21 (fun _ h9 => h9) rfl dX2_get_18 ?_
    refine lv_iload_n hx hb dX2_get_21 rfl (lv_at hl 1 rfl) ?_
    refine mv_top (v := nI (rj x)) (hix.2) ?_
    refine m_rV (As := [.int (nI (rj x))]) (rest := []) ⟨hx, hb, hml, hown, hts⟩ (c_X0_valueAt l dC dI cI r0 p0 p1 p2 p3 p4 p5 p6 ki va sp sg sk sv sc og (nI (rj x))) (cwV 1 hts gX2_get_X0_valueAt rfl rfl rfl (by decide +kernel) ⟨Nat.le_of_ble_eq_true rfl, Nat.le_of_ble_eq_true rfl⟩) (ma_Pl (ma_P hP)) hK 0 0 rfl rfl rfl hl.1 rfl (Nat.le_of_ble_eq_true rfl) dX2_get_22 ⟨Nat.zero_le _, Nat.zero_le _⟩ (fun r hw => ?_)
    subst hw
    refine mv_top (v := va (rj x)) (atP_nI _ (by omega)) ?_
    exact hret (va (rj x)) (()) (rfl) (⟨hj, rfl⟩) hP hD hS dX2_get_25
  · have hj := b2i_0 c4
    obtain ⟨sa, hsa⟩ := hxs.2.1
    exact hthr 70 sa "no such cell" (hj) hsa hl.1 (Nat.le_of_ble_eq_true rfl) dX2_get_7 dX2_get_10 dX2_get_11 dX2_get_13 dX2_get_16
set_option maxHeartbeats 4000000 in
set_option maxRecDepth 100000 in
theorem c_X2_about (l : Launch) (dC : Nat → ClassId) (dI : Nat → Nat → Nat) (g0 r0 p0 : Nat) (cI : ClassId) (p1 p2 p3 p4 p5 p6 : Nat) (ki va : Nat → Int32) (sp sg : Nat → Nat) (sk sv : Nat → Int32) (sc og r1 r2 r3 r4 : Nat) (nu : Nat → Int32) (st le : Nat → Nat) (te : Nat → Int32) (ma ds dl : Nat) (ke : Int32) (x y : Int32) (hl0 : l.stackTraces = false) (hm : ma ≤ 513) : mXi l yX2_about wsX2_about ({ frames := 6, cells := 1, slots := 6, locals := 91 }) (dC, dI) cI [.ref g0, .int x, .int y] (wG g0 r0 p0 ++ (wP cI r0 p0 p1 p2 p3 p4 p5 p6 ki va sp sg sk sv sc og ++ wR cI r0 r1 r2 r3 r4 nu st le te ma ds dl ke)) (fun r _ => (isR 1000 x && wOk y) = true ∧ r = dAbout x y (ki, va, sp, sg, sk, sv, sc, og, nu, st, le, te, ma, ds, dl, ke)) (fun u : Unit => wG g0 r0 p0 ++ (wP cI r0 p0 p1 p2 p3 p4 p5 p6 ki va sp sg sk sv sc og ++ wR cI r0 r1 r2 r3 r4 nu st le te ma ds dl ke)) ((isR 1000 x && wOk y) = false) := by
  refine m_ofXi hl0 (cc := cX2_about) (maxL := 5) (by decide) rfl rfl (Nat.le_of_ble_eq_true rfl) rfl rfl (Nat.le_of_ble_eq_true rfl) (Nat.le_of_ble_eq_true rfl) (by decide +kernel) (by decide +kernel) (fun w h => List.mem_cons_of_mem _ (List.mem_append_right _ h)) ?_
  intro p e s m args below meth c ls A Q hx hb hts hown hml hP hK hD hA hS hl hret hxs hthr
  have hown : s.vm.findClass RX2 = some m.cls := hown
  have hl : lv_has ls 5 [(0, .ref g0), (1, .int x), (2, .int y)] := hl
  have l21 := hts (.fieldLink RX2 21 "GroupDesk" "places" "LGroupDesk$Places;") (by decide +kernel)
  have l12 := hts (.fieldLink RX2 12 "GroupDesk" "rows" "LGroupDesk$Rows;") (by decide +kernel)
  have iX2 : ∀ w ∈ u_ws RX2 TX2 2, w ∈ wsX2_about := by decide +kernel
  refine lv_iload_n hx hb dX2_about_0 rfl (lv_at hl 1 rfl) ?_
  refine m_rS (As := [.int x]) (rest := []) ⟨hx, hb, hml, hown, hts⟩ (c_X2_isName l dC dI cI x) (va_cwS 1 hts gX2_about_X2_isName rfl rfl rfl (by decide +kernel) ⟨Nat.le_of_ble_eq_true rfl, Nat.le_of_ble_eq_true rfl⟩) ma_nil hK rfl hl.1 rfl (Nat.le_of_ble_eq_true rfl) dX2_about_1 ⟨Nat.zero_le _, Nat.zero_le _⟩ (fun r hw => ?_)
  subst hw
  refine lv_if_eq (tgt := 16) hx hb dX2_about_4 (by decide) (fun c4 => ?_) (fun c4 => ?_)
  · have hj := b2i_0 c4
    obtain ⟨sa, hsa⟩ := hxs.2.2.1
    exact hthr 72 sa "no such name or what" (by rw [hj, Bool.false_and]) hsa hl.1 (Nat.le_of_ble_eq_true rfl) dX2_about_16 dX2_about_19 dX2_about_20 dX2_about_22 dX2_about_25
  · have hj := b2i_n c4
    have hix := isR_of (by decide) hj
    have h7 := hix.1
    refine lv_iload_n hx hb dX2_about_7 rfl (lv_at hl 2 rfl) ?_
    refine lv_if_lt (tgt := 16) hx hb dX2_about_8 (by decide) (fun c8 => ?_) (fun c8 => ?_)
    · obtain ⟨sa, hsa⟩ := hxs.2.2.1
      exact hthr 72 sa "no such name or what" (by unfold wOk; rw [decide_eq_false (not_not_intro c8), Bool.false_and, Bool.and_false]) hsa hl.1 (Nat.le_of_ble_eq_true rfl) dX2_about_16 dX2_about_19 dX2_about_20 dX2_about_22 dX2_about_25
    · refine lv_iload_n hx hb dX2_about_11 rfl (lv_at hl 2 rfl) ?_
      refine lv_iconst (v := 1) hx hb dX2_about_12 (by decide) ?_
      refine lv_icmp_le (tgt := 26) hx hb dX2_about_13 (by decide) (fun c13 => ?_) (fun c13 => ?_)
      · refine lv_aload_n hx hb dX2_about_26 rfl (lv_at hl 0 rfl) ?_
        refine va_get (D := (dC, dI)) (ci := 2) (v := .ref p0) (C := RX2) (T := TX2) (N := 2) hx hb hts iX2 hown hK hP 0 rfl rfl 1 (by decide) l21 (fun _ h9 => h9) rfl dX2_about_27 ?_
        refine lv_sipush (v := nI 2366) hx hb dX2_about_30 (by decide) ?_
        refine lv_iload_n hx hb dX2_about_33 rfl (lv_at hl 1 rfl) ?_
        refine lv_iadd hx hb dX2_about_34 ?_
        refine mv_top (v := nI (2366 + rj x)) (by rw [hix.2, rj_nI (by have := hix.1; omega)]; exact nI_add 2366 _) ?_
        refine m_rV (As := [.int (nI (2366 + rj x))]) (rest := []) ⟨hx, hb, hml, hown, hts⟩ (c_X0_kindAt l dC dI cI r0 p0 p1 p2 p3 p4 p5 p6 ki va sp sg sk sv sc og (nI (2366 + rj x))) (cwV 1 hts gX2_about_X0_kindAt rfl rfl rfl (by decide +kernel) ⟨Nat.le_of_ble_eq_true rfl, Nat.le_of_ble_eq_true rfl⟩) (ma_Pl (ma_P hP)) hK 0 0 rfl rfl rfl hl.1 rfl (Nat.le_of_ble_eq_true rfl) dX2_about_35 ⟨Nat.zero_le _, Nat.zero_le _⟩ (fun r hw => ?_)
        subst hw
        refine mv_top (v := ki (2366 + rj x)) (atP_nI _ (by omega)) ?_
        refine lv_istore_n (lv' := [(3, .int (ki (2366 + rj x))), (0, .ref g0), (1, .int x), (2, .int y)]) hx hb dX2_about_38 rfl hl (by decide) rfl (fun ls hl => ?_)
        refine lv_iload_n hx hb dX2_about_39 rfl (lv_at hl 3 rfl) ?_
        refine lv_if_ne (tgt := 45) hx hb dX2_about_40 (by decide) (fun c40 => ?_) (fun c40 => ?_)
        · refine lv_aload_n hx hb dX2_about_45 rfl (lv_at hl 1 rfl) ?_
          refine va_get (D := (dC, dI)) (ci := 2) (v := .ref p0) (C := RX2) (T := TX2) (N := 2) hx hb hts iX2 hown hK hP 0 rfl rfl 1 (by decide) l21 (fun _ h9 => h9) rfl dX2_about_46 ?_
          refine lv_sipush (v := nI 2366) hx hb dX2_about_49 (by decide) ?_
          refine lv_iload_n hx hb dX2_about_52 rfl (lv_at hl 2 rfl) ?_
          refine lv_iadd hx hb dX2_about_53 ?_
          refine mv_top (v := nI (2366 + rj x)) (by rw [hix.2, rj_nI (by have := hix.1; omega)]; exact nI_add 2366 _) ?_
          refine m_rV (As := [.int (nI (2366 + rj x))]) (rest := []) ⟨hx, hb, hml, hown, hts⟩ (c_X0_valueAt l dC dI cI r0 p0 p1 p2 p3 p4 p5 p6 ki va sp sg sk sv sc og (nI (2366 + rj x))) (cwV 1 hts gX2_about_X0_valueAt rfl rfl rfl (by decide +kernel) ⟨Nat.le_of_ble_eq_true rfl, Nat.le_of_ble_eq_true rfl⟩) (ma_Pl (ma_P hP)) hK 0 0 rfl rfl rfl hl.1 rfl (Nat.le_of_ble_eq_true rfl) dX2_about_54 ⟨Nat.zero_le _, Nat.zero_le _⟩ (fun r hw => ?_)
          subst hw
          refine mv_top (v := va (2366 + rj x)) (atP_nI _ (by omega)) ?_
          refine lv_istore (lv' := [(4, .int (va (2366 + rj x))), (3, .int (ki (2366 + rj x))), (0, .ref g0), (1, .int x), (2, .int y)]) hx hb dX2_about_57 hl (by decide) rfl (fun ls hl => ?_)
          refine lv_iload_n hx hb dX2_about_59 rfl (lv_at hl 1 rfl) ?_
          refine lv_iconst (v := 3) hx hb dX2_about_60 (by decide) ?_
          refine lv_icmp_ne (tgt := 76) hx hb dX2_about_61 (by decide) (fun c61 => ?_) (fun c61 => ?_)
          · refine lv_iload hx hb dX2_about_76 (lv_at hl 0 rfl) ?_
            exact hret (va (2366 + rj x)) (()) (rfl) (⟨by unfold wOk; rw [hj, decide_eq_true c8, decide_eq_true c13]; rfl, by unfold dAbout; rw [if_neg c40, if_neg c61]⟩) hP hD hS dX2_about_78
          · refine lv_aload_n hx hb dX2_about_64 rfl (lv_at hl 2 rfl) ?_
            refine va_get (D := (dC, dI)) (ci := 2) (v := .ref r0) (C := RX2) (T := TX2) (N := 2) hx hb hts iX2 hown hK hP 0 rfl rfl 0 (by decide) l12 (fun _ h9 => h9) rfl dX2_about_65 ?_
            refine lv_iload hx hb dX2_about_68 (lv_at hl 0 rfl) ?_
            refine m_rV (As := [.int (va (2366 + rj x))]) (rest := []) ⟨hx, hb, hml, hown, hts⟩ (c_X1_lengthOf l dC dI cI r0 r1 r2 r3 r4 nu st le te ma ds dl ke (va (2366 + rj x)) hm) (cwV 1 hts gX2_about_X1_lengthOf rfl rfl rfl (by decide +kernel) ⟨Nat.le_of_ble_eq_true rfl, Nat.le_of_ble_eq_true rfl⟩) (ma_P (ma_P hP)) hK 1 0 rfl rfl rfl hl.1 rfl (Nat.le_of_ble_eq_true rfl) dX2_about_70 ⟨Nat.zero_le _, Nat.zero_le _⟩ (fun r hw => ?_)
            subst hw
            refine lv_goto (tgt := 78) hx hb dX2_about_73 (by decide) ?_
            exact hret (lenR ma le (va (2366 + rj x))) (()) (rfl) (⟨by unfold wOk; rw [hj, decide_eq_true c8, decide_eq_true c13]; rfl, by unfold dAbout; rw [if_neg c40, if_pos c61]; rfl⟩) hP hD hS dX2_about_78
        · refine lv_iload_n hx hb dX2_about_43 rfl (lv_at hl 0 rfl) ?_
          exact hret (ki (2366 + rj x)) (()) (rfl) (⟨by unfold wOk; rw [hj, decide_eq_true c8, decide_eq_true c13]; rfl, by unfold dAbout; rw [if_pos c40]⟩) hP hD hS dX2_about_44
      · obtain ⟨sa, hsa⟩ := hxs.2.2.1
        exact hthr 72 sa "no such name or what" (by unfold wOk; rw [decide_eq_false c13, Bool.and_false, Bool.and_false]) hsa hl.1 (Nat.le_of_ble_eq_true rfl) dX2_about_16 dX2_about_19 dX2_about_20 dX2_about_22 dX2_about_25
set_option maxHeartbeats 4000000 in
set_option maxRecDepth 100000 in
theorem c_X2_number (l : Launch) (dC : Nat → ClassId) (dI : Nat → Nat → Nat) (g0 r0 p0 : Nat) (cI : ClassId) (p1 p2 p3 p4 p5 p6 : Nat) (ki va : Nat → Int32) (sp sg : Nat → Nat) (sk sv : Nat → Int32) (sc og r1 r2 r3 r4 : Nat) (nu : Nat → Int32) (st le : Nat → Nat) (te : Nat → Int32) (ma ds dl : Nat) (ke : Int32) (x y : Int32) (hl0 : l.stackTraces = false) (hm : ma ≤ 513) (hst : ∀ j, j < ma → st j + le j ≤ 512) : mXi l yX2_number wsX2_number ({ frames := 6, cells := 1, slots := 6, locals := 91 }) (dC, dI) cI [.ref g0, .int x, .int y] (wG g0 r0 p0 ++ (wP cI r0 p0 p1 p2 p3 p4 p5 p6 ki va sp sg sk sv sc og ++ wR cI r0 r1 r2 r3 r4 nu st le te ma ds dl ke)) (fun r _ => ((x = -1 ∧ y = -1) ∨ dHas x y (ki, va, sp, sg, sk, sv, sc, og, nu, st, le, te, ma, ds, dl, ke) = true) ∧ r = dNum x y (ki, va, sp, sg, sk, sv, sc, og, nu, st, le, te, ma, ds, dl, ke)) (fun u : Unit => wG g0 r0 p0 ++ (wP cI r0 p0 p1 p2 p3 p4 p5 p6 ki va sp sg sk sv sc og ++ wR cI r0 r1 r2 r3 r4 nu st le te ma ds dl ke)) (¬ (x = -1 ∧ y = -1) ∧ dHas x y (ki, va, sp, sg, sk, sv, sc, og, nu, st, le, te, ma, ds, dl, ke) = false) := by
  refine m_ofXi hl0 (cc := cX2_number) (maxL := 4) (by decide) rfl rfl (Nat.le_of_ble_eq_true rfl) rfl rfl (Nat.le_of_ble_eq_true rfl) (Nat.le_of_ble_eq_true rfl) (by decide +kernel) (by decide +kernel) (fun w h => List.mem_cons_of_mem _ (List.mem_append_right _ h)) ?_
  intro p e s m args below meth c ls A Q hx hb hts hown hml hP hK hD hA hS hl hret hxs hthr
  have hown : s.vm.findClass RX2 = some m.cls := hown
  have hl : lv_has ls 4 [(0, .ref g0), (1, .int x), (2, .int y)] := hl
  have l12 := hts (.fieldLink RX2 12 "GroupDesk" "rows" "LGroupDesk$Rows;") (by decide +kernel)
  have iX2 : ∀ w ∈ u_ws RX2 TX2 2, w ∈ wsX2_number := by decide +kernel
  refine lv_aload_n hx hb dX2_number_0 rfl (lv_at hl 0 rfl) ?_
  refine lv_iload_n hx hb dX2_number_1 rfl (lv_at hl 1 rfl) ?_
  refine m_rV (As := [.int x]) (rest := []) ⟨hx, hb, hml, hown, hts⟩ (c_X2_rowOf l dC dI g0 r0 p0 cI p1 p2 p3 p4 p5 p6 ki va sp sg sk sv sc og r1 r2 r3 r4 nu st le te ma ds dl ke x) (cwV 1 hts gX2_number_X2_rowOf rfl rfl rfl (by decide +kernel) ⟨Nat.le_of_ble_eq_true rfl, Nat.le_of_ble_eq_true rfl⟩) hP hK 2 0 rfl rfl rfl hl.1 rfl (Nat.le_of_ble_eq_true rfl) dX2_number_2 ⟨Nat.zero_le _, Nat.zero_le _⟩ (fun r hw => ?_)
  subst hw
  refine lv_istore_n (lv' := [(3, .int (dRow x (ki, va, sp, sg, sk, sv, sc, og, nu, st, le, te, ma, ds, dl, ke))), (0, .ref g0), (1, .int x), (2, .int y)]) hx hb dX2_number_5 rfl hl (by decide) rfl (fun ls hl => ?_)
  refine lv_iload_n hx hb dX2_number_6 rfl (lv_at hl 2 rfl) ?_
  refine lv_iconst (v := (-1)) hx hb dX2_number_7 (by decide) ?_
  refine lv_icmp_ne (tgt := 25) hx hb dX2_number_8 (by decide) (fun c8 => ?_) (fun c8 => ?_)
  · refine lv_aload_n hx hb dX2_number_25 rfl (lv_at hl 1 rfl) ?_
    refine va_get (D := (dC, dI)) (ci := 2) (v := .ref r0) (C := RX2) (T := TX2) (N := 2) hx hb hts iX2 hown hK hP 0 rfl rfl 0 (by decide) l12 (fun _ h9 => h9) rfl dX2_number_26 ?_
    refine lv_iload_n hx hb dX2_number_29 rfl (lv_at hl 0 rfl) ?_
    refine lv_iload_n hx hb dX2_number_30 rfl (lv_at hl 3 rfl) ?_
    refine m_rV (As := [.int (dRow x (ki, va, sp, sg, sk, sv, sc, og, nu, st, le, te, ma, ds, dl, ke)), .int y]) (rest := []) ⟨hx, hb, hml, hown, hts⟩ (c_X1_has l dC dI cI r0 r1 r2 r3 r4 nu st le te ma ds dl ke (dRow x (ki, va, sp, sg, sk, sv, sc, og, nu, st, le, te, ma, ds, dl, ke)) y hm) (cwV 2 hts gX2_number_X1_has rfl rfl rfl (by decide +kernel) ⟨Nat.le_of_ble_eq_true rfl, Nat.le_of_ble_eq_true rfl⟩) (ma_P (ma_P hP)) hK 1 0 rfl rfl rfl hl.1 rfl (Nat.le_of_ble_eq_true rfl) dX2_number_31 ⟨Nat.zero_le _, Nat.zero_le _⟩ (fun r hw => ?_)
    subst hw
    refine lv_if_ne (tgt := 47) hx hb dX2_number_34 (by decide) (fun c34 => ?_) (fun c34 => ?_)
    · refine lv_aload_n hx hb dX2_number_47 rfl (lv_at hl 1 rfl) ?_
      refine va_get (D := (dC, dI)) (ci := 2) (v := .ref r0) (C := RX2) (T := TX2) (N := 2) hx hb hts iX2 hown hK hP 0 rfl rfl 0 (by decide) l12 (fun _ h9 => h9) rfl dX2_number_48 ?_
      refine lv_iload_n hx hb dX2_number_51 rfl (lv_at hl 0 rfl) ?_
      refine lv_iload_n hx hb dX2_number_52 rfl (lv_at hl 3 rfl) ?_
      refine m_rV (As := [.int (dRow x (ki, va, sp, sg, sk, sv, sc, og, nu, st, le, te, ma, ds, dl, ke)), .int y]) (rest := []) ⟨hx, hb, hml, hown, hts⟩ (c_X1_numberAt l dC dI cI r0 r1 r2 r3 r4 nu st le te ma ds dl ke (dRow x (ki, va, sp, sg, sk, sv, sc, og, nu, st, le, te, ma, ds, dl, ke)) y hm hst) (cwV 2 hts gX2_number_X1_numberAt rfl rfl rfl (by decide +kernel) ⟨Nat.le_of_ble_eq_true rfl, Nat.le_of_ble_eq_true rfl⟩) (ma_P (ma_P hP)) hK 1 0 rfl rfl rfl hl.1 rfl (Nat.le_of_ble_eq_true rfl) dX2_number_53 ⟨Nat.zero_le _, Nat.zero_le _⟩ (fun r hw => ?_)
      subst hw
      exact hret (numR ma st le nu (dRow x (ki, va, sp, sg, sk, sv, sc, og, nu, st, le, te, ma, ds, dl, ke)) y) (()) (rfl) (⟨Or.inr (b2i_n c34), by unfold dNum; rw [if_neg (fun h => c8 h.1)]⟩) hP hD hS dX2_number_56
    · obtain ⟨sa, hsa⟩ := hxs.2.2.2
      exact hthr 81 sa "no such number" (⟨fun h => c8 h.1, b2i_0 c34⟩) hsa hl.1 (Nat.le_of_ble_eq_true rfl) dX2_number_37 dX2_number_40 dX2_number_41 dX2_number_43 dX2_number_46
  · refine lv_iload_n hx hb dX2_number_11 rfl (lv_at hl 3 rfl) ?_
    refine lv_iconst (v := (-1)) hx hb dX2_number_12 (by decide) ?_
    refine lv_icmp_ne (tgt := 25) hx hb dX2_number_13 (by decide) (fun c13 => ?_) (fun c13 => ?_)
    · refine lv_aload_n hx hb dX2_number_25 rfl (lv_at hl 1 rfl) ?_
      refine va_get (D := (dC, dI)) (ci := 2) (v := .ref r0) (C := RX2) (T := TX2) (N := 2) hx hb hts iX2 hown hK hP 0 rfl rfl 0 (by decide) l12 (fun _ h9 => h9) rfl dX2_number_26 ?_
      refine lv_iload_n hx hb dX2_number_29 rfl (lv_at hl 0 rfl) ?_
      refine lv_iload_n hx hb dX2_number_30 rfl (lv_at hl 3 rfl) ?_
      refine m_rV (As := [.int (dRow x (ki, va, sp, sg, sk, sv, sc, og, nu, st, le, te, ma, ds, dl, ke)), .int y]) (rest := []) ⟨hx, hb, hml, hown, hts⟩ (c_X1_has l dC dI cI r0 r1 r2 r3 r4 nu st le te ma ds dl ke (dRow x (ki, va, sp, sg, sk, sv, sc, og, nu, st, le, te, ma, ds, dl, ke)) y hm) (cwV 2 hts gX2_number_X1_has rfl rfl rfl (by decide +kernel) ⟨Nat.le_of_ble_eq_true rfl, Nat.le_of_ble_eq_true rfl⟩) (ma_P (ma_P hP)) hK 1 0 rfl rfl rfl hl.1 rfl (Nat.le_of_ble_eq_true rfl) dX2_number_31 ⟨Nat.zero_le _, Nat.zero_le _⟩ (fun r hw => ?_)
      subst hw
      refine lv_if_ne (tgt := 47) hx hb dX2_number_34 (by decide) (fun c34 => ?_) (fun c34 => ?_)
      · refine lv_aload_n hx hb dX2_number_47 rfl (lv_at hl 1 rfl) ?_
        refine va_get (D := (dC, dI)) (ci := 2) (v := .ref r0) (C := RX2) (T := TX2) (N := 2) hx hb hts iX2 hown hK hP 0 rfl rfl 0 (by decide) l12 (fun _ h9 => h9) rfl dX2_number_48 ?_
        refine lv_iload_n hx hb dX2_number_51 rfl (lv_at hl 0 rfl) ?_
        refine lv_iload_n hx hb dX2_number_52 rfl (lv_at hl 3 rfl) ?_
        refine m_rV (As := [.int (dRow x (ki, va, sp, sg, sk, sv, sc, og, nu, st, le, te, ma, ds, dl, ke)), .int y]) (rest := []) ⟨hx, hb, hml, hown, hts⟩ (c_X1_numberAt l dC dI cI r0 r1 r2 r3 r4 nu st le te ma ds dl ke (dRow x (ki, va, sp, sg, sk, sv, sc, og, nu, st, le, te, ma, ds, dl, ke)) y hm hst) (cwV 2 hts gX2_number_X1_numberAt rfl rfl rfl (by decide +kernel) ⟨Nat.le_of_ble_eq_true rfl, Nat.le_of_ble_eq_true rfl⟩) (ma_P (ma_P hP)) hK 1 0 rfl rfl rfl hl.1 rfl (Nat.le_of_ble_eq_true rfl) dX2_number_53 ⟨Nat.zero_le _, Nat.zero_le _⟩ (fun r hw => ?_)
        subst hw
        exact hret (numR ma st le nu (dRow x (ki, va, sp, sg, sk, sv, sc, og, nu, st, le, te, ma, ds, dl, ke)) y) (()) (rfl) (⟨Or.inr (b2i_n c34), by unfold dNum; rw [if_neg (fun h => c13 h.2)]⟩) hP hD hS dX2_number_56
      · obtain ⟨sa, hsa⟩ := hxs.2.2.2
        exact hthr 81 sa "no such number" (⟨fun h => c13 h.2, b2i_0 c34⟩) hsa hl.1 (Nat.le_of_ble_eq_true rfl) dX2_number_37 dX2_number_40 dX2_number_41 dX2_number_43 dX2_number_46
    · refine lv_aload_n hx hb dX2_number_16 rfl (lv_at hl 1 rfl) ?_
      refine va_get (D := (dC, dI)) (ci := 2) (v := .ref r0) (C := RX2) (T := TX2) (N := 2) hx hb hts iX2 hown hK hP 0 rfl rfl 0 (by decide) l12 (fun _ h9 => h9) rfl dX2_number_17 ?_
      refine lv_iload_n hx hb dX2_number_20 rfl (lv_at hl 0 rfl) ?_
      refine m_rV (As := [.int (dRow x (ki, va, sp, sg, sk, sv, sc, og, nu, st, le, te, ma, ds, dl, ke))]) (rest := []) ⟨hx, hb, hml, hown, hts⟩ (c_X1_lengthOf l dC dI cI r0 r1 r2 r3 r4 nu st le te ma ds dl ke (dRow x (ki, va, sp, sg, sk, sv, sc, og, nu, st, le, te, ma, ds, dl, ke)) hm) (cwV 1 hts gX2_number_X1_lengthOf rfl rfl rfl (by decide +kernel) ⟨Nat.le_of_ble_eq_true rfl, Nat.le_of_ble_eq_true rfl⟩) (ma_P (ma_P hP)) hK 1 0 rfl rfl rfl hl.1 rfl (Nat.le_of_ble_eq_true rfl) dX2_number_21 ⟨Nat.zero_le _, Nat.zero_le _⟩ (fun r hw => ?_)
      subst hw
      exact hret (lenR ma le (dRow x (ki, va, sp, sg, sk, sv, sc, og, nu, st, le, te, ma, ds, dl, ke))) (()) (rfl) (⟨Or.inl ⟨c8, c13⟩, by unfold dNum; rw [if_pos ⟨c8, c13⟩]; rfl⟩) hP hD hS dX2_number_24
end
section
section MX
variable {p : Program} {l : Launch} {e : Env} {R : Room} {s : State} {m : MethodId} {args : Array Value} {below : List Frame} {meth : Method} {c : Code} {H : Heap} {locs : List Loc} {cells slots : Nat} {Q : State → Prop}
variable {cc bytes : ByteArray} {pc maxL nL n index : Nat} {ret : Option FieldType} {ls : Array Slot} {rest st0 As : List Value} {D : va_G} {cI : ClassId} {A : Nat → Prop} {b : Nat} {y : MethodName} {ws Ts : List Cond} {rm : Room} {own C : String} {wc wr : va_W}
/-- a call that may throw -/
theorem m_xVi {S0 : Type} {post : Int32 → S0 → Prop} {w1 : S0 → va_W} {px : Prop} (S : CallFix p m c cc nL s args Ts own) (hM : mXi l y ws rm D cI (.ref b :: As) wc post w1 px) (cw : CallW R s args own C index y bytes maxL ret ws rm 1 6 n) (hP : va_P D vwCl (wr ++ wc) H) (hK : va_K D vwCl [(cI, .int)] s) (hE : xEnv A s s.heap) (hD : va_D A (wr ++ wc)) (hS : va_S A s.heap H locs) (hA : ∀ q, s.heap.size ≤ q → A q) (ci q0 : Nat) {T : u_T} {N : Nat} {fs : List Value} (hc : vwCl[ci]? = some (C, T, N)) (he : wc[q0]? = some (b, .inr (ci, fs)))
    (hn : As.length = n) (hsize : ls.size = nL) (hst : st0 = As.reverse ++ .ref b :: rest) (hW : (rest.map fun v => v.category).sum ≤ 8) (hdg : decode cc pc = .ok (.invokevirtual index, 3)) (hf : cells + 1 ≤ R.cells ∧ slots + 6 ≤ R.slots)
    (kx : ∀ (ce : Cell) (q9 : Addr) (H1 : Heap) (locs1 : List Loc), px → va_P D vwCl (wr ++ wc) H1 → va_D A (wr ++ wc) → va_S A s.heap H1 locs1 → H1[q9]? = some ce → ce.vm = .none → s.vm.findClass xN = some ce.cls → vx_W p l e R s m args below meth c H1 locs1 (cells + 1) (slots + 6) Q (F0 m pc ls rest) q9)
    (kk : ∀ (r : Int32) (u : S0) (H1 : Heap) (locs1 : List Loc), post r u → va_P D vwCl (wr ++ w1 u) H1 → va_D A (wr ++ w1 u) → va_S A s.heap H1 locs1 → W p l e R s m args below meth c H1 locs1 (cells + 1) (slots + 6) Q (F0 m (pc + 3) ls (.int r :: rest))) : W p l e R s m args below meth c H locs cells slots Q (F0 m pc ls st0) := by
  have hPc := ma_P hP
  have hF := ma_free hD hS hA
  refine vx_calli (vx_runV (As := As) (rest := rest) S (hM H.size) cw ⟨mPx_blind, va_recv hK hPc hc he, fun U hU hW => ⟨rfl, ⟨by rw [hU], by rw [hU]; exact hPc, va_K.moved hW.alike hK, (ma_D hD).weaken (fun _ _ _ _ => trivial)⟩, by rw [hU]; exact ((hE.kept hS.2.1).narrow hF).warm hW⟩⟩ rfl hn hsize hst (lv_room hW) hdg hf) hS (fun q _ h => hF q h) hF (fun q _ h => hF q h) (fun E ce q9 u t H1 locs1 ht hvm hw hB hz1 hk1 hS1 hce hcv hcl => ?_) (fun r u t H1 locs1 ht hvm hw hB hz1 hk1 hS1 => ?_)
  · obtain ⟨rfl, hP1, -, hD1⟩ := hB
    rw [ht] at hP1
    obtain ⟨hP2, hD2⟩ := ma_join hP hD hk1 hF hP1 hD1
    exact kx ce q9 H1 locs1 hw hP2 hD2 hS1 hce hcv hcl
  · obtain ⟨hP1, -, hD1⟩ := hB
    rw [ht] at hP1
    obtain ⟨hP2, hD2⟩ := ma_join hP hD hk1 hF hP1 hD1
    exact kk r u H1 locs1 hw hP2 hD2 hS1
end MX
/-- a body with a table of its own that always returns -/
theorem m_ofWH {l : Launch} {y : MethodName} {ws ws' : List Cond} {rm : Room} {Pc : Array Value → State → Prop} {Qc : Array Value → State → Outcome → State → Prop} {mc ms : Nat} {free : Addr → Prop} {cc : ByteArray} {maxL : Nat} {ret : Option FieldType} {hh : List (Nat × Nat × Nat × Nat)}
    (hy : plainName y.cls = true) (hw : ws = Cond.codeWith y cc maxL ret hh :: ws')
    (body : ∀ p e s m args below meth c s₁, BodyLoose p l y (headSpec ws rm) cc maxL ret e s m args below meth c s₁ → c.maxLocals = maxL → Pc args s →
      W p l e rm s m args below meth c s.heap [] 0 0 (MQ below Qc args s mc ms free) (entryFrame m args maxL)) : Met l y ws rm Pc Qc mc ms free := by
  refine MetFree.of_bodyS (code := cc) (maxLocals := maxL) (ret := ret) hy ?_ ?_
  · intro args s m h hn
    obtain ⟨m9, meth, c, hn9, h1, h2, h3, h4, -, h5, h6, -⟩ := Cond.codeWith_spec (atoms_spec (ws := ws) h _ (by rw [hw]; exact List.mem_cons_self))
    cases hn.symm.trans hn9
    exact ⟨meth, c, h1, h2, h3, h4, h5, h6⟩
  · intro p e s m args below meth c s₁ B hml hP _
    have hh0 : s₁.heap = s.heap := by rw [B.state]; rfl
    obtain ⟨t, a1, o, b1, b2, b3⟩ := body p e s m args below meth c s₁ B hml hP s₁ hh0 (Stand.of_body B)
    exact ⟨t, o, a1, b1, b2, b3⟩
/-- the law's row of one long -/
abbrev wO (o0 : Nat) (cL : ClassId) (ol : Nat → Int64) : va_W := [(o0, .inl (cL, 1, .inr (.inl ol)))]
def mPh (D : va_G) (cI cL : ClassId) (wc : va_W) (sz : Nat) : State → Prop := fun U => U.heap.size = sz ∧ va_P D vwCl wc U.heap ∧ va_K D vwCl [(cI, .int), (cL, .long)] U ∧ va_D (fun _ => True) wc ∧ xEnv (va_A wc sz) U U.heap
theorem mPh_blind {D : va_G} {cI cL : ClassId} {wc : va_W} {sz : Nat} {av : List Value} : FrameBlind (va_Pc av (mPh D cI cL wc sz)) := fun a U g mk q => by
  obtain ⟨q0, q1, qP, qK, qD, qE⟩ := q
  exact ⟨q0, q1, qP, va_K.moved (u := U) (U := U.calling g mk a) (Vm.Alike.refl U.vm) qK, qD, xEnv.same (u := U) (U := U.calling g mk a) rfl qE⟩
/-- a helper of the law: what it calls answers v, which goes into the row, or throws -/
def hPost {S0 : Type} (ol : Nat → Int64) (u0 : S0) (post : Int32 → S0 → Prop) (px : Prop) (r : Int32) (u : (Nat → Int64) × S0) : Prop := (r = 1 ∧ px ∧ u = (ol, u0)) ∨ ∃ v : Int32, r = 0 ∧ post v u.2 ∧ u.1 = vp_updL ol 0 v.toInt64
def mHi {S0 : Type} (l : Launch) (y : MethodName) (ws : List Cond) (rm : Room) (D : va_G) (cI cL : ClassId) (av : List Value) (o0 : Nat) (ol : Nat → Int64) (u0 : S0) (post : Int32 → S0 → Prop) (w1 : S0 → va_W) (px : Prop) : Prop := ∀ sz : Nat, Met l y ws rm (va_Pc av (mPh D cI cL (wO o0 cL ol ++ w1 u0) sz)) (va_Qi (hPost ol u0 post px) (fun u t => va_P D vwCl (wO o0 cL u.1 ++ w1 u.2) t.heap ∧ va_D (va_A (wO o0 cL ol ++ w1 u0) sz) (wO o0 cL u.1 ++ w1 u.2)) (va_A (wO o0 cL ol ++ w1 u0) sz)) 1 6 (va_A (wO o0 cL ol ++ w1 u0) sz)
theorem m_ofH {S0 : Type} {l : Launch} {y : MethodName} {ws ws' : List Cond} {rm : Room} {D : va_G} {cI cL : ClassId} {av : List Value} {o0 : Nat} {ol : Nat → Int64} {u0 : S0} {post : Int32 → S0 → Prop} {w1 : S0 → va_W} {px : Prop} {cc : ByteArray} {maxL : Nat} {hh : List (Nat × Nat × Nat × Nat)} (hy : plainName y.cls = true) (hw : ws = Cond.codeWith y cc maxL (some .int) hh :: ws') (hL : (lg_sl av).length ≤ maxL)
    (body : ∀ (p : Program) (e : Env) (s : State) (m : MethodId) (args : Array Value) (below : List Frame) (meth : Method) (c : Code) (ls : Array Slot) (A : Nat → Prop) (Q : State → Prop), p.tables.exec = Jvm.exec → c.code = cc → (∀ w ∈ ws, w.before args s = true) → s.vm.findClass y.cls = some m.cls → c.maxLocals = maxL → c.exceptionTable.toList = tableOf hh → va_P D vwCl (wO o0 cL ol ++ w1 u0) s.heap → va_K D vwCl [(cI, .int), (cL, .long)] s → va_D A (wO o0 cL ol ++ w1 u0) → (∀ q : Nat, s.heap.size ≤ q → A q) → va_S A s.heap s.heap [] → xEnv A s s.heap → lv_has ls maxL (lv_args 0 av) →
      (∀ {pc : Nat} {ls : Array Slot} {H : Heap} {locs : List Loc} (v : Int32) (u : (Nat → Int64) × S0), hPost ol u0 post px v u → va_P D vwCl (wO o0 cL u.1 ++ w1 u.2) H → va_D A (wO o0 cL u.1 ++ w1 u.2) → va_S A s.heap H locs → decode cc pc = .ok (.ireturn, 1) → W p l e rm s m args below meth c H locs 1 6 Q (F0 m pc ls [.int v])) →
      W p l e rm s m args below meth c s.heap [] 0 0 Q (F0 m 0 ls [])) : mHi l y ws rm D cI cL av o0 ol u0 post w1 px := by
  intro sz
  refine m_ofWH (cc := cc) (maxL := maxL) (ret := some .int) (hh := hh) hy hw ?_
  intro p e s m args below meth c s₁ B hml hv
  obtain ⟨rfl, rfl, hP, hK2, hD0, hE⟩ := hv
  rw [lg_entry_eq]
  have hts := atoms_spec (ws := ws) B.pre
  exact body p e s m _ below meth c _ _ _ B.exec B.bytes hts (findClass_of_methodNamed B.named) hml (vx_table (x := y) (hh := hh) B (hts _ (by rw [hw]; exact List.mem_cons_self))) hP hK2 hD0.self (fun q h => Or.inr h) va_S.rf hE (lv_entry av hL)
    (fun v u hp hP hD hS hd => W.iret B.exec B.bytes B.returns (fun t ht hW => ⟨⟨v, u, rfl, hp, by rw [ht]; exact hP, hD⟩, hS.F ht⟩) hS.2.2 hd B.notSynchronized)
end
section
abbrev wD (cI : ClassId) (g0 r0 r1 r2 r3 r4 p0 p1 p2 p3 p4 p5 p6 : Nat) (D : DS) : va_W := wG g0 r0 p0 ++ (wP cI r0 p0 p1 p2 p3 p4 p5 p6 D.1 D.2.1 D.2.2.1 D.2.2.2.1 D.2.2.2.2.1 D.2.2.2.2.2.1 D.2.2.2.2.2.2.1 D.2.2.2.2.2.2.2.1 ++ wR cI r0 r1 r2 r3 r4 D.2.2.2.2.2.2.2.2.1 D.2.2.2.2.2.2.2.2.2.1 D.2.2.2.2.2.2.2.2.2.2.1 D.2.2.2.2.2.2.2.2.2.2.2.1 D.2.2.2.2.2.2.2.2.2.2.2.2.1 D.2.2.2.2.2.2.2.2.2.2.2.2.2.1 D.2.2.2.2.2.2.2.2.2.2.2.2.2.2.1 D.2.2.2.2.2.2.2.2.2.2.2.2.2.2.2)
set_option maxHeartbeats 4000000 in
set_option maxRecDepth 100000 in
theorem c_L_define (l : Launch) (dC : Nat → ClassId) (dI : Nat → Nat → Nat) (cI cL : ClassId) (g0 r0 r1 r2 r3 r4 p0 p1 p2 p3 p4 p5 p6 o0 : Nat) (ol : Nat → Int64) (D : DS) (x g : Int32) (hl0 : l.stackTraces = false) (hm : D.2.2.2.2.2.2.2.2.2.2.2.2.1 ≤ 513) (hsc : D.2.2.2.2.2.2.1 ≤ 512) (hog : D.2.2.2.2.2.2.2.1 < 2 ^ 31) (hsg : ∀ j, j < D.2.2.2.2.2.2.1 → D.2.2.2.1 j < 2 ^ 31) (hsp : ∀ j, j < D.2.2.2.2.2.2.1 → D.2.2.1 j < 3367) (hd : D.2.2.2.2.2.2.2.2.2.2.2.2.2.1 + D.2.2.2.2.2.2.2.2.2.2.2.2.2.2.1 ≤ 512) : mHi l yL_define wsL_define ({ frames := 7, cells := 1, slots := 6, locals := 134 }) (dC, dI) cI cL [.ref g0, .int x, .int g, .ref o0] o0 ol D (fun r u => isR 1000 x = true ∧ r = (dDefine x g D).1 ∧ u = (dDefine x g D).2) (fun u : DS => wD cI g0 r0 r1 r2 r3 r4 p0 p1 p2 p3 p4 p5 p6 u) (isR 1000 x = false) := by
  refine m_ofH (cc := cL_define) (maxL := 5) (hh := [(0, 10, 13, 13)]) (by decide) rfl (Nat.le_of_ble_eq_true rfl) ?_
  intro p e s m args below meth c ls A Q hx hb hts hown hml htab hP hK2 hD hA hS hE hl hret
  have hown : s.vm.findClass RL = some m.cls := hown
  have hK := hK2.sub (tys' := [(cI, .int)]) [0] rfl
  have hP : va_P (dC, dI) vwCl (wO o0 cL ol ++ wD cI g0 r0 r1 r2 r3 r4 p0 p1 p2 p3 p4 p5 p6 D) s.heap := hP
  have hD : va_D A (wO o0 cL ol ++ wD cI g0 r0 r1 r2 r3 r4 p0 p1 p2 p3 p4 p5 p6 D) := hD
  have hl : lv_has ls 5 [(0, .ref g0), (1, .int x), (2, .int g), (3, .ref o0)] := hl
  refine lv_aload_n hx hb dL_define_0 rfl (lv_at hl 3 rfl) ?_
  refine lv_iconst (v := 0) hx hb dL_define_1 (by decide) ?_
  refine lv_aload_n hx hb dL_define_2 rfl (lv_at hl 0 rfl) ?_
  refine lv_iload_n hx hb dL_define_3 rfl (lv_at hl 1 rfl) ?_
  refine lv_iload_n hx hb dL_define_4 rfl (lv_at hl 2 rfl) ?_
  refine m_xVi (As := [.int x, .int g]) (rest := [.int 0, .ref o0]) ⟨hx, hb, hml, hown, hts⟩ (c_X2_define l dC dI g0 r0 p0 cI p1 p2 p3 p4 p5 p6 D.1 D.2.1 D.2.2.1 D.2.2.2.1 D.2.2.2.2.1 D.2.2.2.2.2.1 D.2.2.2.2.2.2.1 D.2.2.2.2.2.2.2.1 r1 r2 r3 r4 D.2.2.2.2.2.2.2.2.1 D.2.2.2.2.2.2.2.2.2.1 D.2.2.2.2.2.2.2.2.2.2.1 D.2.2.2.2.2.2.2.2.2.2.2.1 D.2.2.2.2.2.2.2.2.2.2.2.2.1 D.2.2.2.2.2.2.2.2.2.2.2.2.2.1 D.2.2.2.2.2.2.2.2.2.2.2.2.2.2.1 D.2.2.2.2.2.2.2.2.2.2.2.2.2.2.2 x g hl0 hm hsc hog hsg hsp hd) (cwV 2 hts gL_define_X2_define rfl rfl rfl (by decide +kernel) ⟨Nat.le_of_ble_eq_true rfl, Nat.le_of_ble_eq_true rfl⟩) hP hK hE hD hS hA 2 0 rfl rfl rfl hl.1 rfl (Nat.le_of_ble_eq_true rfl) dL_define_5 ⟨Nat.le_of_ble_eq_true rfl, Nat.le_of_ble_eq_true rfl⟩ (fun ce q9 H locs hpx hP hD hS hce hcv hcl => ?_) (fun r u H locs hw hP hD hS => ?_)
  · refine cx_catch hown ⟨0, 10, 13, 13⟩ htab (by decide) (by decide) (hts (.classLink RL 13 xN) (by decide +kernel)) (va_Nw.use rfl (hE.2.1 _ (by decide +kernel))) hce hcv hcl ?_
    refine lv_astore (lv' := [(4, .ref q9), (0, .ref g0), (1, .int x), (2, .int g), (3, .ref o0)]) hx hb dL_define_13 hl (by decide) rfl (fun ls hl => ?_)
    refine lv_iconst (v := 1) hx hb dL_define_15 (by decide) ?_
    exact hret 1 (ol, D) (Or.inl ⟨rfl, hpx, rfl⟩) hP hD hS dL_define_16
  · refine lv_i2l (v := r.toInt64) hx hb dL_define_8 rfl ?_
    refine va_last hx hb hK2 hP hD hS 0 1 rfl rfl (vp_in_nI (n := 0) (by decide) (by decide)) dL_define_9 (fun H locs hP hD hS => ?_)
    refine lv_goto (tgt := 17) hx hb dL_define_10 (by decide) ?_
    refine lv_iconst (v := 0) hx hb dL_define_17 (by decide) ?_
    exact hret 0 (vp_updL ol 0 r.toInt64, u) (Or.inr ⟨r, rfl, hw, rfl⟩) hP hD hS dL_define_18
set_option maxHeartbeats 4000000 in
set_option maxRecDepth 100000 in
theorem c_L_get (l : Launch) (dC : Nat → ClassId) (dI : Nat → Nat → Nat) (cI cL : ClassId) (g0 r0 r1 r2 r3 r4 p0 p1 p2 p3 p4 p5 p6 o0 : Nat) (ol : Nat → Int64) (D : DS) (x : Int32) (hl0 : l.stackTraces = false)  : mHi l yL_get wsL_get ({ frames := 7, cells := 1, slots := 6, locals := 112 }) (dC, dI) cI cL [.ref g0, .int x, .ref o0] o0 ol () (fun r _ => isR 2366 x = true ∧ r = dGet x D) (fun u : Unit => wD cI g0 r0 r1 r2 r3 r4 p0 p1 p2 p3 p4 p5 p6 D) (isR 2366 x = false) := by
  refine m_ofH (cc := cL_get) (maxL := 4) (hh := [(0, 9, 12, 13)]) (by decide) rfl (Nat.le_of_ble_eq_true rfl) ?_
  intro p e s m args below meth c ls A Q hx hb hts hown hml htab hP hK2 hD hA hS hE hl hret
  have hown : s.vm.findClass RL = some m.cls := hown
  have hK := hK2.sub (tys' := [(cI, .int)]) [0] rfl
  have hP : va_P (dC, dI) vwCl (wO o0 cL ol ++ wD cI g0 r0 r1 r2 r3 r4 p0 p1 p2 p3 p4 p5 p6 D) s.heap := hP
  have hD : va_D A (wO o0 cL ol ++ wD cI g0 r0 r1 r2 r3 r4 p0 p1 p2 p3 p4 p5 p6 D) := hD
  have hl : lv_has ls 4 [(0, .ref g0), (1, .int x), (2, .ref o0)] := hl
  refine lv_aload_n hx hb dL_get_0 rfl (lv_at hl 2 rfl) ?_
  refine lv_iconst (v := 0) hx hb dL_get_1 (by decide) ?_
  refine lv_aload_n hx hb dL_get_2 rfl (lv_at hl 0 rfl) ?_
  refine lv_iload_n hx hb dL_get_3 rfl (lv_at hl 1 rfl) ?_
  refine m_xVi (As := [.int x]) (rest := [.int 0, .ref o0]) ⟨hx, hb, hml, hown, hts⟩ (c_X2_get l dC dI g0 r0 p0 cI p1 p2 p3 p4 p5 p6 D.1 D.2.1 D.2.2.1 D.2.2.2.1 D.2.2.2.2.1 D.2.2.2.2.2.1 D.2.2.2.2.2.2.1 D.2.2.2.2.2.2.2.1 r1 r2 r3 r4 D.2.2.2.2.2.2.2.2.1 D.2.2.2.2.2.2.2.2.2.1 D.2.2.2.2.2.2.2.2.2.2.1 D.2.2.2.2.2.2.2.2.2.2.2.1 D.2.2.2.2.2.2.2.2.2.2.2.2.1 D.2.2.2.2.2.2.2.2.2.2.2.2.2.1 D.2.2.2.2.2.2.2.2.2.2.2.2.2.2.1 D.2.2.2.2.2.2.2.2.2.2.2.2.2.2.2 x hl0) (cwV 1 hts gL_get_X2_get rfl rfl rfl (by decide +kernel) ⟨Nat.le_of_ble_eq_true rfl, Nat.le_of_ble_eq_true rfl⟩) hP hK hE hD hS hA 2 0 rfl rfl rfl hl.1 rfl (Nat.le_of_ble_eq_true rfl) dL_get_4 ⟨Nat.le_of_ble_eq_true rfl, Nat.le_of_ble_eq_true rfl⟩ (fun ce q9 H locs hpx hP hD hS hce hcv hcl => ?_) (fun r u H locs hw hP hD hS => ?_)
  · refine cx_catch hown ⟨0, 9, 12, 13⟩ htab (by decide) (by decide) (hts (.classLink RL 13 xN) (by decide +kernel)) (va_Nw.use rfl (hE.2.1 _ (by decide +kernel))) hce hcv hcl ?_
    refine lv_astore_n (lv' := [(3, .ref q9), (0, .ref g0), (1, .int x), (2, .ref o0)]) hx hb dL_get_12 rfl hl (by decide) rfl (fun ls hl => ?_)
    refine lv_iconst (v := 1) hx hb dL_get_13 (by decide) ?_
    exact hret 1 (ol, ()) (Or.inl ⟨rfl, hpx, rfl⟩) hP hD hS dL_get_14
  · refine lv_i2l (v := r.toInt64) hx hb dL_get_7 rfl ?_
    refine va_last hx hb hK2 hP hD hS 0 1 rfl rfl (vp_in_nI (n := 0) (by decide) (by decide)) dL_get_8 (fun H locs hP hD hS => ?_)
    refine lv_goto (tgt := 15) hx hb dL_get_9 (by decide) ?_
    refine lv_iconst (v := 0) hx hb dL_get_15 (by decide) ?_
    exact hret 0 (vp_updL ol 0 r.toInt64, u) (Or.inr ⟨r, rfl, hw, rfl⟩) hP hD hS dL_get_16
set_option maxHeartbeats 4000000 in
set_option maxRecDepth 100000 in
theorem c_L_about (l : Launch) (dC : Nat → ClassId) (dI : Nat → Nat → Nat) (cI cL : ClassId) (g0 r0 r1 r2 r3 r4 p0 p1 p2 p3 p4 p5 p6 o0 : Nat) (ol : Nat → Int64) (D : DS) (x y : Int32) (hl0 : l.stackTraces = false) (hm : D.2.2.2.2.2.2.2.2.2.2.2.2.1 ≤ 513) : mHi l yL_about wsL_about ({ frames := 7, cells := 1, slots := 6, locals := 115 }) (dC, dI) cI cL [.ref g0, .int x, .int y, .ref o0] o0 ol () (fun r _ => (isR 1000 x && wOk y) = true ∧ r = dAbout x y D) (fun u : Unit => wD cI g0 r0 r1 r2 r3 r4 p0 p1 p2 p3 p4 p5 p6 D) ((isR 1000 x && wOk y) = false) := by
  refine m_ofH (cc := cL_about) (maxL := 5) (hh := [(0, 10, 13, 13)]) (by decide) rfl (Nat.le_of_ble_eq_true rfl) ?_
  intro p e s m args below meth c ls A Q hx hb hts hown hml htab hP hK2 hD hA hS hE hl hret
  have hown : s.vm.findClass RL = some m.cls := hown
  have hK := hK2.sub (tys' := [(cI, .int)]) [0] rfl
  have hP : va_P (dC, dI) vwCl (wO o0 cL ol ++ wD cI g0 r0 r1 r2 r3 r4 p0 p1 p2 p3 p4 p5 p6 D) s.heap := hP
  have hD : va_D A (wO o0 cL ol ++ wD cI g0 r0 r1 r2 r3 r4 p0 p1 p2 p3 p4 p5 p6 D) := hD
  have hl : lv_has ls 5 [(0, .ref g0), (1, .int x), (2, .int y), (3, .ref o0)] := hl
  refine lv_aload_n hx hb dL_about_0 rfl (lv_at hl 3 rfl) ?_
  refine lv_iconst (v := 0) hx hb dL_about_1 (by decide) ?_
  refine lv_aload_n hx hb dL_about_2 rfl (lv_at hl 0 rfl) ?_
  refine lv_iload_n hx hb dL_about_3 rfl (lv_at hl 1 rfl) ?_
  refine lv_iload_n hx hb dL_about_4 rfl (lv_at hl 2 rfl) ?_
  refine m_xVi (As := [.int x, .int y]) (rest := [.int 0, .ref o0]) ⟨hx, hb, hml, hown, hts⟩ (c_X2_about l dC dI g0 r0 p0 cI p1 p2 p3 p4 p5 p6 D.1 D.2.1 D.2.2.1 D.2.2.2.1 D.2.2.2.2.1 D.2.2.2.2.2.1 D.2.2.2.2.2.2.1 D.2.2.2.2.2.2.2.1 r1 r2 r3 r4 D.2.2.2.2.2.2.2.2.1 D.2.2.2.2.2.2.2.2.2.1 D.2.2.2.2.2.2.2.2.2.2.1 D.2.2.2.2.2.2.2.2.2.2.2.1 D.2.2.2.2.2.2.2.2.2.2.2.2.1 D.2.2.2.2.2.2.2.2.2.2.2.2.2.1 D.2.2.2.2.2.2.2.2.2.2.2.2.2.2.1 D.2.2.2.2.2.2.2.2.2.2.2.2.2.2.2 x y hl0 hm) (cwV 2 hts gL_about_X2_about rfl rfl rfl (by decide +kernel) ⟨Nat.le_of_ble_eq_true rfl, Nat.le_of_ble_eq_true rfl⟩) hP hK hE hD hS hA 2 0 rfl rfl rfl hl.1 rfl (Nat.le_of_ble_eq_true rfl) dL_about_5 ⟨Nat.le_of_ble_eq_true rfl, Nat.le_of_ble_eq_true rfl⟩ (fun ce q9 H locs hpx hP hD hS hce hcv hcl => ?_) (fun r u H locs hw hP hD hS => ?_)
  · refine cx_catch hown ⟨0, 10, 13, 13⟩ htab (by decide) (by decide) (hts (.classLink RL 13 xN) (by decide +kernel)) (va_Nw.use rfl (hE.2.1 _ (by decide +kernel))) hce hcv hcl ?_
    refine lv_astore (lv' := [(4, .ref q9), (0, .ref g0), (1, .int x), (2, .int y), (3, .ref o0)]) hx hb dL_about_13 hl (by decide) rfl (fun ls hl => ?_)
    refine lv_iconst (v := 1) hx hb dL_about_15 (by decide) ?_
    exact hret 1 (ol, ()) (Or.inl ⟨rfl, hpx, rfl⟩) hP hD hS dL_about_16
  · refine lv_i2l (v := r.toInt64) hx hb dL_about_8 rfl ?_
    refine va_last hx hb hK2 hP hD hS 0 1 rfl rfl (vp_in_nI (n := 0) (by decide) (by decide)) dL_about_9 (fun H locs hP hD hS => ?_)
    refine lv_goto (tgt := 17) hx hb dL_about_10 (by decide) ?_
    refine lv_iconst (v := 0) hx hb dL_about_17 (by decide) ?_
    exact hret 0 (vp_updL ol 0 r.toInt64, u) (Or.inr ⟨r, rfl, hw, rfl⟩) hP hD hS dL_about_18
set_option maxHeartbeats 4000000 in
set_option maxRecDepth 100000 in
theorem c_L_number (l : Launch) (dC : Nat → ClassId) (dI : Nat → Nat → Nat) (cI cL : ClassId) (g0 r0 r1 r2 r3 r4 p0 p1 p2 p3 p4 p5 p6 o0 : Nat) (ol : Nat → Int64) (D : DS) (x y : Int32) (hl0 : l.stackTraces = false) (hm : D.2.2.2.2.2.2.2.2.2.2.2.2.1 ≤ 513) (hst : ∀ j, j < D.2.2.2.2.2.2.2.2.2.2.2.2.1 → D.2.2.2.2.2.2.2.2.2.1 j + D.2.2.2.2.2.2.2.2.2.2.1 j ≤ 512) : mHi l yL_number wsL_number ({ frames := 7, cells := 1, slots := 6, locals := 114 }) (dC, dI) cI cL [.ref g0, .int x, .int y, .ref o0] o0 ol () (fun r _ => ((x = -1 ∧ y = -1) ∨ dHas x y D = true) ∧ r = dNum x y D) (fun u : Unit => wD cI g0 r0 r1 r2 r3 r4 p0 p1 p2 p3 p4 p5 p6 D) (¬ (x = -1 ∧ y = -1) ∧ dHas x y D = false) := by
  refine m_ofH (cc := cL_number) (maxL := 5) (hh := [(0, 10, 13, 13)]) (by decide) rfl (Nat.le_of_ble_eq_true rfl) ?_
  intro p e s m args below meth c ls A Q hx hb hts hown hml htab hP hK2 hD hA hS hE hl hret
  have hown : s.vm.findClass RL = some m.cls := hown
  have hK := hK2.sub (tys' := [(cI, .int)]) [0] rfl
  have hP : va_P (dC, dI) vwCl (wO o0 cL ol ++ wD cI g0 r0 r1 r2 r3 r4 p0 p1 p2 p3 p4 p5 p6 D) s.heap := hP
  have hD : va_D A (wO o0 cL ol ++ wD cI g0 r0 r1 r2 r3 r4 p0 p1 p2 p3 p4 p5 p6 D) := hD
  have hl : lv_has ls 5 [(0, .ref g0), (1, .int x), (2, .int y), (3, .ref o0)] := hl
  refine lv_aload_n hx hb dL_number_0 rfl (lv_at hl 3 rfl) ?_
  refine lv_iconst (v := 0) hx hb dL_number_1 (by decide) ?_
  refine lv_aload_n hx hb dL_number_2 rfl (lv_at hl 0 rfl) ?_
  refine lv_iload_n hx hb dL_number_3 rfl (lv_at hl 1 rfl) ?_
  refine lv_iload_n hx hb dL_number_4 rfl (lv_at hl 2 rfl) ?_
  refine m_xVi (As := [.int x, .int y]) (rest := [.int 0, .ref o0]) ⟨hx, hb, hml, hown, hts⟩ (c_X2_number l dC dI g0 r0 p0 cI p1 p2 p3 p4 p5 p6 D.1 D.2.1 D.2.2.1 D.2.2.2.1 D.2.2.2.2.1 D.2.2.2.2.2.1 D.2.2.2.2.2.2.1 D.2.2.2.2.2.2.2.1 r1 r2 r3 r4 D.2.2.2.2.2.2.2.2.1 D.2.2.2.2.2.2.2.2.2.1 D.2.2.2.2.2.2.2.2.2.2.1 D.2.2.2.2.2.2.2.2.2.2.2.1 D.2.2.2.2.2.2.2.2.2.2.2.2.1 D.2.2.2.2.2.2.2.2.2.2.2.2.2.1 D.2.2.2.2.2.2.2.2.2.2.2.2.2.2.1 D.2.2.2.2.2.2.2.2.2.2.2.2.2.2.2 x y hl0 hm hst) (cwV 2 hts gL_number_X2_number rfl rfl rfl (by decide +kernel) ⟨Nat.le_of_ble_eq_true rfl, Nat.le_of_ble_eq_true rfl⟩) hP hK hE hD hS hA 2 0 rfl rfl rfl hl.1 rfl (Nat.le_of_ble_eq_true rfl) dL_number_5 ⟨Nat.le_of_ble_eq_true rfl, Nat.le_of_ble_eq_true rfl⟩ (fun ce q9 H locs hpx hP hD hS hce hcv hcl => ?_) (fun r u H locs hw hP hD hS => ?_)
  · refine cx_catch hown ⟨0, 10, 13, 13⟩ htab (by decide) (by decide) (hts (.classLink RL 13 xN) (by decide +kernel)) (va_Nw.use rfl (hE.2.1 _ (by decide +kernel))) hce hcv hcl ?_
    refine lv_astore (lv' := [(4, .ref q9), (0, .ref g0), (1, .int x), (2, .int y), (3, .ref o0)]) hx hb dL_number_13 hl (by decide) rfl (fun ls hl => ?_)
    refine lv_iconst (v := 1) hx hb dL_number_15 (by decide) ?_
    exact hret 1 (ol, ()) (Or.inl ⟨rfl, hpx, rfl⟩) hP hD hS dL_number_16
  · refine lv_i2l (v := r.toInt64) hx hb dL_number_8 rfl ?_
    refine va_last hx hb hK2 hP hD hS 0 1 rfl rfl (vp_in_nI (n := 0) (by decide) (by decide)) dL_number_9 (fun H locs hP hD hS => ?_)
    refine lv_goto (tgt := 17) hx hb dL_number_10 (by decide) ?_
    refine lv_iconst (v := 0) hx hb dL_number_17 (by decide) ?_
    exact hret 0 (vp_updL ol 0 r.toInt64, u) (Or.inr ⟨r, rfl, hw, rfl⟩) hP hD hS dL_number_18
end
section
theorem mk_arr {D : va_G} {cl : List vw_C} {args : Array Value} {s : State} {ty : FieldType} (hty : ty = .int ∨ ty = .long) (h : (Cond.arrayClass ty).before args s = true) : ∃ cA : ClassId, ArrOfT s cA ty ∧ va_RA s cA ty := by
  obtain ⟨cA, kA, comp, h1, h2, h3⟩ := Cond.arrayClass_spec h
  refine ⟨cA, fun n z => ⟨fun k h => (by cases h), kA, h2, comp, h3⟩, ?_⟩
  rcases hty with rfl | rfl <;> exact h1
theorem mk_uni {s : State} {a b : ClassId} (ha : va_RA s a .int) (hb : va_RA s b .int) : a = b := Option.some.inj ((show s.vm.findClass _ = some a from ha).symm.trans hb)
theorem mk_uniL {s : State} {a b : ClassId} (ha : va_RA s a .long) (hb : va_RA s b .long) : a = b := Option.some.inj ((show s.vm.findClass _ = some a from ha).symm.trans hb)
section MN
variable {p : Program} {l : Launch} {e : Env} {R : Room} {s : State} {m : MethodId} {args : Array Value} {below : List Frame} {meth : Method} {c : Code} {H : Heap} {locs : List Loc} {cells slots : Nat} {Q : State → Prop}
variable {cc : ByteArray} {pc : Nat} {ls : Array Slot} {rest : List Value} {D : va_G} {cl : List vw_C} {A : Nat → Prop} {ws : va_W} {H0 : Heap} {cI : ClassId}
theorem mv_newi (hexec : p.tables.exec = Jvm.exec) (hb : c.code = cc) (harr : (Cond.arrayClass .int).before args s = true) (hK : va_K D cl [(cI, .int)] s) (hP : va_P D cl ws H) (hD : va_D A ws) (hS : va_S A H0 H locs) (hA : ∀ q, H0.size ≤ q → A q) {N : Nat} (hN : N < 100000) (hcells : cells + 1 ≤ R.cells) (hslots : slots + N ≤ R.slots) (hdg : decode cc pc = .ok (.newarray .int, 2))
    (kk : ∀ (q : Nat) (H1 : Heap), va_P D cl (ws ++ [(q, .inl (cI, N, .inl (fun _ => 0)))]) H1 → va_D A (ws ++ [(q, .inl (cI, N, .inl (fun _ => 0)))]) → va_S A H0 H1 locs →
      W p l e R s m args below meth c H1 locs (cells + 1) (slots + N) Q (F0 m (pc + 2) ls (.ref q :: rest))) : W p l e R s m args below meth c H locs cells slots Q (F0 m pc ls (.int (nI N) :: rest)) := by
  refine va_newa (atype := .int) (ty := .int) (a0 := (N, .inl (fun _ => 0))) hexec hb harr rfl hK hP hD hS hA (fun cA => rfl) (nI_pos (by omega)) (nI_clamp (by omega)) (by show N * 4 ≤ _; omega) hcells hslots hdg (fun q cA H1 hK1 hP1 hD1 hS1 => ?_)
  have e1 : cA = cI := mk_uni (hK1.2 1 (cA, .int) rfl).2 (hK1.2 0 (cI, .int) rfl).2
  subst e1
  exact kk q H1 hP1 hD1 hS1
end MN
/-- a constructor -/
def mCv {S : Type} (l : Launch) (y : MethodName) (ws : List Cond) (rm : Room) (D : va_G) (cI : ClassId) (av : List Value) (wc : va_W) (post : S → Prop) (w1 : S → va_W) : Prop := ∀ sz : Nat, Met l y ws rm (va_Pc av (mPw D cI wc sz)) (va_Qv post (fun u => mBw D cI (va_A wc sz) (w1 u)) (va_A wc sz)) rm.cells rm.slots (va_A wc sz)
theorem m_ofC {S0 : Type} {l : Launch} {y : MethodName} {ws ws' : List Cond} {rm : Room} {D : va_G} {cI : ClassId} {av : List Value} {wc : va_W} {post : S0 → Prop} {w1 : S0 → va_W} {cc : ByteArray} {maxL : Nat} (hy : plainName y.cls = true) (hyn : y.name = "<init>") (hw : ws = Cond.code y cc maxL none :: ws') (hL : (lg_sl av).length ≤ maxL)
    (body : ∀ (p : Program) (e : Env) (s : State) (m : MethodId) (args : Array Value) (below : List Frame) (meth : Method) (c : Code) (ls : Array Slot) (A : Nat → Prop) (Q : State → Prop), p.tables.exec = Jvm.exec → c.code = cc → (∀ w ∈ ws, w.before args s = true) → s.vm.findClass y.cls = some m.cls → c.maxLocals = maxL → meth.name = "<init>" → va_P D vwCl wc s.heap → va_K D vwCl [(cI, .int)] s → va_D A wc → (∀ q : Nat, s.heap.size ≤ q → A q) → va_S A s.heap s.heap [] → lv_has ls maxL (lv_args 0 av) →
      (∀ {pc : Nat} {ls : Array Slot} {H : Heap} {locs : List Loc} (u : S0), post u → va_P D vwCl (w1 u) H → va_D A (w1 u) → va_S A s.heap H locs → decode cc pc = .ok (.return_, 1) → W p l e rm s m args below meth c H locs rm.cells rm.slots Q (F0 m pc ls [])) →
      W p l e rm s m args below meth c s.heap [] 0 0 Q (F0 m 0 ls [])) : mCv l y ws rm D cI av wc post w1 := by
  intro sz
  refine Met.ofW (cc := cc) (maxL := maxL) (ret := none) hy hw ?_
  intro p e s m args below meth c s₁ B hml hv
  obtain ⟨rfl, rfl, hP, hK, hD0⟩ := hv
  rw [lg_entry_eq]
  exact body p e s m _ below meth c _ _ _ B.exec B.bytes (atoms_spec (ws := ws) B.pre) (findClass_of_methodNamed B.named) hml ((name_of_methodNamed B.named B.method).1.trans hyn) hP hK hD0.self (fun q h => Or.inr h) va_S.rf (lv_entry av hL) (fun u hp hP hD hS hd => m_retv B.exec B.bytes B.returns B.notSynchronized u hp hP hK hD hS hd)
set_option maxHeartbeats 4000000 in
set_option maxRecDepth 100000 in
theorem c_X1_init (l : Launch) (dC : Nat → ClassId) (dI : Nat → Nat → Nat) (cI : ClassId) (r0 : Nat) : mCv l yX1_init wsX1_init ({ frames := 1, cells := 4, slots := 2051, locals := 32 }) (dC, dI) cI [.ref r0] [(r0, .inr (1, [.null, .null, .null, .null, .int 0, .int 0, .int 0, .int 0]))] (fun _ => True) (fun u : Nat × Nat × Nat × Nat => wR cI r0 u.1 u.2.1 u.2.2.1 u.2.2.2 (fun _ => 0) (fun _ => 0) (fun _ => 0) (fun _ => 0) 1 0 0 0) := by
  refine m_ofC (cc := cX1_init) (maxL := 1) (by decide) rfl rfl (Nat.le_of_ble_eq_true rfl) ?_
  intro p e s m args below meth c ls A Q hx hb hts hown hml hin hP hK hD hA hS hl hret
  have hown : s.vm.findClass RX1 = some m.cls := hown
  have hl : lv_has ls 1 [(0, .ref r0)] := hl
  have l9 := hts (.fieldLink RX1 9 "GroupDesk$Rows" "numbers" "[I") (by decide +kernel)
  have l15 := hts (.fieldLink RX1 15 "GroupDesk$Rows" "starts" "[I") (by decide +kernel)
  have l18 := hts (.fieldLink RX1 18 "GroupDesk$Rows" "lengths" "[I") (by decide +kernel)
  have l21 := hts (.fieldLink RX1 21 "GroupDesk$Rows" "tellers" "[I") (by decide +kernel)
  have l24 := hts (.fieldLink RX1 24 "GroupDesk$Rows" "made" "I") (by decide +kernel)
  have l28 := hts (.fieldLink RX1 28 "GroupDesk$Rows" "draftStart" "I") (by decide +kernel)
  have l31 := hts (.fieldLink RX1 31 "GroupDesk$Rows" "draftLength" "I") (by decide +kernel)
  have l34 := hts (.fieldLink RX1 34 "GroupDesk$Rows" "keptNumbers" "I") (by decide +kernel)
  have iX1 : ∀ w ∈ u_ws RX1 TX1 8, w ∈ wsX1_init := by decide +kernel
  have harr := hts (.arrayClass .int) (by decide +kernel)
  refine lv_aload_n hx hb dX1_init_0 rfl (lv_at hl 0 rfl) ?_
  refine W.objInit hx hb hown (hts (.methodLink RX1 3 objectInit) (by decide +kernel)) (hts (.instanceMethod objectInit) (by decide +kernel)) (hts (.code objectInit ⟨#[0xb1]⟩ 1 none) (by decide +kernel)) rfl (by rw [hml]; exact hl.1) rfl dX1_init_1 (Nat.le_of_ble_eq_true rfl) (Nat.le_of_ble_eq_true rfl) ?_
  refine W.eq (g2 := F0 m 4 ls []) rfl ?_
  refine lv_aload_n hx hb dX1_init_4 rfl (lv_at hl 0 rfl) ?_
  refine lv_sipush (v := nI 512) hx hb dX1_init_5 (by decide) ?_
  refine mv_newi hx hb harr hK hP hD hS hA (N := 512) (by decide) (Nat.le_of_ble_eq_true rfl) (Nat.le_of_ble_eq_true rfl) dX1_init_8 (fun q8 H hP hD hS => ?_)
  have hP : va_P (dC, dI) vwCl [(r0, .inr (1, [.null, .null, .null, .null, .int 0, .int 0, .int 0, .int 0])), (q8, .inl (cI, 512, .inl (fun _ => 0)))] H := hP
  have hD : va_D A [(r0, .inr (1, [.null, .null, .null, .null, .int 0, .int 0, .int 0, .int 0])), (q8, .inl (cI, 512, .inl (fun _ => 0)))] := hD
  refine W.widen (k := 1) (n := 512) (Nat.le_of_ble_eq_true rfl) (Nat.le_of_ble_eq_true rfl) ?_
  refine va_putF (D := (dC, dI)) (ci := 1) (v := .ref q8) (ty := .array .int) (C := RX1) (T := TX1) (N := 8) hx hb hts iX1 tyX1 tyX1_ok nmX1 hown hK hP hD hS 0 rfl rfl 0 (by decide) l9 (fun _ h9 => h9) rfl hin rfl (by decide +kernel) rfl rfl (Nat.le_of_ble_eq_true rfl) dX1_init_10 (fun H locs hP hD hS => ?_)
  have hP : va_P (dC, dI) vwCl [(r0, .inr (1, [.ref q8, .null, .null, .null, .int 0, .int 0, .int 0, .int 0])), (q8, .inl (cI, 512, .inl (fun _ => 0)))] H := hP
  have hD : va_D A [(r0, .inr (1, [.ref q8, .null, .null, .null, .int 0, .int 0, .int 0, .int 0])), (q8, .inl (cI, 512, .inl (fun _ => 0)))] := hD
  refine lv_aload_n hx hb dX1_init_13 rfl (lv_at hl 0 rfl) ?_
  refine lv_sipush (v := nI 513) hx hb dX1_init_14 (by decide) ?_
  refine mv_newi hx hb harr hK hP hD hS hA (N := 513) (by decide) (Nat.le_of_ble_eq_true rfl) (Nat.le_of_ble_eq_true rfl) dX1_init_17 (fun q17 H hP hD hS => ?_)
  have hP : va_P (dC, dI) vwCl [(r0, .inr (1, [.ref q8, .null, .null, .null, .int 0, .int 0, .int 0, .int 0])), (q8, .inl (cI, 512, .inl (fun _ => 0))), (q17, .inl (cI, 513, .inl (fun _ => 0)))] H := hP
  have hD : va_D A [(r0, .inr (1, [.ref q8, .null, .null, .null, .int 0, .int 0, .int 0, .int 0])), (q8, .inl (cI, 512, .inl (fun _ => 0))), (q17, .inl (cI, 513, .inl (fun _ => 0)))] := hD
  refine W.widen (k := 2) (n := 1025) (Nat.le_of_ble_eq_true rfl) (Nat.le_of_ble_eq_true rfl) ?_
  refine va_putF (D := (dC, dI)) (ci := 1) (v := .ref q17) (ty := .array .int) (C := RX1) (T := TX1) (N := 8) hx hb hts iX1 tyX1 tyX1_ok nmX1 hown hK hP hD hS 0 rfl rfl 1 (by decide) l15 (fun _ h9 => h9) rfl hin rfl (by decide +kernel) rfl rfl (Nat.le_of_ble_eq_true rfl) dX1_init_19 (fun H locs hP hD hS => ?_)
  have hP : va_P (dC, dI) vwCl [(r0, .inr (1, [.ref q8, .ref q17, .null, .null, .int 0, .int 0, .int 0, .int 0])), (q8, .inl (cI, 512, .inl (fun _ => 0))), (q17, .inl (cI, 513, .inl (fun _ => 0)))] H := hP
  have hD : va_D A [(r0, .inr (1, [.ref q8, .ref q17, .null, .null, .int 0, .int 0, .int 0, .int 0])), (q8, .inl (cI, 512, .inl (fun _ => 0))), (q17, .inl (cI, 513, .inl (fun _ => 0)))] := hD
  refine lv_aload_n hx hb dX1_init_22 rfl (lv_at hl 0 rfl) ?_
  refine lv_sipush (v := nI 513) hx hb dX1_init_23 (by decide) ?_
  refine mv_newi hx hb harr hK hP hD hS hA (N := 513) (by decide) (Nat.le_of_ble_eq_true rfl) (Nat.le_of_ble_eq_true rfl) dX1_init_26 (fun q26 H hP hD hS => ?_)
  have hP : va_P (dC, dI) vwCl [(r0, .inr (1, [.ref q8, .ref q17, .null, .null, .int 0, .int 0, .int 0, .int 0])), (q8, .inl (cI, 512, .inl (fun _ => 0))), (q17, .inl (cI, 513, .inl (fun _ => 0))), (q26, .inl (cI, 513, .inl (fun _ => 0)))] H := hP
  have hD : va_D A [(r0, .inr (1, [.ref q8, .ref q17, .null, .null, .int 0, .int 0, .int 0, .int 0])), (q8, .inl (cI, 512, .inl (fun _ => 0))), (q17, .inl (cI, 513, .inl (fun _ => 0))), (q26, .inl (cI, 513, .inl (fun _ => 0)))] := hD
  refine W.widen (k := 3) (n := 1538) (Nat.le_of_ble_eq_true rfl) (Nat.le_of_ble_eq_true rfl) ?_
  refine va_putF (D := (dC, dI)) (ci := 1) (v := .ref q26) (ty := .array .int) (C := RX1) (T := TX1) (N := 8) hx hb hts iX1 tyX1 tyX1_ok nmX1 hown hK hP hD hS 0 rfl rfl 2 (by decide) l18 (fun _ h9 => h9) rfl hin rfl (by decide +kernel) rfl rfl (Nat.le_of_ble_eq_true rfl) dX1_init_28 (fun H locs hP hD hS => ?_)
  have hP : va_P (dC, dI) vwCl [(r0, .inr (1, [.ref q8, .ref q17, .ref q26, .null, .int 0, .int 0, .int 0, .int 0])), (q8, .inl (cI, 512, .inl (fun _ => 0))), (q17, .inl (cI, 513, .inl (fun _ => 0))), (q26, .inl (cI, 513, .inl (fun _ => 0)))] H := hP
  have hD : va_D A [(r0, .inr (1, [.ref q8, .ref q17, .ref q26, .null, .int 0, .int 0, .int 0, .int 0])), (q8, .inl (cI, 512, .inl (fun _ => 0))), (q17, .inl (cI, 513, .inl (fun _ => 0))), (q26, .inl (cI, 513, .inl (fun _ => 0)))] := hD
  refine lv_aload_n hx hb dX1_init_31 rfl (lv_at hl 0 rfl) ?_
  refine lv_sipush (v := nI 513) hx hb dX1_init_32 (by decide) ?_
  refine mv_newi hx hb harr hK hP hD hS hA (N := 513) (by decide) (Nat.le_of_ble_eq_true rfl) (Nat.le_of_ble_eq_true rfl) dX1_init_35 (fun q35 H hP hD hS => ?_)
  have hP : va_P (dC, dI) vwCl [(r0, .inr (1, [.ref q8, .ref q17, .ref q26, .null, .int 0, .int 0, .int 0, .int 0])), (q8, .inl (cI, 512, .inl (fun _ => 0))), (q17, .inl (cI, 513, .inl (fun _ => 0))), (q26, .inl (cI, 513, .inl (fun _ => 0))), (q35, .inl (cI, 513, .inl (fun _ => 0)))] H := hP
  have hD : va_D A [(r0, .inr (1, [.ref q8, .ref q17, .ref q26, .null, .int 0, .int 0, .int 0, .int 0])), (q8, .inl (cI, 512, .inl (fun _ => 0))), (q17, .inl (cI, 513, .inl (fun _ => 0))), (q26, .inl (cI, 513, .inl (fun _ => 0))), (q35, .inl (cI, 513, .inl (fun _ => 0)))] := hD
  refine W.widen (k := 4) (n := 2051) (Nat.le_of_ble_eq_true rfl) (Nat.le_of_ble_eq_true rfl) ?_
  refine va_putF (D := (dC, dI)) (ci := 1) (v := .ref q35) (ty := .array .int) (C := RX1) (T := TX1) (N := 8) hx hb hts iX1 tyX1 tyX1_ok nmX1 hown hK hP hD hS 0 rfl rfl 3 (by decide) l21 (fun _ h9 => h9) rfl hin rfl (by decide +kernel) rfl rfl (Nat.le_of_ble_eq_true rfl) dX1_init_37 (fun H locs hP hD hS => ?_)
  have hP : va_P (dC, dI) vwCl [(r0, .inr (1, [.ref q8, .ref q17, .ref q26, .ref q35, .int 0, .int 0, .int 0, .int 0])), (q8, .inl (cI, 512, .inl (fun _ => 0))), (q17, .inl (cI, 513, .inl (fun _ => 0))), (q26, .inl (cI, 513, .inl (fun _ => 0))), (q35, .inl (cI, 513, .inl (fun _ => 0)))] H := hP
  have hD : va_D A [(r0, .inr (1, [.ref q8, .ref q17, .ref q26, .ref q35, .int 0, .int 0, .int 0, .int 0])), (q8, .inl (cI, 512, .inl (fun _ => 0))), (q17, .inl (cI, 513, .inl (fun _ => 0))), (q26, .inl (cI, 513, .inl (fun _ => 0))), (q35, .inl (cI, 513, .inl (fun _ => 0)))] := hD
  refine lv_aload_n hx hb dX1_init_40 rfl (lv_at hl 0 rfl) ?_
  refine lv_iconst (v := 1) hx hb dX1_init_41 (by decide) ?_
  refine va_put (D := (dC, dI)) (ci := 1) (v := .int 1) (ty := .int) (C := RX1) (T := TX1) (N := 8) hx hb hts iX1 tyX1 tyX1_ok nmX1 hown hK hP hD hS 0 rfl rfl 4 (by decide) l24 (fun _ h9 => h9) rfl (by decide +kernel) rfl rfl (Nat.le_of_ble_eq_true rfl) dX1_init_42 (fun H locs hP hD hS => ?_)
  have hP : va_P (dC, dI) vwCl [(r0, .inr (1, [.ref q8, .ref q17, .ref q26, .ref q35, .int 1, .int 0, .int 0, .int 0])), (q8, .inl (cI, 512, .inl (fun _ => 0))), (q17, .inl (cI, 513, .inl (fun _ => 0))), (q26, .inl (cI, 513, .inl (fun _ => 0))), (q35, .inl (cI, 513, .inl (fun _ => 0)))] H := hP
  have hD : va_D A [(r0, .inr (1, [.ref q8, .ref q17, .ref q26, .ref q35, .int 1, .int 0, .int 0, .int 0])), (q8, .inl (cI, 512, .inl (fun _ => 0))), (q17, .inl (cI, 513, .inl (fun _ => 0))), (q26, .inl (cI, 513, .inl (fun _ => 0))), (q35, .inl (cI, 513, .inl (fun _ => 0)))] := hD
  refine lv_aload_n hx hb dX1_init_45 rfl (lv_at hl 0 rfl) ?_
  refine lv_iconst (v := 0) hx hb dX1_init_46 (by decide) ?_
  refine va_put (D := (dC, dI)) (ci := 1) (v := .int 0) (ty := .int) (C := RX1) (T := TX1) (N := 8) hx hb hts iX1 tyX1 tyX1_ok nmX1 hown hK hP hD hS 0 rfl rfl 5 (by decide) l28 (fun _ h9 => h9) rfl (by decide +kernel) rfl rfl (Nat.le_of_ble_eq_true rfl) dX1_init_47 (fun H locs hP hD hS => ?_)
  have hP : va_P (dC, dI) vwCl [(r0, .inr (1, [.ref q8, .ref q17, .ref q26, .ref q35, .int 1, .int 0, .int 0, .int 0])), (q8, .inl (cI, 512, .inl (fun _ => 0))), (q17, .inl (cI, 513, .inl (fun _ => 0))), (q26, .inl (cI, 513, .inl (fun _ => 0))), (q35, .inl (cI, 513, .inl (fun _ => 0)))] H := hP
  have hD : va_D A [(r0, .inr (1, [.ref q8, .ref q17, .ref q26, .ref q35, .int 1, .int 0, .int 0, .int 0])), (q8, .inl (cI, 512, .inl (fun _ => 0))), (q17, .inl (cI, 513, .inl (fun _ => 0))), (q26, .inl (cI, 513, .inl (fun _ => 0))), (q35, .inl (cI, 513, .inl (fun _ => 0)))] := hD
  refine lv_aload_n hx hb dX1_init_50 rfl (lv_at hl 0 rfl) ?_
  refine lv_iconst (v := 0) hx hb dX1_init_51 (by decide) ?_
  refine va_put (D := (dC, dI)) (ci := 1) (v := .int 0) (ty := .int) (C := RX1) (T := TX1) (N := 8) hx hb hts iX1 tyX1 tyX1_ok nmX1 hown hK hP hD hS 0 rfl rfl 6 (by decide) l31 (fun _ h9 => h9) rfl (by decide +kernel) rfl rfl (Nat.le_of_ble_eq_true rfl) dX1_init_52 (fun H locs hP hD hS => ?_)
  have hP : va_P (dC, dI) vwCl [(r0, .inr (1, [.ref q8, .ref q17, .ref q26, .ref q35, .int 1, .int 0, .int 0, .int 0])), (q8, .inl (cI, 512, .inl (fun _ => 0))), (q17, .inl (cI, 513, .inl (fun _ => 0))), (q26, .inl (cI, 513, .inl (fun _ => 0))), (q35, .inl (cI, 513, .inl (fun _ => 0)))] H := hP
  have hD : va_D A [(r0, .inr (1, [.ref q8, .ref q17, .ref q26, .ref q35, .int 1, .int 0, .int 0, .int 0])), (q8, .inl (cI, 512, .inl (fun _ => 0))), (q17, .inl (cI, 513, .inl (fun _ => 0))), (q26, .inl (cI, 513, .inl (fun _ => 0))), (q35, .inl (cI, 513, .inl (fun _ => 0)))] := hD
  refine lv_aload_n hx hb dX1_init_55 rfl (lv_at hl 0 rfl) ?_
  refine lv_iconst (v := 0) hx hb dX1_init_56 (by decide) ?_
  refine va_put (D := (dC, dI)) (ci := 1) (v := .int 0) (ty := .int) (C := RX1) (T := TX1) (N := 8) hx hb hts iX1 tyX1 tyX1_ok nmX1 hown hK hP hD hS 0 rfl rfl 7 (by decide) l34 (fun _ h9 => h9) rfl (by decide +kernel) rfl rfl (Nat.le_of_ble_eq_true rfl) dX1_init_57 (fun H locs hP hD hS => ?_)
  have hP : va_P (dC, dI) vwCl [(r0, .inr (1, [.ref q8, .ref q17, .ref q26, .ref q35, .int 1, .int 0, .int 0, .int 0])), (q8, .inl (cI, 512, .inl (fun _ => 0))), (q17, .inl (cI, 513, .inl (fun _ => 0))), (q26, .inl (cI, 513, .inl (fun _ => 0))), (q35, .inl (cI, 513, .inl (fun _ => 0)))] H := hP
  have hD : va_D A [(r0, .inr (1, [.ref q8, .ref q17, .ref q26, .ref q35, .int 1, .int 0, .int 0, .int 0])), (q8, .inl (cI, 512, .inl (fun _ => 0))), (q17, .inl (cI, 513, .inl (fun _ => 0))), (q26, .inl (cI, 513, .inl (fun _ => 0))), (q35, .inl (cI, 513, .inl (fun _ => 0)))] := hD
  exact hret (q8, q17, q26, q35) trivial hP hD hS dX1_init_60
set_option maxHeartbeats 4000000 in
set_option maxRecDepth 100000 in
theorem c_X0_init (l : Launch) (dC : Nat → ClassId) (dI : Nat → Nat → Nat) (cI : ClassId) (p0 r0 : Nat) : mCv l yX0_init wsX0_init ({ frames := 1, cells := 6, slots := 8782, locals := 32 }) (dC, dI) cI [.ref p0, .ref r0] [(p0, .inr (0, [.null, .null, .null, .null, .null, .null, .null, .int 0, .int 0]))] (fun _ => True) (fun u : Nat × Nat × Nat × Nat × Nat × Nat => wP cI r0 p0 u.1 u.2.1 u.2.2.1 u.2.2.2.1 u.2.2.2.2.1 u.2.2.2.2.2 (fun _ => 0) (fun _ => 0) (fun _ => 0) (fun _ => 0) (fun _ => 0) (fun _ => 0) 0 0) := by
  refine m_ofC (cc := cX0_init) (maxL := 2) (by decide) rfl rfl (Nat.le_of_ble_eq_true rfl) ?_
  intro p e s m args below meth c ls A Q hx hb hts hown hml hin hP hK hD hA hS hl hret
  have hown : s.vm.findClass RX0 = some m.cls := hown
  have hl : lv_has ls 2 [(0, .ref p0), (1, .ref r0)] := hl
  have l9 := hts (.fieldLink RX0 9 "GroupDesk$Places" "kinds" "[I") (by decide +kernel)
  have l15 := hts (.fieldLink RX0 15 "GroupDesk$Places" "values" "[I") (by decide +kernel)
  have l18 := hts (.fieldLink RX0 18 "GroupDesk$Places" "savedPlaces" "[I") (by decide +kernel)
  have l21 := hts (.fieldLink RX0 21 "GroupDesk$Places" "savedGroups" "[I") (by decide +kernel)
  have l24 := hts (.fieldLink RX0 24 "GroupDesk$Places" "savedKinds" "[I") (by decide +kernel)
  have l27 := hts (.fieldLink RX0 27 "GroupDesk$Places" "savedValues" "[I") (by decide +kernel)
  have l30 := hts (.fieldLink RX0 30 "GroupDesk$Places" "savedCount" "I") (by decide +kernel)
  have l34 := hts (.fieldLink RX0 34 "GroupDesk$Places" "openGroups" "I") (by decide +kernel)
  have l37 := hts (.fieldLink RX0 37 "GroupDesk$Places" "rows" "LGroupDesk$Rows;") (by decide +kernel)
  have iX0 : ∀ w ∈ u_ws RX0 TX0 9, w ∈ wsX0_init := by decide +kernel
  have harr := hts (.arrayClass .int) (by decide +kernel)
  refine lv_aload_n hx hb dX0_init_0 rfl (lv_at hl 0 rfl) ?_
  refine W.objInit hx hb hown (hts (.methodLink RX0 3 objectInit) (by decide +kernel)) (hts (.instanceMethod objectInit) (by decide +kernel)) (hts (.code objectInit ⟨#[0xb1]⟩ 1 none) (by decide +kernel)) rfl (by rw [hml]; exact hl.1) rfl dX0_init_1 (Nat.le_of_ble_eq_true rfl) (Nat.le_of_ble_eq_true rfl) ?_
  refine W.eq (g2 := F0 m 4 ls []) rfl ?_
  refine lv_aload_n hx hb dX0_init_4 rfl (lv_at hl 0 rfl) ?_
  refine lv_sipush (v := nI 3367) hx hb dX0_init_5 (by decide) ?_
  refine mv_newi hx hb harr hK hP hD hS hA (N := 3367) (by decide) (Nat.le_of_ble_eq_true rfl) (Nat.le_of_ble_eq_true rfl) dX0_init_8 (fun q8 H hP hD hS => ?_)
  have hP : va_P (dC, dI) vwCl [(p0, .inr (0, [.null, .null, .null, .null, .null, .null, .null, .int 0, .int 0])), (q8, .inl (cI, 3367, .inl (fun _ => 0)))] H := hP
  have hD : va_D A [(p0, .inr (0, [.null, .null, .null, .null, .null, .null, .null, .int 0, .int 0])), (q8, .inl (cI, 3367, .inl (fun _ => 0)))] := hD
  refine W.widen (k := 1) (n := 3367) (Nat.le_of_ble_eq_true rfl) (Nat.le_of_ble_eq_true rfl) ?_
  refine va_putF (D := (dC, dI)) (ci := 0) (v := .ref q8) (ty := .array .int) (C := RX0) (T := TX0) (N := 9) hx hb hts iX0 tyX0 tyX0_ok nmX0 hown hK hP hD hS 0 rfl rfl 1 (by decide) l9 (fun _ h9 => h9) rfl hin rfl (by decide +kernel) rfl rfl (Nat.le_of_ble_eq_true rfl) dX0_init_10 (fun H locs hP hD hS => ?_)
  have hP : va_P (dC, dI) vwCl [(p0, .inr (0, [.null, .ref q8, .null, .null, .null, .null, .null, .int 0, .int 0])), (q8, .inl (cI, 3367, .inl (fun _ => 0)))] H := hP
  have hD : va_D A [(p0, .inr (0, [.null, .ref q8, .null, .null, .null, .null, .null, .int 0, .int 0])), (q8, .inl (cI, 3367, .inl (fun _ => 0)))] := hD
  refine lv_aload_n hx hb dX0_init_13 rfl (lv_at hl 0 rfl) ?_
  refine lv_sipush (v := nI 3367) hx hb dX0_init_14 (by decide) ?_
  refine mv_newi hx hb harr hK hP hD hS hA (N := 3367) (by decide) (Nat.le_of_ble_eq_true rfl) (Nat.le_of_ble_eq_true rfl) dX0_init_17 (fun q17 H hP hD hS => ?_)
  have hP : va_P (dC, dI) vwCl [(p0, .inr (0, [.null, .ref q8, .null, .null, .null, .null, .null, .int 0, .int 0])), (q8, .inl (cI, 3367, .inl (fun _ => 0))), (q17, .inl (cI, 3367, .inl (fun _ => 0)))] H := hP
  have hD : va_D A [(p0, .inr (0, [.null, .ref q8, .null, .null, .null, .null, .null, .int 0, .int 0])), (q8, .inl (cI, 3367, .inl (fun _ => 0))), (q17, .inl (cI, 3367, .inl (fun _ => 0)))] := hD
  refine W.widen (k := 2) (n := 6734) (Nat.le_of_ble_eq_true rfl) (Nat.le_of_ble_eq_true rfl) ?_
  refine va_putF (D := (dC, dI)) (ci := 0) (v := .ref q17) (ty := .array .int) (C := RX0) (T := TX0) (N := 9) hx hb hts iX0 tyX0 tyX0_ok nmX0 hown hK hP hD hS 0 rfl rfl 2 (by decide) l15 (fun _ h9 => h9) rfl hin rfl (by decide +kernel) rfl rfl (Nat.le_of_ble_eq_true rfl) dX0_init_19 (fun H locs hP hD hS => ?_)
  have hP : va_P (dC, dI) vwCl [(p0, .inr (0, [.null, .ref q8, .ref q17, .null, .null, .null, .null, .int 0, .int 0])), (q8, .inl (cI, 3367, .inl (fun _ => 0))), (q17, .inl (cI, 3367, .inl (fun _ => 0)))] H := hP
  have hD : va_D A [(p0, .inr (0, [.null, .ref q8, .ref q17, .null, .null, .null, .null, .int 0, .int 0])), (q8, .inl (cI, 3367, .inl (fun _ => 0))), (q17, .inl (cI, 3367, .inl (fun _ => 0)))] := hD
  refine lv_aload_n hx hb dX0_init_22 rfl (lv_at hl 0 rfl) ?_
  refine lv_sipush (v := nI 512) hx hb dX0_init_23 (by decide) ?_
  refine mv_newi hx hb harr hK hP hD hS hA (N := 512) (by decide) (Nat.le_of_ble_eq_true rfl) (Nat.le_of_ble_eq_true rfl) dX0_init_26 (fun q26 H hP hD hS => ?_)
  have hP : va_P (dC, dI) vwCl [(p0, .inr (0, [.null, .ref q8, .ref q17, .null, .null, .null, .null, .int 0, .int 0])), (q8, .inl (cI, 3367, .inl (fun _ => 0))), (q17, .inl (cI, 3367, .inl (fun _ => 0))), (q26, .inl (cI, 512, .inl (fun _ => 0)))] H := hP
  have hD : va_D A [(p0, .inr (0, [.null, .ref q8, .ref q17, .null, .null, .null, .null, .int 0, .int 0])), (q8, .inl (cI, 3367, .inl (fun _ => 0))), (q17, .inl (cI, 3367, .inl (fun _ => 0))), (q26, .inl (cI, 512, .inl (fun _ => 0)))] := hD
  refine W.widen (k := 3) (n := 7246) (Nat.le_of_ble_eq_true rfl) (Nat.le_of_ble_eq_true rfl) ?_
  refine va_putF (D := (dC, dI)) (ci := 0) (v := .ref q26) (ty := .array .int) (C := RX0) (T := TX0) (N := 9) hx hb hts iX0 tyX0 tyX0_ok nmX0 hown hK hP hD hS 0 rfl rfl 3 (by decide) l18 (fun _ h9 => h9) rfl hin rfl (by decide +kernel) rfl rfl (Nat.le_of_ble_eq_true rfl) dX0_init_28 (fun H locs hP hD hS => ?_)
  have hP : va_P (dC, dI) vwCl [(p0, .inr (0, [.null, .ref q8, .ref q17, .ref q26, .null, .null, .null, .int 0, .int 0])), (q8, .inl (cI, 3367, .inl (fun _ => 0))), (q17, .inl (cI, 3367, .inl (fun _ => 0))), (q26, .inl (cI, 512, .inl (fun _ => 0)))] H := hP
  have hD : va_D A [(p0, .inr (0, [.null, .ref q8, .ref q17, .ref q26, .null, .null, .null, .int 0, .int 0])), (q8, .inl (cI, 3367, .inl (fun _ => 0))), (q17, .inl (cI, 3367, .inl (fun _ => 0))), (q26, .inl (cI, 512, .inl (fun _ => 0)))] := hD
  refine lv_aload_n hx hb dX0_init_31 rfl (lv_at hl 0 rfl) ?_
  refine lv_sipush (v := nI 512) hx hb dX0_init_32 (by decide) ?_
  refine mv_newi hx hb harr hK hP hD hS hA (N := 512) (by decide) (Nat.le_of_ble_eq_true rfl) (Nat.le_of_ble_eq_true rfl) dX0_init_35 (fun q35 H hP hD hS => ?_)
  have hP : va_P (dC, dI) vwCl [(p0, .inr (0, [.null, .ref q8, .ref q17, .ref q26, .null, .null, .null, .int 0, .int 0])), (q8, .inl (cI, 3367, .inl (fun _ => 0))), (q17, .inl (cI, 3367, .inl (fun _ => 0))), (q26, .inl (cI, 512, .inl (fun _ => 0))), (q35, .inl (cI, 512, .inl (fun _ => 0)))] H := hP
  have hD : va_D A [(p0, .inr (0, [.null, .ref q8, .ref q17, .ref q26, .null, .null, .null, .int 0, .int 0])), (q8, .inl (cI, 3367, .inl (fun _ => 0))), (q17, .inl (cI, 3367, .inl (fun _ => 0))), (q26, .inl (cI, 512, .inl (fun _ => 0))), (q35, .inl (cI, 512, .inl (fun _ => 0)))] := hD
  refine W.widen (k := 4) (n := 7758) (Nat.le_of_ble_eq_true rfl) (Nat.le_of_ble_eq_true rfl) ?_
  refine va_putF (D := (dC, dI)) (ci := 0) (v := .ref q35) (ty := .array .int) (C := RX0) (T := TX0) (N := 9) hx hb hts iX0 tyX0 tyX0_ok nmX0 hown hK hP hD hS 0 rfl rfl 4 (by decide) l21 (fun _ h9 => h9) rfl hin rfl (by decide +kernel) rfl rfl (Nat.le_of_ble_eq_true rfl) dX0_init_37 (fun H locs hP hD hS => ?_)
  have hP : va_P (dC, dI) vwCl [(p0, .inr (0, [.null, .ref q8, .ref q17, .ref q26, .ref q35, .null, .null, .int 0, .int 0])), (q8, .inl (cI, 3367, .inl (fun _ => 0))), (q17, .inl (cI, 3367, .inl (fun _ => 0))), (q26, .inl (cI, 512, .inl (fun _ => 0))), (q35, .inl (cI, 512, .inl (fun _ => 0)))] H := hP
  have hD : va_D A [(p0, .inr (0, [.null, .ref q8, .ref q17, .ref q26, .ref q35, .null, .null, .int 0, .int 0])), (q8, .inl (cI, 3367, .inl (fun _ => 0))), (q17, .inl (cI, 3367, .inl (fun _ => 0))), (q26, .inl (cI, 512, .inl (fun _ => 0))), (q35, .inl (cI, 512, .inl (fun _ => 0)))] := hD
  refine lv_aload_n hx hb dX0_init_40 rfl (lv_at hl 0 rfl) ?_
  refine lv_sipush (v := nI 512) hx hb dX0_init_41 (by decide) ?_
  refine mv_newi hx hb harr hK hP hD hS hA (N := 512) (by decide) (Nat.le_of_ble_eq_true rfl) (Nat.le_of_ble_eq_true rfl) dX0_init_44 (fun q44 H hP hD hS => ?_)
  have hP : va_P (dC, dI) vwCl [(p0, .inr (0, [.null, .ref q8, .ref q17, .ref q26, .ref q35, .null, .null, .int 0, .int 0])), (q8, .inl (cI, 3367, .inl (fun _ => 0))), (q17, .inl (cI, 3367, .inl (fun _ => 0))), (q26, .inl (cI, 512, .inl (fun _ => 0))), (q35, .inl (cI, 512, .inl (fun _ => 0))), (q44, .inl (cI, 512, .inl (fun _ => 0)))] H := hP
  have hD : va_D A [(p0, .inr (0, [.null, .ref q8, .ref q17, .ref q26, .ref q35, .null, .null, .int 0, .int 0])), (q8, .inl (cI, 3367, .inl (fun _ => 0))), (q17, .inl (cI, 3367, .inl (fun _ => 0))), (q26, .inl (cI, 512, .inl (fun _ => 0))), (q35, .inl (cI, 512, .inl (fun _ => 0))), (q44, .inl (cI, 512, .inl (fun _ => 0)))] := hD
  refine W.widen (k := 5) (n := 8270) (Nat.le_of_ble_eq_true rfl) (Nat.le_of_ble_eq_true rfl) ?_
  refine va_putF (D := (dC, dI)) (ci := 0) (v := .ref q44) (ty := .array .int) (C := RX0) (T := TX0) (N := 9) hx hb hts iX0 tyX0 tyX0_ok nmX0 hown hK hP hD hS 0 rfl rfl 5 (by decide) l24 (fun _ h9 => h9) rfl hin rfl (by decide +kernel) rfl rfl (Nat.le_of_ble_eq_true rfl) dX0_init_46 (fun H locs hP hD hS => ?_)
  have hP : va_P (dC, dI) vwCl [(p0, .inr (0, [.null, .ref q8, .ref q17, .ref q26, .ref q35, .ref q44, .null, .int 0, .int 0])), (q8, .inl (cI, 3367, .inl (fun _ => 0))), (q17, .inl (cI, 3367, .inl (fun _ => 0))), (q26, .inl (cI, 512, .inl (fun _ => 0))), (q35, .inl (cI, 512, .inl (fun _ => 0))), (q44, .inl (cI, 512, .inl (fun _ => 0)))] H := hP
  have hD : va_D A [(p0, .inr (0, [.null, .ref q8, .ref q17, .ref q26, .ref q35, .ref q44, .null, .int 0, .int 0])), (q8, .inl (cI, 3367, .inl (fun _ => 0))), (q17, .inl (cI, 3367, .inl (fun _ => 0))), (q26, .inl (cI, 512, .inl (fun _ => 0))), (q35, .inl (cI, 512, .inl (fun _ => 0))), (q44, .inl (cI, 512, .inl (fun _ => 0)))] := hD
  refine lv_aload_n hx hb dX0_init_49 rfl (lv_at hl 0 rfl) ?_
  refine lv_sipush (v := nI 512) hx hb dX0_init_50 (by decide) ?_
  refine mv_newi hx hb harr hK hP hD hS hA (N := 512) (by decide) (Nat.le_of_ble_eq_true rfl) (Nat.le_of_ble_eq_true rfl) dX0_init_53 (fun q53 H hP hD hS => ?_)
  have hP : va_P (dC, dI) vwCl [(p0, .inr (0, [.null, .ref q8, .ref q17, .ref q26, .ref q35, .ref q44, .null, .int 0, .int 0])), (q8, .inl (cI, 3367, .inl (fun _ => 0))), (q17, .inl (cI, 3367, .inl (fun _ => 0))), (q26, .inl (cI, 512, .inl (fun _ => 0))), (q35, .inl (cI, 512, .inl (fun _ => 0))), (q44, .inl (cI, 512, .inl (fun _ => 0))), (q53, .inl (cI, 512, .inl (fun _ => 0)))] H := hP
  have hD : va_D A [(p0, .inr (0, [.null, .ref q8, .ref q17, .ref q26, .ref q35, .ref q44, .null, .int 0, .int 0])), (q8, .inl (cI, 3367, .inl (fun _ => 0))), (q17, .inl (cI, 3367, .inl (fun _ => 0))), (q26, .inl (cI, 512, .inl (fun _ => 0))), (q35, .inl (cI, 512, .inl (fun _ => 0))), (q44, .inl (cI, 512, .inl (fun _ => 0))), (q53, .inl (cI, 512, .inl (fun _ => 0)))] := hD
  refine W.widen (k := 6) (n := 8782) (Nat.le_of_ble_eq_true rfl) (Nat.le_of_ble_eq_true rfl) ?_
  refine va_putF (D := (dC, dI)) (ci := 0) (v := .ref q53) (ty := .array .int) (C := RX0) (T := TX0) (N := 9) hx hb hts iX0 tyX0 tyX0_ok nmX0 hown hK hP hD hS 0 rfl rfl 6 (by decide) l27 (fun _ h9 => h9) rfl hin rfl (by decide +kernel) rfl rfl (Nat.le_of_ble_eq_true rfl) dX0_init_55 (fun H locs hP hD hS => ?_)
  have hP : va_P (dC, dI) vwCl [(p0, .inr (0, [.null, .ref q8, .ref q17, .ref q26, .ref q35, .ref q44, .ref q53, .int 0, .int 0])), (q8, .inl (cI, 3367, .inl (fun _ => 0))), (q17, .inl (cI, 3367, .inl (fun _ => 0))), (q26, .inl (cI, 512, .inl (fun _ => 0))), (q35, .inl (cI, 512, .inl (fun _ => 0))), (q44, .inl (cI, 512, .inl (fun _ => 0))), (q53, .inl (cI, 512, .inl (fun _ => 0)))] H := hP
  have hD : va_D A [(p0, .inr (0, [.null, .ref q8, .ref q17, .ref q26, .ref q35, .ref q44, .ref q53, .int 0, .int 0])), (q8, .inl (cI, 3367, .inl (fun _ => 0))), (q17, .inl (cI, 3367, .inl (fun _ => 0))), (q26, .inl (cI, 512, .inl (fun _ => 0))), (q35, .inl (cI, 512, .inl (fun _ => 0))), (q44, .inl (cI, 512, .inl (fun _ => 0))), (q53, .inl (cI, 512, .inl (fun _ => 0)))] := hD
  refine lv_aload_n hx hb dX0_init_58 rfl (lv_at hl 0 rfl) ?_
  refine lv_iconst (v := 0) hx hb dX0_init_59 (by decide) ?_
  refine va_put (D := (dC, dI)) (ci := 0) (v := .int 0) (ty := .int) (C := RX0) (T := TX0) (N := 9) hx hb hts iX0 tyX0 tyX0_ok nmX0 hown hK hP hD hS 0 rfl rfl 7 (by decide) l30 (fun _ h9 => h9) rfl (by decide +kernel) rfl rfl (Nat.le_of_ble_eq_true rfl) dX0_init_60 (fun H locs hP hD hS => ?_)
  have hP : va_P (dC, dI) vwCl [(p0, .inr (0, [.null, .ref q8, .ref q17, .ref q26, .ref q35, .ref q44, .ref q53, .int 0, .int 0])), (q8, .inl (cI, 3367, .inl (fun _ => 0))), (q17, .inl (cI, 3367, .inl (fun _ => 0))), (q26, .inl (cI, 512, .inl (fun _ => 0))), (q35, .inl (cI, 512, .inl (fun _ => 0))), (q44, .inl (cI, 512, .inl (fun _ => 0))), (q53, .inl (cI, 512, .inl (fun _ => 0)))] H := hP
  have hD : va_D A [(p0, .inr (0, [.null, .ref q8, .ref q17, .ref q26, .ref q35, .ref q44, .ref q53, .int 0, .int 0])), (q8, .inl (cI, 3367, .inl (fun _ => 0))), (q17, .inl (cI, 3367, .inl (fun _ => 0))), (q26, .inl (cI, 512, .inl (fun _ => 0))), (q35, .inl (cI, 512, .inl (fun _ => 0))), (q44, .inl (cI, 512, .inl (fun _ => 0))), (q53, .inl (cI, 512, .inl (fun _ => 0)))] := hD
  refine lv_aload_n hx hb dX0_init_63 rfl (lv_at hl 0 rfl) ?_
  refine lv_iconst (v := 0) hx hb dX0_init_64 (by decide) ?_
  refine va_put (D := (dC, dI)) (ci := 0) (v := .int 0) (ty := .int) (C := RX0) (T := TX0) (N := 9) hx hb hts iX0 tyX0 tyX0_ok nmX0 hown hK hP hD hS 0 rfl rfl 8 (by decide) l34 (fun _ h9 => h9) rfl (by decide +kernel) rfl rfl (Nat.le_of_ble_eq_true rfl) dX0_init_65 (fun H locs hP hD hS => ?_)
  have hP : va_P (dC, dI) vwCl [(p0, .inr (0, [.null, .ref q8, .ref q17, .ref q26, .ref q35, .ref q44, .ref q53, .int 0, .int 0])), (q8, .inl (cI, 3367, .inl (fun _ => 0))), (q17, .inl (cI, 3367, .inl (fun _ => 0))), (q26, .inl (cI, 512, .inl (fun _ => 0))), (q35, .inl (cI, 512, .inl (fun _ => 0))), (q44, .inl (cI, 512, .inl (fun _ => 0))), (q53, .inl (cI, 512, .inl (fun _ => 0)))] H := hP
  have hD : va_D A [(p0, .inr (0, [.null, .ref q8, .ref q17, .ref q26, .ref q35, .ref q44, .ref q53, .int 0, .int 0])), (q8, .inl (cI, 3367, .inl (fun _ => 0))), (q17, .inl (cI, 3367, .inl (fun _ => 0))), (q26, .inl (cI, 512, .inl (fun _ => 0))), (q35, .inl (cI, 512, .inl (fun _ => 0))), (q44, .inl (cI, 512, .inl (fun _ => 0))), (q53, .inl (cI, 512, .inl (fun _ => 0)))] := hD
  refine lv_aload_n hx hb dX0_init_68 rfl (lv_at hl 0 rfl) ?_
  refine lv_aload_n hx hb dX0_init_69 rfl (lv_at hl 1 rfl) ?_
  refine va_putF (D := (dC, dI)) (ci := 0) (v := .ref r0) (ty := .object "GroupDesk$Rows") (C := RX0) (T := TX0) (N := 9) hx hb hts iX0 tyX0 tyX0_ok nmX0 hown hK hP hD hS 0 rfl rfl 0 (by decide) l37 (fun _ h9 => h9) rfl hin rfl (by decide +kernel) rfl rfl (Nat.le_of_ble_eq_true rfl) dX0_init_70 (fun H locs hP hD hS => ?_)
  have hP : va_P (dC, dI) vwCl [(p0, .inr (0, [.ref r0, .ref q8, .ref q17, .ref q26, .ref q35, .ref q44, .ref q53, .int 0, .int 0])), (q8, .inl (cI, 3367, .inl (fun _ => 0))), (q17, .inl (cI, 3367, .inl (fun _ => 0))), (q26, .inl (cI, 512, .inl (fun _ => 0))), (q35, .inl (cI, 512, .inl (fun _ => 0))), (q44, .inl (cI, 512, .inl (fun _ => 0))), (q53, .inl (cI, 512, .inl (fun _ => 0)))] H := hP
  have hD : va_D A [(p0, .inr (0, [.ref r0, .ref q8, .ref q17, .ref q26, .ref q35, .ref q44, .ref q53, .int 0, .int 0])), (q8, .inl (cI, 3367, .inl (fun _ => 0))), (q17, .inl (cI, 3367, .inl (fun _ => 0))), (q26, .inl (cI, 512, .inl (fun _ => 0))), (q35, .inl (cI, 512, .inl (fun _ => 0))), (q44, .inl (cI, 512, .inl (fun _ => 0))), (q53, .inl (cI, 512, .inl (fun _ => 0)))] := hD
  exact hret (q8, q17, q26, q35, q44, q53) trivial hP hD hS dX0_init_73
set_option maxHeartbeats 4000000 in
set_option maxRecDepth 100000 in
theorem c_X3_init (l : Launch) (dC : Nat → ClassId) (dI : Nat → Nat → Nat) (cI : ClassId) (m0 : Nat) : mCv l yX3_init wsX3_init ({ frames := 1, cells := 6, slots := 25400, locals := 32 }) (dC, dI) cI [.ref m0] [(m0, .inr (3, [.int 0, .int 0, .int 0, .null, .null, .null, .null, .int 0, .null, .null, .int 0]))] (fun _ => True) (fun u : Nat × Nat × Nat × Nat × Nat × Nat => wM cI m0 u.1 u.2.1 u.2.2.1 u.2.2.2.1 u.2.2.2.2.1 u.2.2.2.2.2 0 0 0 (fun _ => 0) (fun _ => 0) (fun _ => 0) (fun _ => 0) 1 (fun _ => 0) (fun _ => 0) 0) := by
  refine m_ofC (cc := cX3_init) (maxL := 1) (by decide) rfl rfl (Nat.le_of_ble_eq_true rfl) ?_
  intro p e s m args below meth c ls A Q hx hb hts hown hml hin hP hK hD hA hS hl hret
  have hown : s.vm.findClass RX3 = some m.cls := hown
  have hl : lv_has ls 1 [(0, .ref m0)] := hl
  have l7 := hts (.fieldLink RX3 7 "GroupDeskModel" "of" "[I") (by decide +kernel)
  have l13 := hts (.fieldLink RX3 13 "GroupDeskModel" "group" "[I") (by decide +kernel)
  have l16 := hts (.fieldLink RX3 16 "GroupDeskModel" "kind" "[I") (by decide +kernel)
  have l19 := hts (.fieldLink RX3 19 "GroupDeskModel" "value" "[I") (by decide +kernel)
  have l22 := hts (.fieldLink RX3 22 "GroupDeskModel" "rows" "I") (by decide +kernel)
  have l26 := hts (.fieldLink RX3 26 "GroupDeskModel" "from" "[I") (by decide +kernel)
  have l29 := hts (.fieldLink RX3 29 "GroupDeskModel" "numbers" "[I") (by decide +kernel)
  have iX3 : ∀ w ∈ u_ws RX3 TX3 11, w ∈ wsX3_init := by decide +kernel
  have harr := hts (.arrayClass .int) (by decide +kernel)
  refine lv_aload_n hx hb dX3_init_0 rfl (lv_at hl 0 rfl) ?_
  refine W.objInit hx hb hown (hts (.methodLink RX3 1 objectInit) (by decide +kernel)) (hts (.instanceMethod objectInit) (by decide +kernel)) (hts (.code objectInit ⟨#[0xb1]⟩ 1 none) (by decide +kernel)) rfl (by rw [hml]; exact hl.1) rfl dX3_init_1 (Nat.le_of_ble_eq_true rfl) (Nat.le_of_ble_eq_true rfl) ?_
  refine W.eq (g2 := F0 m 4 ls []) rfl ?_
  refine lv_aload_n hx hb dX3_init_4 rfl (lv_at hl 0 rfl) ?_
  refine lv_sipush (v := nI 4200) hx hb dX3_init_5 (by decide) ?_
  refine mv_newi hx hb harr hK hP hD hS hA (N := 4200) (by decide) (Nat.le_of_ble_eq_true rfl) (Nat.le_of_ble_eq_true rfl) dX3_init_8 (fun q8 H hP hD hS => ?_)
  have hP : va_P (dC, dI) vwCl [(m0, .inr (3, [.int 0, .int 0, .int 0, .null, .null, .null, .null, .int 0, .null, .null, .int 0])), (q8, .inl (cI, 4200, .inl (fun _ => 0)))] H := hP
  have hD : va_D A [(m0, .inr (3, [.int 0, .int 0, .int 0, .null, .null, .null, .null, .int 0, .null, .null, .int 0])), (q8, .inl (cI, 4200, .inl (fun _ => 0)))] := hD
  refine W.widen (k := 1) (n := 4200) (Nat.le_of_ble_eq_true rfl) (Nat.le_of_ble_eq_true rfl) ?_
  refine va_putF (D := (dC, dI)) (ci := 3) (v := .ref q8) (ty := .array .int) (C := RX3) (T := TX3) (N := 11) hx hb hts iX3 tyX3 tyX3_ok nmX3 hown hK hP hD hS 0 rfl rfl 3 (by decide) l7 (fun _ h9 => h9) rfl hin rfl (by decide +kernel) rfl rfl (Nat.le_of_ble_eq_true rfl) dX3_init_10 (fun H locs hP hD hS => ?_)
  have hP : va_P (dC, dI) vwCl [(m0, .inr (3, [.int 0, .int 0, .int 0, .ref q8, .null, .null, .null, .int 0, .null, .null, .int 0])), (q8, .inl (cI, 4200, .inl (fun _ => 0)))] H := hP
  have hD : va_D A [(m0, .inr (3, [.int 0, .int 0, .int 0, .ref q8, .null, .null, .null, .int 0, .null, .null, .int 0])), (q8, .inl (cI, 4200, .inl (fun _ => 0)))] := hD
  refine lv_aload_n hx hb dX3_init_13 rfl (lv_at hl 0 rfl) ?_
  refine lv_sipush (v := nI 4200) hx hb dX3_init_14 (by decide) ?_
  refine mv_newi hx hb harr hK hP hD hS hA (N := 4200) (by decide) (Nat.le_of_ble_eq_true rfl) (Nat.le_of_ble_eq_true rfl) dX3_init_17 (fun q17 H hP hD hS => ?_)
  have hP : va_P (dC, dI) vwCl [(m0, .inr (3, [.int 0, .int 0, .int 0, .ref q8, .null, .null, .null, .int 0, .null, .null, .int 0])), (q8, .inl (cI, 4200, .inl (fun _ => 0))), (q17, .inl (cI, 4200, .inl (fun _ => 0)))] H := hP
  have hD : va_D A [(m0, .inr (3, [.int 0, .int 0, .int 0, .ref q8, .null, .null, .null, .int 0, .null, .null, .int 0])), (q8, .inl (cI, 4200, .inl (fun _ => 0))), (q17, .inl (cI, 4200, .inl (fun _ => 0)))] := hD
  refine W.widen (k := 2) (n := 8400) (Nat.le_of_ble_eq_true rfl) (Nat.le_of_ble_eq_true rfl) ?_
  refine va_putF (D := (dC, dI)) (ci := 3) (v := .ref q17) (ty := .array .int) (C := RX3) (T := TX3) (N := 11) hx hb hts iX3 tyX3 tyX3_ok nmX3 hown hK hP hD hS 0 rfl rfl 4 (by decide) l13 (fun _ h9 => h9) rfl hin rfl (by decide +kernel) rfl rfl (Nat.le_of_ble_eq_true rfl) dX3_init_19 (fun H locs hP hD hS => ?_)
  have hP : va_P (dC, dI) vwCl [(m0, .inr (3, [.int 0, .int 0, .int 0, .ref q8, .ref q17, .null, .null, .int 0, .null, .null, .int 0])), (q8, .inl (cI, 4200, .inl (fun _ => 0))), (q17, .inl (cI, 4200, .inl (fun _ => 0)))] H := hP
  have hD : va_D A [(m0, .inr (3, [.int 0, .int 0, .int 0, .ref q8, .ref q17, .null, .null, .int 0, .null, .null, .int 0])), (q8, .inl (cI, 4200, .inl (fun _ => 0))), (q17, .inl (cI, 4200, .inl (fun _ => 0)))] := hD
  refine lv_aload_n hx hb dX3_init_22 rfl (lv_at hl 0 rfl) ?_
  refine lv_sipush (v := nI 4200) hx hb dX3_init_23 (by decide) ?_
  refine mv_newi hx hb harr hK hP hD hS hA (N := 4200) (by decide) (Nat.le_of_ble_eq_true rfl) (Nat.le_of_ble_eq_true rfl) dX3_init_26 (fun q26 H hP hD hS => ?_)
  have hP : va_P (dC, dI) vwCl [(m0, .inr (3, [.int 0, .int 0, .int 0, .ref q8, .ref q17, .null, .null, .int 0, .null, .null, .int 0])), (q8, .inl (cI, 4200, .inl (fun _ => 0))), (q17, .inl (cI, 4200, .inl (fun _ => 0))), (q26, .inl (cI, 4200, .inl (fun _ => 0)))] H := hP
  have hD : va_D A [(m0, .inr (3, [.int 0, .int 0, .int 0, .ref q8, .ref q17, .null, .null, .int 0, .null, .null, .int 0])), (q8, .inl (cI, 4200, .inl (fun _ => 0))), (q17, .inl (cI, 4200, .inl (fun _ => 0))), (q26, .inl (cI, 4200, .inl (fun _ => 0)))] := hD
  refine W.widen (k := 3) (n := 12600) (Nat.le_of_ble_eq_true rfl) (Nat.le_of_ble_eq_true rfl) ?_
  refine va_putF (D := (dC, dI)) (ci := 3) (v := .ref q26) (ty := .array .int) (C := RX3) (T := TX3) (N := 11) hx hb hts iX3 tyX3 tyX3_ok nmX3 hown hK hP hD hS 0 rfl rfl 5 (by decide) l16 (fun _ h9 => h9) rfl hin rfl (by decide +kernel) rfl rfl (Nat.le_of_ble_eq_true rfl) dX3_init_28 (fun H locs hP hD hS => ?_)
  have hP : va_P (dC, dI) vwCl [(m0, .inr (3, [.int 0, .int 0, .int 0, .ref q8, .ref q17, .ref q26, .null, .int 0, .null, .null, .int 0])), (q8, .inl (cI, 4200, .inl (fun _ => 0))), (q17, .inl (cI, 4200, .inl (fun _ => 0))), (q26, .inl (cI, 4200, .inl (fun _ => 0)))] H := hP
  have hD : va_D A [(m0, .inr (3, [.int 0, .int 0, .int 0, .ref q8, .ref q17, .ref q26, .null, .int 0, .null, .null, .int 0])), (q8, .inl (cI, 4200, .inl (fun _ => 0))), (q17, .inl (cI, 4200, .inl (fun _ => 0))), (q26, .inl (cI, 4200, .inl (fun _ => 0)))] := hD
  refine lv_aload_n hx hb dX3_init_31 rfl (lv_at hl 0 rfl) ?_
  refine lv_sipush (v := nI 4200) hx hb dX3_init_32 (by decide) ?_
  refine mv_newi hx hb harr hK hP hD hS hA (N := 4200) (by decide) (Nat.le_of_ble_eq_true rfl) (Nat.le_of_ble_eq_true rfl) dX3_init_35 (fun q35 H hP hD hS => ?_)
  have hP : va_P (dC, dI) vwCl [(m0, .inr (3, [.int 0, .int 0, .int 0, .ref q8, .ref q17, .ref q26, .null, .int 0, .null, .null, .int 0])), (q8, .inl (cI, 4200, .inl (fun _ => 0))), (q17, .inl (cI, 4200, .inl (fun _ => 0))), (q26, .inl (cI, 4200, .inl (fun _ => 0))), (q35, .inl (cI, 4200, .inl (fun _ => 0)))] H := hP
  have hD : va_D A [(m0, .inr (3, [.int 0, .int 0, .int 0, .ref q8, .ref q17, .ref q26, .null, .int 0, .null, .null, .int 0])), (q8, .inl (cI, 4200, .inl (fun _ => 0))), (q17, .inl (cI, 4200, .inl (fun _ => 0))), (q26, .inl (cI, 4200, .inl (fun _ => 0))), (q35, .inl (cI, 4200, .inl (fun _ => 0)))] := hD
  refine W.widen (k := 4) (n := 16800) (Nat.le_of_ble_eq_true rfl) (Nat.le_of_ble_eq_true rfl) ?_
  refine va_putF (D := (dC, dI)) (ci := 3) (v := .ref q35) (ty := .array .int) (C := RX3) (T := TX3) (N := 11) hx hb hts iX3 tyX3 tyX3_ok nmX3 hown hK hP hD hS 0 rfl rfl 6 (by decide) l19 (fun _ h9 => h9) rfl hin rfl (by decide +kernel) rfl rfl (Nat.le_of_ble_eq_true rfl) dX3_init_37 (fun H locs hP hD hS => ?_)
  have hP : va_P (dC, dI) vwCl [(m0, .inr (3, [.int 0, .int 0, .int 0, .ref q8, .ref q17, .ref q26, .ref q35, .int 0, .null, .null, .int 0])), (q8, .inl (cI, 4200, .inl (fun _ => 0))), (q17, .inl (cI, 4200, .inl (fun _ => 0))), (q26, .inl (cI, 4200, .inl (fun _ => 0))), (q35, .inl (cI, 4200, .inl (fun _ => 0)))] H := hP
  have hD : va_D A [(m0, .inr (3, [.int 0, .int 0, .int 0, .ref q8, .ref q17, .ref q26, .ref q35, .int 0, .null, .null, .int 0])), (q8, .inl (cI, 4200, .inl (fun _ => 0))), (q17, .inl (cI, 4200, .inl (fun _ => 0))), (q26, .inl (cI, 4200, .inl (fun _ => 0))), (q35, .inl (cI, 4200, .inl (fun _ => 0)))] := hD
  refine lv_aload_n hx hb dX3_init_40 rfl (lv_at hl 0 rfl) ?_
  refine lv_iconst (v := 1) hx hb dX3_init_41 (by decide) ?_
  refine va_put (D := (dC, dI)) (ci := 3) (v := .int 1) (ty := .int) (C := RX3) (T := TX3) (N := 11) hx hb hts iX3 tyX3 tyX3_ok nmX3 hown hK hP hD hS 0 rfl rfl 7 (by decide) l22 (fun _ h9 => h9) rfl (by decide +kernel) rfl rfl (Nat.le_of_ble_eq_true rfl) dX3_init_42 (fun H locs hP hD hS => ?_)
  have hP : va_P (dC, dI) vwCl [(m0, .inr (3, [.int 0, .int 0, .int 0, .ref q8, .ref q17, .ref q26, .ref q35, .int 1, .null, .null, .int 0])), (q8, .inl (cI, 4200, .inl (fun _ => 0))), (q17, .inl (cI, 4200, .inl (fun _ => 0))), (q26, .inl (cI, 4200, .inl (fun _ => 0))), (q35, .inl (cI, 4200, .inl (fun _ => 0)))] H := hP
  have hD : va_D A [(m0, .inr (3, [.int 0, .int 0, .int 0, .ref q8, .ref q17, .ref q26, .ref q35, .int 1, .null, .null, .int 0])), (q8, .inl (cI, 4200, .inl (fun _ => 0))), (q17, .inl (cI, 4200, .inl (fun _ => 0))), (q26, .inl (cI, 4200, .inl (fun _ => 0))), (q35, .inl (cI, 4200, .inl (fun _ => 0)))] := hD
  refine lv_aload_n hx hb dX3_init_45 rfl (lv_at hl 0 rfl) ?_
  refine lv_sipush (v := nI 4200) hx hb dX3_init_46 (by decide) ?_
  refine mv_newi hx hb harr hK hP hD hS hA (N := 4200) (by decide) (Nat.le_of_ble_eq_true rfl) (Nat.le_of_ble_eq_true rfl) dX3_init_49 (fun q49 H hP hD hS => ?_)
  have hP : va_P (dC, dI) vwCl [(m0, .inr (3, [.int 0, .int 0, .int 0, .ref q8, .ref q17, .ref q26, .ref q35, .int 1, .null, .null, .int 0])), (q8, .inl (cI, 4200, .inl (fun _ => 0))), (q17, .inl (cI, 4200, .inl (fun _ => 0))), (q26, .inl (cI, 4200, .inl (fun _ => 0))), (q35, .inl (cI, 4200, .inl (fun _ => 0))), (q49, .inl (cI, 4200, .inl (fun _ => 0)))] H := hP
  have hD : va_D A [(m0, .inr (3, [.int 0, .int 0, .int 0, .ref q8, .ref q17, .ref q26, .ref q35, .int 1, .null, .null, .int 0])), (q8, .inl (cI, 4200, .inl (fun _ => 0))), (q17, .inl (cI, 4200, .inl (fun _ => 0))), (q26, .inl (cI, 4200, .inl (fun _ => 0))), (q35, .inl (cI, 4200, .inl (fun _ => 0))), (q49, .inl (cI, 4200, .inl (fun _ => 0)))] := hD
  refine W.widen (k := 5) (n := 21000) (Nat.le_of_ble_eq_true rfl) (Nat.le_of_ble_eq_true rfl) ?_
  refine va_putF (D := (dC, dI)) (ci := 3) (v := .ref q49) (ty := .array .int) (C := RX3) (T := TX3) (N := 11) hx hb hts iX3 tyX3 tyX3_ok nmX3 hown hK hP hD hS 0 rfl rfl 8 (by decide) l26 (fun _ h9 => h9) rfl hin rfl (by decide +kernel) rfl rfl (Nat.le_of_ble_eq_true rfl) dX3_init_51 (fun H locs hP hD hS => ?_)
  have hP : va_P (dC, dI) vwCl [(m0, .inr (3, [.int 0, .int 0, .int 0, .ref q8, .ref q17, .ref q26, .ref q35, .int 1, .ref q49, .null, .int 0])), (q8, .inl (cI, 4200, .inl (fun _ => 0))), (q17, .inl (cI, 4200, .inl (fun _ => 0))), (q26, .inl (cI, 4200, .inl (fun _ => 0))), (q35, .inl (cI, 4200, .inl (fun _ => 0))), (q49, .inl (cI, 4200, .inl (fun _ => 0)))] H := hP
  have hD : va_D A [(m0, .inr (3, [.int 0, .int 0, .int 0, .ref q8, .ref q17, .ref q26, .ref q35, .int 1, .ref q49, .null, .int 0])), (q8, .inl (cI, 4200, .inl (fun _ => 0))), (q17, .inl (cI, 4200, .inl (fun _ => 0))), (q26, .inl (cI, 4200, .inl (fun _ => 0))), (q35, .inl (cI, 4200, .inl (fun _ => 0))), (q49, .inl (cI, 4200, .inl (fun _ => 0)))] := hD
  refine lv_aload_n hx hb dX3_init_54 rfl (lv_at hl 0 rfl) ?_
  refine lv_sipush (v := nI 4400) hx hb dX3_init_55 (by decide) ?_
  refine mv_newi hx hb harr hK hP hD hS hA (N := 4400) (by decide) (Nat.le_of_ble_eq_true rfl) (Nat.le_of_ble_eq_true rfl) dX3_init_58 (fun q58 H hP hD hS => ?_)
  have hP : va_P (dC, dI) vwCl [(m0, .inr (3, [.int 0, .int 0, .int 0, .ref q8, .ref q17, .ref q26, .ref q35, .int 1, .ref q49, .null, .int 0])), (q8, .inl (cI, 4200, .inl (fun _ => 0))), (q17, .inl (cI, 4200, .inl (fun _ => 0))), (q26, .inl (cI, 4200, .inl (fun _ => 0))), (q35, .inl (cI, 4200, .inl (fun _ => 0))), (q49, .inl (cI, 4200, .inl (fun _ => 0))), (q58, .inl (cI, 4400, .inl (fun _ => 0)))] H := hP
  have hD : va_D A [(m0, .inr (3, [.int 0, .int 0, .int 0, .ref q8, .ref q17, .ref q26, .ref q35, .int 1, .ref q49, .null, .int 0])), (q8, .inl (cI, 4200, .inl (fun _ => 0))), (q17, .inl (cI, 4200, .inl (fun _ => 0))), (q26, .inl (cI, 4200, .inl (fun _ => 0))), (q35, .inl (cI, 4200, .inl (fun _ => 0))), (q49, .inl (cI, 4200, .inl (fun _ => 0))), (q58, .inl (cI, 4400, .inl (fun _ => 0)))] := hD
  refine W.widen (k := 6) (n := 25400) (Nat.le_of_ble_eq_true rfl) (Nat.le_of_ble_eq_true rfl) ?_
  refine va_putF (D := (dC, dI)) (ci := 3) (v := .ref q58) (ty := .array .int) (C := RX3) (T := TX3) (N := 11) hx hb hts iX3 tyX3 tyX3_ok nmX3 hown hK hP hD hS 0 rfl rfl 9 (by decide) l29 (fun _ h9 => h9) rfl hin rfl (by decide +kernel) rfl rfl (Nat.le_of_ble_eq_true rfl) dX3_init_60 (fun H locs hP hD hS => ?_)
  have hP : va_P (dC, dI) vwCl [(m0, .inr (3, [.int 0, .int 0, .int 0, .ref q8, .ref q17, .ref q26, .ref q35, .int 1, .ref q49, .ref q58, .int 0])), (q8, .inl (cI, 4200, .inl (fun _ => 0))), (q17, .inl (cI, 4200, .inl (fun _ => 0))), (q26, .inl (cI, 4200, .inl (fun _ => 0))), (q35, .inl (cI, 4200, .inl (fun _ => 0))), (q49, .inl (cI, 4200, .inl (fun _ => 0))), (q58, .inl (cI, 4400, .inl (fun _ => 0)))] H := hP
  have hD : va_D A [(m0, .inr (3, [.int 0, .int 0, .int 0, .ref q8, .ref q17, .ref q26, .ref q35, .int 1, .ref q49, .ref q58, .int 0])), (q8, .inl (cI, 4200, .inl (fun _ => 0))), (q17, .inl (cI, 4200, .inl (fun _ => 0))), (q26, .inl (cI, 4200, .inl (fun _ => 0))), (q35, .inl (cI, 4200, .inl (fun _ => 0))), (q49, .inl (cI, 4200, .inl (fun _ => 0))), (q58, .inl (cI, 4400, .inl (fun _ => 0)))] := hD
  exact hret (q8, q17, q26, q35, q49, q58) trivial hP hD hS dX3_init_63
end
section
section MCI
variable {p : Program} {l : Launch} {e : Env} {R : Room} {s : State} {m : MethodId} {args : Array Value} {below : List Frame} {meth : Method} {c : Code} {H : Heap} {locs : List Loc} {cells slots : Nat} {Q : State → Prop}
variable {cc bytes : ByteArray} {pc maxL nL n index : Nat} {ls : Array Slot} {rest st0 As : List Value} {D : va_G} {cI : ClassId} {A : Nat → Prop} {b : Nat} {H0 : Heap} {y : MethodName} {ws Ts : List Cond} {rm : Room} {own host : String} {wc wr : va_W}
theorem m_cI {S0 : Type} {post : S0 → Prop} {w1 : S0 → va_W} (S : CallFix p m c cc nL s args Ts own) (hM : mCv l y ws rm D cI (.ref b :: As) wc post w1) (cw : CallB R s args own index y bytes maxL none ws rm rm.cells rm.slots n ∧ y.name = "<init>" ∧ (Cond.instanceMethod y).before args s = true) (hP : va_P D vwCl (wr ++ wc) H) (hK : va_K D vwCl [(cI, .int)] s) (hD : va_D A (wr ++ wc)) (hS : va_S A H0 H locs) (hA : ∀ q, H0.size ≤ q → A q)
    (hn : As.length = n) (hsize : ls.size = nL) (hst : st0 = As.reverse ++ .ref b :: rest) (hW : (rest.map fun v => v.category).sum ≤ 8) (hdg : decode cc pc = .ok (.invokespecial index, 3)) (hf : cells + rm.cells ≤ R.cells ∧ slots + rm.slots ≤ R.slots)
    (kk : ∀ (u : S0) (H1 : Heap) (locs1 : List Loc), post u → va_P D vwCl (wr ++ w1 u) H1 → va_D A (wr ++ w1 u) → va_S A H0 H1 locs1 → W p l e R s m args below meth c H1 locs1 (cells + rm.cells) (slots + rm.slots) Q (F0 m (pc + 3) ls rest)) : W p l e R s m args below meth c H locs cells slots Q (F0 m pc ls st0) := by
  have hPc := ma_P hP
  have hF := ma_free hD hS hA
  refine va_callv (va_runI (As := As) (rest := rest) S (hM H.size) cw ⟨mPw_blind, fun U hU hW => ⟨rfl, by rw [hU], by rw [hU]; exact hPc, va_K.moved hW.alike hK, (ma_D hD).weaken (fun _ _ _ _ => trivial)⟩⟩ rfl hn hsize hst (lv_room hW) hdg hf) hS (fun q _ h => hF q h) hF (fun u t H1 locs1 ht hvm hw hB hz1 hk1 hS1 => ?_)
  obtain ⟨hP1, -, hD1⟩ := hB
  rw [ht] at hP1
  obtain ⟨hP2, hD2⟩ := ma_join hP hD hk1 hF hP1 hD1
  exact kk u H1 locs1 hw hP2 hD2 hS1
/-- the same, of a nest mate's constructor -/
theorem m_cIN {S0 : Type} {post : S0 → Prop} {w1 : S0 → va_W} (S : CallFix p m c cc nL s args Ts own) (hM : mCv l y ws rm D cI (.ref b :: As) wc post w1) (cw : va_CN R s args own index y host bytes maxL none ws rm rm.cells rm.slots n ∧ y.name = "<init>" ∧ (Cond.instanceMethod y).before args s = true) (hP : va_P D vwCl (wr ++ wc) H) (hK : va_K D vwCl [(cI, .int)] s) (hD : va_D A (wr ++ wc)) (hS : va_S A H0 H locs) (hA : ∀ q, H0.size ≤ q → A q)
    (hn : As.length = n) (hsize : ls.size = nL) (hst : st0 = As.reverse ++ .ref b :: rest) (hW : (rest.map fun v => v.category).sum ≤ 8) (hdg : decode cc pc = .ok (.invokespecial index, 3)) (hf : cells + rm.cells ≤ R.cells ∧ slots + rm.slots ≤ R.slots)
    (kk : ∀ (u : S0) (H1 : Heap) (locs1 : List Loc), post u → va_P D vwCl (wr ++ w1 u) H1 → va_D A (wr ++ w1 u) → va_S A H0 H1 locs1 → W p l e R s m args below meth c H1 locs1 (cells + rm.cells) (slots + rm.slots) Q (F0 m (pc + 3) ls rest)) : W p l e R s m args below meth c H locs cells slots Q (F0 m pc ls st0) := by
  have hPc := ma_P hP
  have hF := ma_free hD hS hA
  refine va_callv (va_runIN (As := As) (rest := rest) S (hM H.size) cw ⟨mPw_blind, fun U hU hW => ⟨rfl, by rw [hU], by rw [hU]; exact hPc, va_K.moved hW.alike hK, (ma_D hD).weaken (fun _ _ _ _ => trivial)⟩⟩ rfl hn hsize hst (lv_room hW) hdg hf) hS (fun q _ h => hF q h) hF (fun u t H1 locs1 ht hvm hw hB hz1 hk1 hS1 => ?_)
  obtain ⟨hP1, -, hD1⟩ := hB
  rw [ht] at hP1
  obtain ⟨hP2, hD2⟩ := ma_join hP hD hk1 hF hP1 hD1
  exact kk u H1 locs1 hw hP2 hD2 hS1
end MCI
def nW : Cond := .methodLinkNest RX2 11 yX1_init "GroupDesk"
def mPn (D : va_G) (cI : ClassId) (wc : va_W) (sz : Nat) : State → Prop := fun U => mPw D cI wc sz U ∧ va_Nw nW U
theorem mPn_blind {D : va_G} {cI : ClassId} {wc : va_W} {sz : Nat} {av : List Value} : FrameBlind (va_Pc av (mPn D cI wc sz)) := fun a U g mk q => by
  obtain ⟨q0, ⟨q1, qP, qK, qD⟩, qN⟩ := q
  exact ⟨q0, ⟨q1, qP, va_K.moved (u := U) (U := U.calling g mk a) (Vm.Alike.refl U.vm) qK, qD⟩, va_Nw.same (u := U) (U := U.calling g mk a) rfl rfl qN⟩
/-- the state of a new object of the class, and of the reference -/
def D0 : DS := ((fun _ => 0), (fun _ => 0), (fun _ => 0), (fun _ => 0), (fun _ => 0), (fun _ => 0), 0, 0, (fun _ => 0), (fun _ => 0), (fun _ => 0), (fun _ => 0), 1, 0, 0, 0)
def M0 : MS := (0, 0, 0, (fun _ => 0), (fun _ => 0), (fun _ => 0), (fun _ => 0), 1, (fun _ => 0), (fun _ => 0), 0)
set_option maxHeartbeats 4000000 in
set_option maxRecDepth 100000 in
theorem c_X2_init (l : Launch) (dC : Nat → ClassId) (dI : Nat → Nat → Nat) (cI : ClassId) (g0 sz : Nat) : Met l yX2_init wsX2_init ({ frames := 2, cells := 12, slots := 10850, locals := 64 }) (va_Pc [.ref g0] (mPn (dC, dI) cI [(g0, .inr (2, [.null, .null]))] sz)) (va_Qv (fun _ => True) (fun (u : Nat × Nat × Nat × Nat × Nat × Nat × Nat × Nat × Nat × Nat × Nat × Nat) => mBw (dC, dI) cI (va_A [(g0, .inr (2, [.null, .null]))] sz) (wD cI g0 u.1 u.2.1 u.2.2.1 u.2.2.2.1 u.2.2.2.2.1 u.2.2.2.2.2.1 u.2.2.2.2.2.2.1 u.2.2.2.2.2.2.2.1 u.2.2.2.2.2.2.2.2.1 u.2.2.2.2.2.2.2.2.2.1 u.2.2.2.2.2.2.2.2.2.2.1 u.2.2.2.2.2.2.2.2.2.2.2 D0)) (va_A [(g0, .inr (2, [.null, .null]))] sz)) 12 10850 (va_A [(g0, .inr (2, [.null, .null]))] sz) := by
  refine Met.ofW (cc := cX2_init) (maxL := 1) (ret := none) (by decide) rfl ?_
  intro p e s m args below meth c s₁ B hml hv
  obtain ⟨rfl, ⟨rfl, hP, hK, hD0⟩, hN⟩ := hv
  have hx := B.exec
  have hb := B.bytes
  have hr := B.returns
  have hts := atoms_spec (ws := wsX2_init) B.pre
  have hown : s.vm.findClass RX2 = some m.cls := findClass_of_methodNamed B.named
  have hin : meth.name = "<init>" := (name_of_methodNamed B.named B.method).1
  have hlocks := B.notSynchronized
  have hD := hD0.self (sz := s.heap.size)
  obtain ⟨A, hAe⟩ : ∃ Z, Z = va_A [(g0, .inr (2, [.null, .null]))] s.heap.size := ⟨_, rfl⟩
  rw [← hAe] at hD ⊢
  have hA : ∀ q : Nat, s.heap.size ≤ q → A q := fun q h => by rw [hAe]; exact Or.inr h
  have hS : va_S A s.heap s.heap [] := va_S.rf
  rw [lg_entry_eq]
  have hl := lv_entry ([.ref g0]) (n := 1) (Nat.le_of_ble_eq_true rfl)
  generalize (lg_sl ([.ref g0]) ++ List.replicate (1 - (lg_sl ([.ref g0])).length) Slot.unset).toArray = ls at hl ⊢
  have hl : lv_has ls 1 [(0, .ref g0)] := hl
  have l12 := hts (.fieldLink RX2 12 "GroupDesk" "rows" "LGroupDesk$Rows;") (by decide +kernel)
  have l21 := hts (.fieldLink RX2 21 "GroupDesk" "places" "LGroupDesk$Places;") (by decide +kernel)
  have iX0 : ∀ w ∈ u_ws RX0 TX0 9, w ∈ wsX2_init := by decide +kernel
  have iX1 : ∀ w ∈ u_ws RX1 TX1 8, w ∈ wsX2_init := by decide +kernel
  have iX2 : ∀ w ∈ u_ws RX2 TX2 2, w ∈ wsX2_init := by decide +kernel
  refine lv_aload_n hx hb dX2_init_0 rfl (lv_at hl 0 rfl) ?_
  refine W.objInit hx hb hown (hts (.methodLink RX2 3 objectInit) (by decide +kernel)) (hts (.instanceMethod objectInit) (by decide +kernel)) (hts (.code objectInit ⟨#[0xb1]⟩ 1 none) (by decide +kernel)) rfl (by rw [hml]; exact hl.1) rfl dX2_init_1 (Nat.le_of_ble_eq_true rfl) (Nat.le_of_ble_eq_true rfl) ?_
  refine W.eq (g2 := F0 m 4 ls []) rfl ?_
  refine lv_aload_n hx hb dX2_init_4 rfl (lv_at hl 0 rfl) ?_
  refine va_new (ci := 1) (fs := [.null, .null, .null, .null, .int 0, .int 0, .int 0, .int 0]) (C := RX1) (T := TX1) (N := 8) hx hb hts iX1 tyX1 tyX1_ok hown (hts (.classLink RX2 9 RX1) (by decide +kernel)) (hts (.instantiable RX1 8) (by decide +kernel)) (hts (.initialized RX1) (by decide +kernel)) hK hP hD hS hA rfl (fun j hj => by rcases (show j = 0 ∨ j = 1 ∨ j = 2 ∨ j = 3 ∨ j = 4 ∨ j = 5 ∨ j = 6 ∨ j = 7 by omega) with rfl | rfl | rfl | rfl | rfl | rfl | rfl | rfl <;> rfl) (Nat.le_of_ble_eq_true rfl) (Nat.le_of_ble_eq_true rfl) dX2_init_5 (fun r0 H hP hD hS => ?_)
  have hP : va_P (dC, dI) vwCl ([(g0, .inr (2, [.null, .null]))] ++ [(r0, .inr (1, [.null, .null, .null, .null, .int 0, .int 0, .int 0, .int 0]))]) _ := hP
  have hD : va_D A ([(g0, .inr (2, [.null, .null]))] ++ [(r0, .inr (1, [.null, .null, .null, .null, .int 0, .int 0, .int 0, .int 0]))]) := hD
  refine W.widen (k := 1) (n := 8) (Nat.le_of_ble_eq_true rfl) (Nat.le_of_ble_eq_true rfl) ?_
  refine lv_dup hx hb dX2_init_8 rfl ?_
  refine m_cIN (As := []) (rest := [.ref r0, .ref g0]) ⟨hx, hb, hml, hown, hts⟩ (c_X1_init l dC dI cI r0) ⟨va_cnB 0 hts gX2_init_X1_init_n11 rfl rfl rfl hN (hts (.initialized RX1) (by decide +kernel)) (by decide +kernel) ⟨Nat.le_of_ble_eq_true rfl, Nat.le_of_ble_eq_true rfl⟩, rfl, hts (.instanceMethod yX1_init) (by decide +kernel)⟩ hP hK hD hS hA rfl hl.1 rfl (Nat.le_of_ble_eq_true rfl) dX2_init_9 ⟨Nat.le_of_ble_eq_true rfl, Nat.le_of_ble_eq_true rfl⟩ (fun q H locs _ hP hD hS => ?_)
  have hP : va_P (dC, dI) vwCl ([(g0, .inr (2, [.null, .null]))] ++ wR cI r0 q.1 q.2.1 q.2.2.1 q.2.2.2 (fun _ => 0) (fun _ => 0) (fun _ => 0) (fun _ => 0) 1 0 0 0) _ := hP
  have hD : va_D A ([(g0, .inr (2, [.null, .null]))] ++ wR cI r0 q.1 q.2.1 q.2.2.1 q.2.2.2 (fun _ => 0) (fun _ => 0) (fun _ => 0) (fun _ => 0) 1 0 0 0) := hD
  refine W.widen (k := 5) (n := 2059) (Nat.le_of_ble_eq_true rfl) (Nat.le_of_ble_eq_true rfl) ?_
  refine va_putF (D := (dC, dI)) (ci := 2) (v := .ref r0) (ty := .object "GroupDesk$Rows") (C := RX2) (T := TX2) (N := 2) hx hb hts iX2 tyX2 tyX2_ok nmX2 hown hK hP hD hS 0 rfl rfl 0 (by decide) l12 (fun _ h9 => h9) rfl hin rfl (by decide +kernel) rfl rfl (Nat.le_of_ble_eq_true rfl) dX2_init_12 (fun H locs hP hD hS => ?_)
  have hP : va_P (dC, dI) vwCl ([(g0, .inr (2, [.ref r0, .null]))] ++ wR cI r0 q.1 q.2.1 q.2.2.1 q.2.2.2 (fun _ => 0) (fun _ => 0) (fun _ => 0) (fun _ => 0) 1 0 0 0) _ := hP
  have hD : va_D A ([(g0, .inr (2, [.ref r0, .null]))] ++ wR cI r0 q.1 q.2.1 q.2.2.1 q.2.2.2 (fun _ => 0) (fun _ => 0) (fun _ => 0) (fun _ => 0) 1 0 0 0) := hD
  refine lv_aload_n hx hb dX2_init_15 rfl (lv_at hl 0 rfl) ?_
  refine va_new (ci := 0) (fs := [.null, .null, .null, .null, .null, .null, .null, .int 0, .int 0]) (C := RX0) (T := TX0) (N := 9) hx hb hts iX0 tyX0 tyX0_ok hown (hts (.classLink RX2 16 RX0) (by decide +kernel)) (hts (.instantiable RX0 9) (by decide +kernel)) (hts (.initialized RX0) (by decide +kernel)) hK hP hD hS hA rfl (fun j hj => by rcases (show j = 0 ∨ j = 1 ∨ j = 2 ∨ j = 3 ∨ j = 4 ∨ j = 5 ∨ j = 6 ∨ j = 7 ∨ j = 8 by omega) with rfl | rfl | rfl | rfl | rfl | rfl | rfl | rfl | rfl <;> rfl) (Nat.le_of_ble_eq_true rfl) (Nat.le_of_ble_eq_true rfl) dX2_init_16 (fun p0 H hP hD hS => ?_)
  have hP : va_P (dC, dI) vwCl (([(g0, .inr (2, [.ref r0, .null]))] ++ wR cI r0 q.1 q.2.1 q.2.2.1 q.2.2.2 (fun _ => 0) (fun _ => 0) (fun _ => 0) (fun _ => 0) 1 0 0 0) ++ [(p0, .inr (0, [.null, .null, .null, .null, .null, .null, .null, .int 0, .int 0]))]) _ := hP
  have hD : va_D A (([(g0, .inr (2, [.ref r0, .null]))] ++ wR cI r0 q.1 q.2.1 q.2.2.1 q.2.2.2 (fun _ => 0) (fun _ => 0) (fun _ => 0) (fun _ => 0) 1 0 0 0) ++ [(p0, .inr (0, [.null, .null, .null, .null, .null, .null, .null, .int 0, .int 0]))]) := hD
  refine W.widen (k := 6) (n := 2068) (Nat.le_of_ble_eq_true rfl) (Nat.le_of_ble_eq_true rfl) ?_
  refine lv_dup hx hb dX2_init_19 rfl ?_
  refine lv_aload_n hx hb dX2_init_20 rfl (lv_at hl 0 rfl) ?_
  refine va_get (D := (dC, dI)) (ci := 2) (v := .ref r0) (C := RX2) (T := TX2) (N := 2) hx hb hts iX2 hown hK hP 0 rfl rfl 0 (by decide) l12 (fun _ h9 => h9) rfl dX2_init_21 ?_
  refine m_cI (As := [.ref r0]) (rest := [.ref p0, .ref g0]) ⟨hx, hb, hml, hown, hts⟩ (c_X0_init l dC dI cI p0 r0) (cwI 1 hts gX2_init_X0_init rfl rfl rfl (hts (.initialized RX0) (by decide +kernel)) (hts (.methodLink RX2 18 yX0_init) (by decide +kernel)) (hts (.instanceMethod yX0_init) (by decide +kernel)) rfl (by decide +kernel) ⟨Nat.le_of_ble_eq_true rfl, Nat.le_of_ble_eq_true rfl⟩) hP hK hD hS hA rfl hl.1 rfl (Nat.le_of_ble_eq_true rfl) dX2_init_24 ⟨Nat.le_of_ble_eq_true rfl, Nat.le_of_ble_eq_true rfl⟩ (fun z H locs _ hP hD hS => ?_)
  have hP : va_P (dC, dI) vwCl (([(g0, .inr (2, [.ref r0, .null]))] ++ wR cI r0 q.1 q.2.1 q.2.2.1 q.2.2.2 (fun _ => 0) (fun _ => 0) (fun _ => 0) (fun _ => 0) 1 0 0 0) ++ wP cI r0 p0 z.1 z.2.1 z.2.2.1 z.2.2.2.1 z.2.2.2.2.1 z.2.2.2.2.2 (fun _ => 0) (fun _ => 0) (fun _ => 0) (fun _ => 0) (fun _ => 0) (fun _ => 0) 0 0) _ := hP
  have hD : va_D A (([(g0, .inr (2, [.ref r0, .null]))] ++ wR cI r0 q.1 q.2.1 q.2.2.1 q.2.2.2 (fun _ => 0) (fun _ => 0) (fun _ => 0) (fun _ => 0) 1 0 0 0) ++ wP cI r0 p0 z.1 z.2.1 z.2.2.1 z.2.2.2.1 z.2.2.2.2.1 z.2.2.2.2.2 (fun _ => 0) (fun _ => 0) (fun _ => 0) (fun _ => 0) (fun _ => 0) (fun _ => 0) 0 0) := hD
  refine W.widen (k := 12) (n := 10850) (Nat.le_of_ble_eq_true rfl) (Nat.le_of_ble_eq_true rfl) ?_
  refine va_putF (D := (dC, dI)) (ci := 2) (v := .ref p0) (ty := .object "GroupDesk$Places") (C := RX2) (T := TX2) (N := 2) hx hb hts iX2 tyX2 tyX2_ok nmX2 hown hK hP hD hS 0 rfl rfl 1 (by decide) l21 (fun _ h9 => h9) rfl hin rfl (by decide +kernel) rfl rfl (Nat.le_of_ble_eq_true rfl) dX2_init_27 (fun H locs hP hD hS => ?_)
  have hP := hP.sub (ws' := wD cI g0 r0 q.1 q.2.1 q.2.2.1 q.2.2.2 p0 z.1 z.2.1 z.2.2.1 z.2.2.2.1 z.2.2.2.2.1 z.2.2.2.2.2 D0) [0, 6, 7, 8, 9, 10, 11, 12, 1, 2, 3, 4, 5] rfl
  have hD := hD.sub (ws' := wD cI g0 r0 q.1 q.2.1 q.2.2.1 q.2.2.2 p0 z.1 z.2.1 z.2.2.1 z.2.2.2.1 z.2.2.2.2.1 z.2.2.2.2.2 D0) [0, 6, 7, 8, 9, 10, 11, 12, 1, 2, 3, 4, 5] (by decide) rfl
  exact W.vret hx hb hr (fun t ht hW => ⟨⟨(r0, q.1, q.2.1, q.2.2.1, q.2.2.2, p0, z.1, z.2.1, z.2.2.1, z.2.2.2.1, z.2.2.2.2.1, z.2.2.2.2.2), rfl, trivial, by rw [ht]; exact hP, va_K.moved hW.alike hK, hD⟩, hS.F ht⟩) hS.2.2 dX2_init_30
end
