abbrev wMs (cI : ClassId) (m0 m1 m2 m3 m4 m5 m6 : Nat) (M : MS) : va_W := wM cI m0 m1 m2 m3 m4 m5 m6 M.1 M.2.1 M.2.2.1 M.2.2.2.1 M.2.2.2.2.1 M.2.2.2.2.2.1 M.2.2.2.2.2.2.1 M.2.2.2.2.2.2.2.1 M.2.2.2.2.2.2.2.2.1 M.2.2.2.2.2.2.2.2.2.1 M.2.2.2.2.2.2.2.2.2.2
abbrev wL (cI cL : ClassId) (ad : Nat → Nat) (D : DS) (M : MS) (ol : Nat → Int64) : va_W := wMs cI (ad 14) (ad 15) (ad 16) (ad 17) (ad 18) (ad 19) (ad 20) M ++ (wO (ad 13) cL ol ++ wD cI (ad 0) (ad 1) (ad 2) (ad 3) (ad 4) (ad 5) (ad 6) (ad 7) (ad 8) (ad 9) (ad 10) (ad 11) (ad 12) D)
/-- what the law's walk rests on all the time -/
def LC (p : Program) (l : Launch) (s : State) (m : MethodId) (c : Code) (b L : Nat) (xs : Nat → Int32) (dC : Nat → ClassId) (dI : Nat → Nat → Nat) (cI cL : ClassId) : Prop :=
  (p.tables.exec = Jvm.exec ∧ c.code = cL_law ∧ c.maxLocals = 7 ∧ s.vm.findClass RL = some m.cls ∧ (∀ w ∈ wsL_law, w.before #[Value.ref b] s = true)) ∧ (va_X b L xs s s.heap ∧ b < s.heap.size ∧ L ≤ 2560) ∧ va_K (dC, dI) vwCl [(cI, .int), (cL, .long)] s ∧ xEnv (fun q => s.heap.size ≤ q) s s.heap ∧ l.stackTraces = false
def LI (s : State) (dC : Nat → ClassId) (dI : Nat → Nat → Nat) (cI cL : ClassId) (ad : Nat → Nat) (D : DS) (M : MS) (ol : Nat → Int64) (H : Heap) (locs : List Loc) : Prop :=
  va_P (dC, dI) vwCl (wL cI cL ad D M ol) H ∧ va_D (fun q => s.heap.size ≤ q) (wL cI cL ad D M ol) ∧ va_S (fun q => s.heap.size ≤ q) s.heap H locs
abbrev lvL (b : Nat) (ad : Nat → Nat) (j : Nat) : List (Nat × Value) := [(0, .ref b), (1, .ref (ad 0)), (2, .ref (ad 14)), (3, .ref (ad 13)), (4, .int (nI (5 * j)))]
/-- behind a case: the next round -/
def LN (p : Program) (l : Launch) (e : Env) (s : State) (m : MethodId) (below : List Frame) (meth : Method) (c : Code) (b : Nat) (dC : Nat → ClassId) (dI : Nat → Nat → Nat) (cI cL : ClassId) (ad : Nat → Nat) (j cells slots : Nat) (Q : State → Prop) : Prop :=
  ∀ (D : DS) (M : MS) (ol : Nat → Int64) (H : Heap) (locs : List Loc) (ls : Array Slot), (∃ φ, Rel (j + 1) φ D M) → LI s dC dI cI cL ad D M ol H locs → lv_has ls 7 (lvL b ad j) → W p l e room_1 s m #[Value.ref b] below meth c H locs (cells + 1) (slots + 6) Q (F0 m 700 ls [])
def gB (x : Int32) : Int32 := if x = 0 then 0 else 1
theorem gB_0 {x : Int32} (h : x = 0) : (0 : Int32) = gB x := by unfold gB; rw [if_pos h]
theorem gB_1 {x : Int32} (h : ¬ x = 0) : (1 : Int32) = gB x := by unfold gB; rw [if_neg h]
theorem lg_same (x : Int64) : lg_cmp x x = 0 := by
  unfold lg_cmp
  first | (rw [if_pos rfl]; done) | (simp; done)
section ML
variable {p : Program} {l : Launch} {e : Env} {R : Room} {s : State} {m : MethodId} {args : Array Value} {below : List Frame} {meth : Method} {c : Code} {H : Heap} {locs : List Loc} {cells slots : Nat} {Q : State → Prop}
variable {cc bytes : ByteArray} {pc maxL nL n index : Nat} {ret : Option FieldType} {ls : Array Slot} {rest st0 As : List Value} {D : va_G} {cI cL : ClassId} {A : Nat → Prop} {y : MethodName} {ws Ts : List Cond} {rm : Room} {own : String} {wr : va_W} {hh : List (Nat × Nat × Nat × Nat)}
theorem mv_sld (hexec : p.tables.exec = Jvm.exec) (hb : c.code = cc) {b L : Nat} {xs : Nat → Int32} {H0 : Heap} (hX : va_X b L xs s H0) (hbl : b < H0.size) (hbA : ¬ A b) (hS : va_S A H0 H locs) {i : Int32} {k : Nat} (hi : i = nI k) (hk : k < L) (hL : L ≤ 2560) (hdg : decode cc pc = .ok (.iaload, 1))
    (kk : W p l e R s m args below meth c H locs cells slots Q (F0 m (pc + 1) ls (.int (xs k) :: rest))) : W p l e R s m args below meth c H locs cells slots Q (F0 m pc ls (.int i :: .ref b :: rest)) := by
  subst hi
  refine va_sld hexec hb hX hbl hbA hS (vp_in_nI hk (by omega)) hdg ?_
  rw [nI_clamp (by omega)]
  exact kk
/-- a helper of the law is called -/
theorem m_hS {S0 : Type} {o0 : Nat} {ol : Nat → Int64} {u0 : S0} {post : Int32 → S0 → Prop} {w1 : S0 → va_W} {px : Prop} (S : CallFix p m c cc nL s args Ts own) (hM : mHi l y ws rm D cI cL As o0 ol u0 post w1 px) (cw : vx_CSW R s args own index y bytes maxL ret hh ws rm 1 6 n) (hP : va_P D vwCl (wr ++ (wO o0 cL ol ++ w1 u0)) H) (hK2 : va_K D vwCl [(cI, .int), (cL, .long)] s) (hE : xEnv A s s.heap) (hD : va_D A (wr ++ (wO o0 cL ol ++ w1 u0))) (hS : va_S A s.heap H locs) (hA : ∀ q, s.heap.size ≤ q → A q)
    (hn : As.length = n) (hsize : ls.size = nL) (hst : st0 = As.reverse ++ rest) (hW : (rest.map fun v => v.category).sum ≤ 8) (hdg : decode cc pc = .ok (.invokestatic index, 3)) (hf : cells + 1 ≤ R.cells ∧ slots + 6 ≤ R.slots)
    (kk : ∀ (r : Int32) (u : (Nat → Int64) × S0) (H1 : Heap) (locs1 : List Loc), hPost ol u0 post px r u → va_P D vwCl (wr ++ (wO o0 cL u.1 ++ w1 u.2)) H1 → va_D A (wr ++ (wO o0 cL u.1 ++ w1 u.2)) → va_S A s.heap H1 locs1 → W p l e R s m args below meth c H1 locs1 (cells + 1) (slots + 6) Q (F0 m (pc + 3) ls (.int r :: rest))) : W p l e R s m args below meth c H locs cells slots Q (F0 m pc ls st0) := by
  have hPc := ma_P hP
  have hF := ma_free hD hS hA
  refine va_calli (vx_runSW (As := As) (rest := rest) S (hM H.size) cw ⟨mPh_blind, fun U hU hW => ⟨rfl, by rw [hU], by rw [hU]; exact hPc, va_K.moved hW.alike hK2, (ma_D hD).weaken (fun _ _ _ _ => trivial), by rw [hU]; exact ((hE.kept hS.2.1).narrow hF).warm hW⟩⟩ rfl hn hsize hst (lv_room hW) hdg hf) hS (fun q _ h => hF q h) hF (fun r u t H1 locs1 ht hvm hw hB hz1 hk1 hS1 => ?_)
  obtain ⟨hP1, hD1⟩ := hB
  rw [ht] at hP1
  obtain ⟨hP2, hD2⟩ := ma_join hP hD hk1 hF hP1 hD1
  exact kk r u H1 locs1 hw hP2 hD2 hS1
end ML
set_option maxHeartbeats 4000000 in
set_option maxRecDepth 100000 in
theorem lc_open (p : Program) (l : Launch) (e : Env) (s : State) (m : MethodId) (below : List Frame) (meth : Method) (c : Code) (b L : Nat) (xs : Nat → Int32) (dC : Nat → ClassId) (dI : Nat → Nat → Nat) (cI cL : ClassId) (ad : Nat → Nat) (j cells slots : Nat) (Q : State → Prop) (D : DS) (M : MS) (ol : Nat → Int64) (H : Heap) (locs : List Loc) (ls : Array Slot) (φ : Nat → Nat) (hC : LC p l s m c b L xs dC dI cI cL) (hj : 5 * j + 5 ≤ L) (hcs : cells + 1 ≤ 1049 ∧ slots + 6 ≤ 44480) (hR : Rel j φ D M) (hI : LI s dC dI cI cL ad D M ol H locs) (hl : lv_has ls 7 (lvL b ad j)) (next : LN p l e s m below meth c b dC dI cI cL ad j cells slots Q) : W p l e room_1 s m #[Value.ref b] below meth c H locs cells slots Q (F0 m 100 ls []) := by
  obtain ⟨⟨hx, hb, hml, hown, hts⟩, ⟨hX, hbl, hL⟩, hK2, hE, hl0⟩ := hC
  obtain ⟨hP, hD, hS⟩ := hI
  have hK := hK2.sub (tys' := [(cI, .int)]) [0] rfl
  have hA : ∀ q : Nat, s.heap.size ≤ q → (fun q : Nat => s.heap.size ≤ q) q := fun _ h => h
  have hbA : ¬ (fun q : Nat => s.heap.size ≤ q) b := Nat.not_le.mpr hbl
  obtain ⟨hm, hsc, hog, hsg, hsp, hd, hst⟩ := rel_D hR
  obtain ⟨hco, hg, hgr, hof, hro, hdr, hv, hsh, hfr⟩ := rel_M hR
  have hk : j < 512 := by omega
  have hf0 : cells ≤ room_1.cells ∧ slots ≤ room_1.slots := ⟨by show cells ≤ 1049; omega, by show slots ≤ 44480; omega⟩
  have hf1 : cells + 1 ≤ room_1.cells ∧ slots + 6 ≤ room_1.slots := hcs
  refine lv_aload_n hx hb dL_law_100 rfl (lv_at hl 1 rfl) ?_
  have hP : va_P (dC, dI) vwCl ((wMs cI (ad 14) (ad 15) (ad 16) (ad 17) (ad 18) (ad 19) (ad 20) M ++ wO (ad 13) cL ol) ++ wD cI (ad 0) (ad 1) (ad 2) (ad 3) (ad 4) (ad 5) (ad 6) (ad 7) (ad 8) (ad 9) (ad 10) (ad 11) (ad 12) D) _ := hP
  have hD : va_D (fun q => s.heap.size ≤ q) ((wMs cI (ad 14) (ad 15) (ad 16) (ad 17) (ad 18) (ad 19) (ad 20) M ++ wO (ad 13) cL ol) ++ wD cI (ad 0) (ad 1) (ad 2) (ad 3) (ad 4) (ad 5) (ad 6) (ad 7) (ad 8) (ad 9) (ad 10) (ad 11) (ad 12) D) := hD
  refine m_wVi (As := []) (rest := []) ⟨hx, hb, hml, hown, hts⟩ (c_X2_open l dC dI (ad 0) (ad 1) (ad 6) cI (ad 7) (ad 8) (ad 9) (ad 10) (ad 11) (ad 12) D.1 D.2.1 D.2.2.1 D.2.2.2.1 D.2.2.2.2.1 D.2.2.2.2.2.1 D.2.2.2.2.2.2.1 D.2.2.2.2.2.2.2.1 (ad 2) (ad 3) (ad 4) (ad 5) D.2.2.2.2.2.2.2.2.1 D.2.2.2.2.2.2.2.2.2.1 D.2.2.2.2.2.2.2.2.2.2.1 D.2.2.2.2.2.2.2.2.2.2.2.1 D.2.2.2.2.2.2.2.2.2.2.2.2.1 D.2.2.2.2.2.2.2.2.2.2.2.2.2.1 D.2.2.2.2.2.2.2.2.2.2.2.2.2.2.1 D.2.2.2.2.2.2.2.2.2.2.2.2.2.2.2  hog) (cwV 0 hts gL_law_X2_open rfl rfl rfl (by decide +kernel) ⟨Nat.le_of_ble_eq_true rfl, Nat.le_of_ble_eq_true rfl⟩) hP hK hD hS hA 2 0 rfl rfl rfl hl.1 rfl (Nat.le_of_ble_eq_true rfl) dL_law_101 hf0 (fun r u H locs hw hP hD hS => ?_)
  obtain ⟨rfl, rfl⟩ := hw
  have hP : va_P (dC, dI) vwCl (wL cI cL ad ((dOpen D).2) M ol) _ := hP
  have hD : va_D (fun q => s.heap.size ≤ q) (wL cI cL ad ((dOpen D).2) M ol) := hD
  refine lv_aload_n hx hb dL_law_104 rfl (lv_at hl 2 rfl) ?_
  have hP := ma_swapP (a := wMs cI (ad 14) (ad 15) (ad 16) (ad 17) (ad 18) (ad 19) (ad 20) M) (b := wO (ad 13) cL ol ++ wD cI (ad 0) (ad 1) (ad 2) (ad 3) (ad 4) (ad 5) (ad 6) (ad 7) (ad 8) (ad 9) (ad 10) (ad 11) (ad 12) ((dOpen D).2)) hP
  have hD := ma_swapD (a := wMs cI (ad 14) (ad 15) (ad 16) (ad 17) (ad 18) (ad 19) (ad 20) M) (b := wO (ad 13) cL ol ++ wD cI (ad 0) (ad 1) (ad 2) (ad 3) (ad 4) (ad 5) (ad 6) (ad 7) (ad 8) (ad 9) (ad 10) (ad 11) (ad 12) ((dOpen D).2)) hD
  refine m_wVi (As := []) (rest := [.int (dOpen D).1]) ⟨hx, hb, hml, hown, hts⟩ (c_X3_open l dC dI cI (ad 14) (ad 15) (ad 16) (ad 17) (ad 18) (ad 19) (ad 20) M.1 M.2.1 M.2.2.1 M.2.2.2.1 M.2.2.2.2.1 M.2.2.2.2.2.1 M.2.2.2.2.2.2.1 M.2.2.2.2.2.2.2.1 M.2.2.2.2.2.2.2.2.1 M.2.2.2.2.2.2.2.2.2.1 M.2.2.2.2.2.2.2.2.2.2  hg) (cwV 0 hts gL_law_X3_open rfl rfl rfl (by decide +kernel) ⟨Nat.le_of_ble_eq_true rfl, Nat.le_of_ble_eq_true rfl⟩) hP hK hD hS hA 3 0 rfl rfl rfl hl.1 rfl (Nat.le_of_ble_eq_true rfl) dL_law_105 hf0 (fun r u H locs hw hP hD hS => ?_)
  obtain ⟨rfl, rfl⟩ := hw
  have hP := ma_swapP (a := wO (ad 13) cL ol ++ wD cI (ad 0) (ad 1) (ad 2) (ad 3) (ad 4) (ad 5) (ad 6) (ad 7) (ad 8) (ad 9) (ad 10) (ad 11) (ad 12) ((dOpen D).2)) (b := wMs cI (ad 14) (ad 15) (ad 16) (ad 17) (ad 18) (ad 19) (ad 20) (mOpen M).2) hP
  have hD := ma_swapD (a := wO (ad 13) cL ol ++ wD cI (ad 0) (ad 1) (ad 2) (ad 3) (ad 4) (ad 5) (ad 6) (ad 7) (ad 8) (ad 9) (ad 10) (ad 11) (ad 12) ((dOpen D).2)) (b := wMs cI (ad 14) (ad 15) (ad 16) (ad 17) (ad 18) (ad 19) (ad 20) (mOpen M).2) hD
  have hP : va_P (dC, dI) vwCl (wL cI cL ad ((dOpen D).2) ((mOpen M).2) ol) _ := hP
  have hD : va_D (fun q => s.heap.size ≤ q) (wL cI cL ad ((dOpen D).2) ((mOpen M).2) ol) := hD
  refine lv_icmp_eq (tgt := 700) hx hb dL_law_108 (by decide) (fun c9 => ?_) (fun c9 => ?_)
  · refine W.widen (k := cells + 1) (n := slots + 6) (by omega) (by omega) ?_
    exact next _ _ _ _ _ ls ⟨φ, (r_open hR hk).2⟩ ⟨hP, hD, hS⟩ (lv_sub hl [0, 1, 2, 3, 4] rfl)
  · exact absurd (r_open hR hk).1 c9
set_option maxHeartbeats 4000000 in
set_option maxRecDepth 100000 in
theorem lc_close (p : Program) (l : Launch) (e : Env) (s : State) (m : MethodId) (below : List Frame) (meth : Method) (c : Code) (b L : Nat) (xs : Nat → Int32) (dC : Nat → ClassId) (dI : Nat → Nat → Nat) (cI cL : ClassId) (ad : Nat → Nat) (j cells slots : Nat) (Q : State → Prop) (D : DS) (M : MS) (ol : Nat → Int64) (H : Heap) (locs : List Loc) (ls : Array Slot) (φ : Nat → Nat) (hC : LC p l s m c b L xs dC dI cI cL) (hj : 5 * j + 5 ≤ L) (hcs : cells + 1 ≤ 1049 ∧ slots + 6 ≤ 44480) (hR : Rel j φ D M) (hI : LI s dC dI cI cL ad D M ol H locs) (hl : lv_has ls 7 (lvL b ad j)) (next : LN p l e s m below meth c b dC dI cI cL ad j cells slots Q) : W p l e room_1 s m #[Value.ref b] below meth c H locs cells slots Q (F0 m 113 ls []) := by
  obtain ⟨⟨hx, hb, hml, hown, hts⟩, ⟨hX, hbl, hL⟩, hK2, hE, hl0⟩ := hC
  obtain ⟨hP, hD, hS⟩ := hI
  have hK := hK2.sub (tys' := [(cI, .int)]) [0] rfl
  have hA : ∀ q : Nat, s.heap.size ≤ q → (fun q : Nat => s.heap.size ≤ q) q := fun _ h => h
  have hbA : ¬ (fun q : Nat => s.heap.size ≤ q) b := Nat.not_le.mpr hbl
  obtain ⟨hm, hsc, hog, hsg, hsp, hd, hst⟩ := rel_D hR
  obtain ⟨hco, hg, hgr, hof, hro, hdr, hv, hsh, hfr⟩ := rel_M hR
  have hk : j < 512 := by omega
  have hf0 : cells ≤ room_1.cells ∧ slots ≤ room_1.slots := ⟨by show cells ≤ 1049; omega, by show slots ≤ 44480; omega⟩
  have hf1 : cells + 1 ≤ room_1.cells ∧ slots + 6 ≤ room_1.slots := hcs
  refine lv_aload_n hx hb dL_law_113 rfl (lv_at hl 1 rfl) ?_
  have hP : va_P (dC, dI) vwCl ((wMs cI (ad 14) (ad 15) (ad 16) (ad 17) (ad 18) (ad 19) (ad 20) M ++ wO (ad 13) cL ol) ++ wD cI (ad 0) (ad 1) (ad 2) (ad 3) (ad 4) (ad 5) (ad 6) (ad 7) (ad 8) (ad 9) (ad 10) (ad 11) (ad 12) D) _ := hP
  have hD : va_D (fun q => s.heap.size ≤ q) ((wMs cI (ad 14) (ad 15) (ad 16) (ad 17) (ad 18) (ad 19) (ad 20) M ++ wO (ad 13) cL ol) ++ wD cI (ad 0) (ad 1) (ad 2) (ad 3) (ad 4) (ad 5) (ad 6) (ad 7) (ad 8) (ad 9) (ad 10) (ad 11) (ad 12) D) := hD
  refine m_wVi (As := []) (rest := []) ⟨hx, hb, hml, hown, hts⟩ (c_X2_close l dC dI (ad 0) (ad 1) (ad 6) cI (ad 7) (ad 8) (ad 9) (ad 10) (ad 11) (ad 12) D.1 D.2.1 D.2.2.1 D.2.2.2.1 D.2.2.2.2.1 D.2.2.2.2.2.1 D.2.2.2.2.2.2.1 D.2.2.2.2.2.2.2.1 (ad 2) (ad 3) (ad 4) (ad 5) D.2.2.2.2.2.2.2.2.1 D.2.2.2.2.2.2.2.2.2.1 D.2.2.2.2.2.2.2.2.2.2.1 D.2.2.2.2.2.2.2.2.2.2.2.1 D.2.2.2.2.2.2.2.2.2.2.2.2.1 D.2.2.2.2.2.2.2.2.2.2.2.2.2.1 D.2.2.2.2.2.2.2.2.2.2.2.2.2.2.1 D.2.2.2.2.2.2.2.2.2.2.2.2.2.2.2  hm hsc hog hsg hsp) (cwV 0 hts gL_law_X2_close rfl rfl rfl (by decide +kernel) ⟨Nat.le_of_ble_eq_true rfl, Nat.le_of_ble_eq_true rfl⟩) hP hK hD hS hA 2 0 rfl rfl rfl hl.1 rfl (Nat.le_of_ble_eq_true rfl) dL_law_114 hf0 (fun r u H locs hw hP hD hS => ?_)
  obtain ⟨rfl, rfl⟩ := hw
  have hP : va_P (dC, dI) vwCl (wL cI cL ad ((dClose D).2) M ol) _ := hP
  have hD : va_D (fun q => s.heap.size ≤ q) (wL cI cL ad ((dClose D).2) M ol) := hD
  refine lv_aload_n hx hb dL_law_117 rfl (lv_at hl 2 rfl) ?_
  have hP := ma_swapP (a := wMs cI (ad 14) (ad 15) (ad 16) (ad 17) (ad 18) (ad 19) (ad 20) M) (b := wO (ad 13) cL ol ++ wD cI (ad 0) (ad 1) (ad 2) (ad 3) (ad 4) (ad 5) (ad 6) (ad 7) (ad 8) (ad 9) (ad 10) (ad 11) (ad 12) ((dClose D).2)) hP
  have hD := ma_swapD (a := wMs cI (ad 14) (ad 15) (ad 16) (ad 17) (ad 18) (ad 19) (ad 20) M) (b := wO (ad 13) cL ol ++ wD cI (ad 0) (ad 1) (ad 2) (ad 3) (ad 4) (ad 5) (ad 6) (ad 7) (ad 8) (ad 9) (ad 10) (ad 11) (ad 12) ((dClose D).2)) hD
  refine m_wVi (As := []) (rest := [.int (dClose D).1]) ⟨hx, hb, hml, hown, hts⟩ (c_X3_close l dC dI cI (ad 14) (ad 15) (ad 16) (ad 17) (ad 18) (ad 19) (ad 20) M.1 M.2.1 M.2.2.1 M.2.2.2.1 M.2.2.2.2.1 M.2.2.2.2.2.1 M.2.2.2.2.2.2.1 M.2.2.2.2.2.2.2.1 M.2.2.2.2.2.2.2.2.1 M.2.2.2.2.2.2.2.2.2.1 M.2.2.2.2.2.2.2.2.2.2  hco hg hgr) (cwV 0 hts gL_law_X3_close rfl rfl rfl (by decide +kernel) ⟨Nat.le_of_ble_eq_true rfl, Nat.le_of_ble_eq_true rfl⟩) hP hK hD hS hA 3 0 rfl rfl rfl hl.1 rfl (Nat.le_of_ble_eq_true rfl) dL_law_118 hf0 (fun r u H locs hw hP hD hS => ?_)
  obtain ⟨rfl, rfl⟩ := hw
  have hP := ma_swapP (a := wO (ad 13) cL ol ++ wD cI (ad 0) (ad 1) (ad 2) (ad 3) (ad 4) (ad 5) (ad 6) (ad 7) (ad 8) (ad 9) (ad 10) (ad 11) (ad 12) ((dClose D).2)) (b := wMs cI (ad 14) (ad 15) (ad 16) (ad 17) (ad 18) (ad 19) (ad 20) (mClose M).2) hP
  have hD := ma_swapD (a := wO (ad 13) cL ol ++ wD cI (ad 0) (ad 1) (ad 2) (ad 3) (ad 4) (ad 5) (ad 6) (ad 7) (ad 8) (ad 9) (ad 10) (ad 11) (ad 12) ((dClose D).2)) (b := wMs cI (ad 14) (ad 15) (ad 16) (ad 17) (ad 18) (ad 19) (ad 20) (mClose M).2) hD
  have hP : va_P (dC, dI) vwCl (wL cI cL ad ((dClose D).2) ((mClose M).2) ol) _ := hP
  have hD : va_D (fun q => s.heap.size ≤ q) (wL cI cL ad ((dClose D).2) ((mClose M).2) ol) := hD
  refine lv_icmp_eq (tgt := 700) hx hb dL_law_121 (by decide) (fun c9 => ?_) (fun c9 => ?_)
  · refine W.widen (k := cells + 1) (n := slots + 6) (by omega) (by omega) ?_
    exact next _ _ _ _ _ ls ⟨φ, (r_close hR hk).2⟩ ⟨hP, hD, hS⟩ (lv_sub hl [0, 1, 2, 3, 4] rfl)
  · exact absurd (r_close hR hk).1 c9
set_option maxHeartbeats 4000000 in
set_option maxRecDepth 100000 in
theorem lc_set (p : Program) (l : Launch) (e : Env) (s : State) (m : MethodId) (below : List Frame) (meth : Method) (c : Code) (b L : Nat) (xs : Nat → Int32) (dC : Nat → ClassId) (dI : Nat → Nat → Nat) (cI cL : ClassId) (ad : Nat → Nat) (j cells slots : Nat) (Q : State → Prop) (D : DS) (M : MS) (ol : Nat → Int64) (H : Heap) (locs : List Loc) (ls : Array Slot) (φ : Nat → Nat) (hC : LC p l s m c b L xs dC dI cI cL) (hj : 5 * j + 5 ≤ L) (hcs : cells + 1 ≤ 1049 ∧ slots + 6 ≤ 44480) (hR : Rel j φ D M) (hI : LI s dC dI cI cL ad D M ol H locs) (hl : lv_has ls 7 (lvL b ad j)) (next : LN p l e s m below meth c b dC dI cI cL ad j cells slots Q) : W p l e room_1 s m #[Value.ref b] below meth c H locs cells slots Q (F0 m 126 ls []) := by
  obtain ⟨⟨hx, hb, hml, hown, hts⟩, ⟨hX, hbl, hL⟩, hK2, hE, hl0⟩ := hC
  obtain ⟨hP, hD, hS⟩ := hI
  have hK := hK2.sub (tys' := [(cI, .int)]) [0] rfl
  have hA : ∀ q : Nat, s.heap.size ≤ q → (fun q : Nat => s.heap.size ≤ q) q := fun _ h => h
  have hbA : ¬ (fun q : Nat => s.heap.size ≤ q) b := Nat.not_le.mpr hbl
  obtain ⟨hm, hsc, hog, hsg, hsp, hd, hst⟩ := rel_D hR
  obtain ⟨hco, hg, hgr, hof, hro, hdr, hv, hsh, hfr⟩ := rel_M hR
  have hk : j < 512 := by omega
  have hf0 : cells ≤ room_1.cells ∧ slots ≤ room_1.slots := ⟨by show cells ≤ 1049; omega, by show slots ≤ 44480; omega⟩
  have hf1 : cells + 1 ≤ room_1.cells ∧ slots + 6 ≤ room_1.slots := hcs
  refine lv_aload_n hx hb dL_law_126 rfl (lv_at hl 1 rfl) ?_
  refine lv_aload_n hx hb dL_law_127 rfl (lv_at hl 0 rfl) ?_
  refine lv_iload hx hb dL_law_128 (lv_at hl 4 rfl) ?_
  refine lv_iconst (v := 1) hx hb dL_law_130 (by decide) ?_
  refine lv_iadd hx hb dL_law_131 ?_
  refine mv_top (v := nI (5 * j + 1)) (nI_add (5 * j) 1) ?_
  refine mv_sld hx hb hX hbl hbA hS (k := 5 * j + 1) rfl (by omega) hL dL_law_132 ?_
  refine lv_aload_n hx hb dL_law_133 rfl (lv_at hl 0 rfl) ?_
  refine lv_iload hx hb dL_law_134 (lv_at hl 4 rfl) ?_
  refine lv_iconst (v := 2) hx hb dL_law_136 (by decide) ?_
  refine lv_iadd hx hb dL_law_137 ?_
  refine mv_top (v := nI (5 * j + 2)) (nI_add (5 * j) 2) ?_
  refine mv_sld hx hb hX hbl hbA hS (k := 5 * j + 2) rfl (by omega) hL dL_law_138 ?_
  refine lv_aload_n hx hb dL_law_139 rfl (lv_at hl 0 rfl) ?_
  refine lv_iload hx hb dL_law_140 (lv_at hl 4 rfl) ?_
  refine lv_iconst (v := 3) hx hb dL_law_142 (by decide) ?_
  refine lv_iadd hx hb dL_law_143 ?_
  refine mv_top (v := nI (5 * j + 3)) (nI_add (5 * j) 3) ?_
  refine mv_sld hx hb hX hbl hbA hS (k := 5 * j + 3) rfl (by omega) hL dL_law_144 ?_
  suffices key : W p l e room_1 s m #[Value.ref b] below meth c H locs cells slots Q (F0 m 153 ls [.int (gB (xs (5 * j + 3))), .int (xs (5 * j + 2)), .int (xs (5 * j + 1)), .ref (ad 0)]) by
    refine lv_if_eq (tgt := 152) hx hb dL_law_145 (by decide) (fun c1 => ?_) (fun c1 => ?_)
    · refine lv_iconst (v := 0) hx hb dL_law_152 (by decide) ?_
      exact mv_top (gB_0 c1) key
    · refine lv_iconst (v := 1) hx hb dL_law_148 (by decide) ?_
      refine lv_goto (tgt := 153) hx hb dL_law_149 (by decide) ?_
      exact mv_top (gB_1 c1) key
  have hP : va_P (dC, dI) vwCl ((wMs cI (ad 14) (ad 15) (ad 16) (ad 17) (ad 18) (ad 19) (ad 20) M ++ wO (ad 13) cL ol) ++ wD cI (ad 0) (ad 1) (ad 2) (ad 3) (ad 4) (ad 5) (ad 6) (ad 7) (ad 8) (ad 9) (ad 10) (ad 11) (ad 12) D) _ := hP
  have hD : va_D (fun q => s.heap.size ≤ q) ((wMs cI (ad 14) (ad 15) (ad 16) (ad 17) (ad 18) (ad 19) (ad 20) M ++ wO (ad 13) cL ol) ++ wD cI (ad 0) (ad 1) (ad 2) (ad 3) (ad 4) (ad 5) (ad 6) (ad 7) (ad 8) (ad 9) (ad 10) (ad 11) (ad 12) D) := hD
  refine m_wVi (As := [.int (xs (5 * j + 1)), .int (xs (5 * j + 2)), .int (gB (xs (5 * j + 3)))]) (rest := []) ⟨hx, hb, hml, hown, hts⟩ (c_X2_set l dC dI (ad 0) (ad 1) (ad 6) cI (ad 7) (ad 8) (ad 9) (ad 10) (ad 11) (ad 12) D.1 D.2.1 D.2.2.1 D.2.2.2.1 D.2.2.2.2.1 D.2.2.2.2.2.1 D.2.2.2.2.2.2.1 D.2.2.2.2.2.2.2.1 (ad 2) (ad 3) (ad 4) (ad 5) D.2.2.2.2.2.2.2.2.1 D.2.2.2.2.2.2.2.2.2.1 D.2.2.2.2.2.2.2.2.2.2.1 D.2.2.2.2.2.2.2.2.2.2.2.1 D.2.2.2.2.2.2.2.2.2.2.2.2.1 D.2.2.2.2.2.2.2.2.2.2.2.2.2.1 D.2.2.2.2.2.2.2.2.2.2.2.2.2.2.1 D.2.2.2.2.2.2.2.2.2.2.2.2.2.2.2 ((xs (5 * j + 1))) ((xs (5 * j + 2))) ((gB (xs (5 * j + 3)))) hm hsc hog hsg hsp) (cwV 3 hts gL_law_X2_set rfl rfl rfl (by decide +kernel) ⟨Nat.le_of_ble_eq_true rfl, Nat.le_of_ble_eq_true rfl⟩) hP hK hD hS hA 2 0 rfl rfl rfl hl.1 rfl (Nat.le_of_ble_eq_true rfl) dL_law_153 hf0 (fun r u H locs hw hP hD hS => ?_)
  obtain ⟨rfl, rfl⟩ := hw
  have hP : va_P (dC, dI) vwCl (wL cI cL ad ((dSet ((xs (5 * j + 1))) ((xs (5 * j + 2))) ((gB (xs (5 * j + 3)))) D).2) M ol) _ := hP
  have hD : va_D (fun q => s.heap.size ≤ q) (wL cI cL ad ((dSet ((xs (5 * j + 1))) ((xs (5 * j + 2))) ((gB (xs (5 * j + 3)))) D).2) M ol) := hD
  refine lv_aload_n hx hb dL_law_156 rfl (lv_at hl 2 rfl) ?_
  refine lv_aload_n hx hb dL_law_157 rfl (lv_at hl 0 rfl) ?_
  refine lv_iload hx hb dL_law_158 (lv_at hl 4 rfl) ?_
  refine lv_iconst (v := 1) hx hb dL_law_160 (by decide) ?_
  refine lv_iadd hx hb dL_law_161 ?_
  refine mv_top (v := nI (5 * j + 1)) (nI_add (5 * j) 1) ?_
  refine mv_sld hx hb hX hbl hbA hS (k := 5 * j + 1) rfl (by omega) hL dL_law_162 ?_
  refine lv_aload_n hx hb dL_law_163 rfl (lv_at hl 0 rfl) ?_
  refine lv_iload hx hb dL_law_164 (lv_at hl 4 rfl) ?_
  refine lv_iconst (v := 2) hx hb dL_law_166 (by decide) ?_
  refine lv_iadd hx hb dL_law_167 ?_
  refine mv_top (v := nI (5 * j + 2)) (nI_add (5 * j) 2) ?_
  refine mv_sld hx hb hX hbl hbA hS (k := 5 * j + 2) rfl (by omega) hL dL_law_168 ?_
  refine lv_aload_n hx hb dL_law_169 rfl (lv_at hl 0 rfl) ?_
  refine lv_iload hx hb dL_law_170 (lv_at hl 4 rfl) ?_
  refine lv_iconst (v := 3) hx hb dL_law_172 (by decide) ?_
  refine lv_iadd hx hb dL_law_173 ?_
  refine mv_top (v := nI (5 * j + 3)) (nI_add (5 * j) 3) ?_
  refine mv_sld hx hb hX hbl hbA hS (k := 5 * j + 3) rfl (by omega) hL dL_law_174 ?_
  suffices key : W p l e room_1 s m #[Value.ref b] below meth c H locs cells slots Q (F0 m 183 ls [.int (gB (xs (5 * j + 3))), .int (xs (5 * j + 2)), .int (xs (5 * j + 1)), .ref (ad 14), .int (dSet ((xs (5 * j + 1))) ((xs (5 * j + 2))) ((gB (xs (5 * j + 3)))) D).1]) by
    refine lv_if_eq (tgt := 182) hx hb dL_law_175 (by decide) (fun c1 => ?_) (fun c1 => ?_)
    · refine lv_iconst (v := 0) hx hb dL_law_182 (by decide) ?_
      exact mv_top (gB_0 c1) key
    · refine lv_iconst (v := 1) hx hb dL_law_178 (by decide) ?_
      refine lv_goto (tgt := 183) hx hb dL_law_179 (by decide) ?_
      exact mv_top (gB_1 c1) key
  have hP := ma_swapP (a := wMs cI (ad 14) (ad 15) (ad 16) (ad 17) (ad 18) (ad 19) (ad 20) M) (b := wO (ad 13) cL ol ++ wD cI (ad 0) (ad 1) (ad 2) (ad 3) (ad 4) (ad 5) (ad 6) (ad 7) (ad 8) (ad 9) (ad 10) (ad 11) (ad 12) ((dSet ((xs (5 * j + 1))) ((xs (5 * j + 2))) ((gB (xs (5 * j + 3)))) D).2)) hP
  have hD := ma_swapD (a := wMs cI (ad 14) (ad 15) (ad 16) (ad 17) (ad 18) (ad 19) (ad 20) M) (b := wO (ad 13) cL ol ++ wD cI (ad 0) (ad 1) (ad 2) (ad 3) (ad 4) (ad 5) (ad 6) (ad 7) (ad 8) (ad 9) (ad 10) (ad 11) (ad 12) ((dSet ((xs (5 * j + 1))) ((xs (5 * j + 2))) ((gB (xs (5 * j + 3)))) D).2)) hD
  refine m_wVi (As := [.int (xs (5 * j + 1)), .int (xs (5 * j + 2)), .int (gB (xs (5 * j + 3)))]) (rest := [.int (dSet ((xs (5 * j + 1))) ((xs (5 * j + 2))) ((gB (xs (5 * j + 3)))) D).1]) ⟨hx, hb, hml, hown, hts⟩ (c_X3_set l dC dI cI (ad 14) (ad 15) (ad 16) (ad 17) (ad 18) (ad 19) (ad 20) M.1 M.2.1 M.2.2.1 M.2.2.2.1 M.2.2.2.2.1 M.2.2.2.2.2.1 M.2.2.2.2.2.2.1 M.2.2.2.2.2.2.2.1 M.2.2.2.2.2.2.2.2.1 M.2.2.2.2.2.2.2.2.2.1 M.2.2.2.2.2.2.2.2.2.2 ((xs (5 * j + 1))) ((xs (5 * j + 2))) ((gB (xs (5 * j + 3)))) hco hg hgr) (cwV 3 hts gL_law_X3_set rfl rfl rfl (by decide +kernel) ⟨Nat.le_of_ble_eq_true rfl, Nat.le_of_ble_eq_true rfl⟩) hP hK hD hS hA 3 0 rfl rfl rfl hl.1 rfl (Nat.le_of_ble_eq_true rfl) dL_law_183 hf0 (fun r u H locs hw hP hD hS => ?_)
  obtain ⟨rfl, rfl⟩ := hw
  have hP := ma_swapP (a := wO (ad 13) cL ol ++ wD cI (ad 0) (ad 1) (ad 2) (ad 3) (ad 4) (ad 5) (ad 6) (ad 7) (ad 8) (ad 9) (ad 10) (ad 11) (ad 12) ((dSet ((xs (5 * j + 1))) ((xs (5 * j + 2))) ((gB (xs (5 * j + 3)))) D).2)) (b := wMs cI (ad 14) (ad 15) (ad 16) (ad 17) (ad 18) (ad 19) (ad 20) (mSet ((xs (5 * j + 1))) ((xs (5 * j + 2))) ((gB (xs (5 * j + 3)))) M).2) hP
  have hD := ma_swapD (a := wO (ad 13) cL ol ++ wD cI (ad 0) (ad 1) (ad 2) (ad 3) (ad 4) (ad 5) (ad 6) (ad 7) (ad 8) (ad 9) (ad 10) (ad 11) (ad 12) ((dSet ((xs (5 * j + 1))) ((xs (5 * j + 2))) ((gB (xs (5 * j + 3)))) D).2)) (b := wMs cI (ad 14) (ad 15) (ad 16) (ad 17) (ad 18) (ad 19) (ad 20) (mSet ((xs (5 * j + 1))) ((xs (5 * j + 2))) ((gB (xs (5 * j + 3)))) M).2) hD
  have hP : va_P (dC, dI) vwCl (wL cI cL ad ((dSet ((xs (5 * j + 1))) ((xs (5 * j + 2))) ((gB (xs (5 * j + 3)))) D).2) ((mSet ((xs (5 * j + 1))) ((xs (5 * j + 2))) ((gB (xs (5 * j + 3)))) M).2) ol) _ := hP
  have hD : va_D (fun q => s.heap.size ≤ q) (wL cI cL ad ((dSet ((xs (5 * j + 1))) ((xs (5 * j + 2))) ((gB (xs (5 * j + 3)))) D).2) ((mSet ((xs (5 * j + 1))) ((xs (5 * j + 2))) ((gB (xs (5 * j + 3)))) M).2) ol) := hD
  refine lv_icmp_eq (tgt := 700) hx hb dL_law_186 (by decide) (fun c9 => ?_) (fun c9 => ?_)
  · refine W.widen (k := cells + 1) (n := slots + 6) (by omega) (by omega) ?_
    exact next _ _ _ _ _ ls ⟨φ, (r_set hR hk).2⟩ ⟨hP, hD, hS⟩ (lv_sub hl [0, 1, 2, 3, 4] rfl)
  · exact absurd (r_set hR hk).1 c9
set_option maxHeartbeats 4000000 in
set_option maxRecDepth 100000 in
theorem lc_mean (p : Program) (l : Launch) (e : Env) (s : State) (m : MethodId) (below : List Frame) (meth : Method) (c : Code) (b L : Nat) (xs : Nat → Int32) (dC : Nat → ClassId) (dI : Nat → Nat → Nat) (cI cL : ClassId) (ad : Nat → Nat) (j cells slots : Nat) (Q : State → Prop) (D : DS) (M : MS) (ol : Nat → Int64) (H : Heap) (locs : List Loc) (ls : Array Slot) (φ : Nat → Nat) (hC : LC p l s m c b L xs dC dI cI cL) (hj : 5 * j + 5 ≤ L) (hcs : cells + 1 ≤ 1049 ∧ slots + 6 ≤ 44480) (hR : Rel j φ D M) (hI : LI s dC dI cI cL ad D M ol H locs) (hl : lv_has ls 7 (lvL b ad j)) (next : LN p l e s m below meth c b dC dI cI cL ad j cells slots Q) : W p l e room_1 s m #[Value.ref b] below meth c H locs cells slots Q (F0 m 191 ls []) := by
  obtain ⟨⟨hx, hb, hml, hown, hts⟩, ⟨hX, hbl, hL⟩, hK2, hE, hl0⟩ := hC
  obtain ⟨hP, hD, hS⟩ := hI
  have hK := hK2.sub (tys' := [(cI, .int)]) [0] rfl
  have hA : ∀ q : Nat, s.heap.size ≤ q → (fun q : Nat => s.heap.size ≤ q) q := fun _ h => h
  have hbA : ¬ (fun q : Nat => s.heap.size ≤ q) b := Nat.not_le.mpr hbl
  obtain ⟨hm, hsc, hog, hsg, hsp, hd, hst⟩ := rel_D hR
  obtain ⟨hco, hg, hgr, hof, hro, hdr, hv, hsh, hfr⟩ := rel_M hR
  have hk : j < 512 := by omega
  have hf0 : cells ≤ room_1.cells ∧ slots ≤ room_1.slots := ⟨by show cells ≤ 1049; omega, by show slots ≤ 44480; omega⟩
  have hf1 : cells + 1 ≤ room_1.cells ∧ slots + 6 ≤ room_1.slots := hcs
  refine lv_aload_n hx hb dL_law_191 rfl (lv_at hl 1 rfl) ?_
  refine lv_aload_n hx hb dL_law_192 rfl (lv_at hl 0 rfl) ?_
  refine lv_iload hx hb dL_law_193 (lv_at hl 4 rfl) ?_
  refine lv_iconst (v := 1) hx hb dL_law_195 (by decide) ?_
  refine lv_iadd hx hb dL_law_196 ?_
  refine mv_top (v := nI (5 * j + 1)) (nI_add (5 * j) 1) ?_
  refine mv_sld hx hb hX hbl hbA hS (k := 5 * j + 1) rfl (by omega) hL dL_law_197 ?_
  refine lv_aload_n hx hb dL_law_198 rfl (lv_at hl 0 rfl) ?_
  refine lv_iload hx hb dL_law_199 (lv_at hl 4 rfl) ?_
  refine lv_iconst (v := 2) hx hb dL_law_201 (by decide) ?_
  refine lv_iadd hx hb dL_law_202 ?_
  refine mv_top (v := nI (5 * j + 2)) (nI_add (5 * j) 2) ?_
  refine mv_sld hx hb hX hbl hbA hS (k := 5 * j + 2) rfl (by omega) hL dL_law_203 ?_
  refine lv_aload_n hx hb dL_law_204 rfl (lv_at hl 0 rfl) ?_
  refine lv_iload hx hb dL_law_205 (lv_at hl 4 rfl) ?_
  refine lv_iconst (v := 3) hx hb dL_law_207 (by decide) ?_
  refine lv_iadd hx hb dL_law_208 ?_
  refine mv_top (v := nI (5 * j + 3)) (nI_add (5 * j) 3) ?_
  refine mv_sld hx hb hX hbl hbA hS (k := 5 * j + 3) rfl (by omega) hL dL_law_209 ?_
  refine lv_aload_n hx hb dL_law_210 rfl (lv_at hl 0 rfl) ?_
  refine lv_iload hx hb dL_law_211 (lv_at hl 4 rfl) ?_
  refine lv_iconst (v := 4) hx hb dL_law_213 (by decide) ?_
  refine lv_iadd hx hb dL_law_214 ?_
  refine mv_top (v := nI (5 * j + 4)) (nI_add (5 * j) 4) ?_
  refine mv_sld hx hb hX hbl hbA hS (k := 5 * j + 4) rfl (by omega) hL dL_law_215 ?_
  suffices key : W p l e room_1 s m #[Value.ref b] below meth c H locs cells slots Q (F0 m 224 ls [.int (gB (xs (5 * j + 4))), .int (xs (5 * j + 3)), .int (xs (5 * j + 2)), .int (xs (5 * j + 1)), .ref (ad 0)]) by
    refine lv_if_eq (tgt := 223) hx hb dL_law_216 (by decide) (fun c1 => ?_) (fun c1 => ?_)
    · refine lv_iconst (v := 0) hx hb dL_law_223 (by decide) ?_
      exact mv_top (gB_0 c1) key
    · refine lv_iconst (v := 1) hx hb dL_law_219 (by decide) ?_
      refine lv_goto (tgt := 224) hx hb dL_law_220 (by decide) ?_
      exact mv_top (gB_1 c1) key
  have hP : va_P (dC, dI) vwCl ((wMs cI (ad 14) (ad 15) (ad 16) (ad 17) (ad 18) (ad 19) (ad 20) M ++ wO (ad 13) cL ol) ++ wD cI (ad 0) (ad 1) (ad 2) (ad 3) (ad 4) (ad 5) (ad 6) (ad 7) (ad 8) (ad 9) (ad 10) (ad 11) (ad 12) D) _ := hP
  have hD : va_D (fun q => s.heap.size ≤ q) ((wMs cI (ad 14) (ad 15) (ad 16) (ad 17) (ad 18) (ad 19) (ad 20) M ++ wO (ad 13) cL ol) ++ wD cI (ad 0) (ad 1) (ad 2) (ad 3) (ad 4) (ad 5) (ad 6) (ad 7) (ad 8) (ad 9) (ad 10) (ad 11) (ad 12) D) := hD
  refine m_wVi (As := [.int (xs (5 * j + 1)), .int (xs (5 * j + 2)), .int (xs (5 * j + 3)), .int (gB (xs (5 * j + 4)))]) (rest := []) ⟨hx, hb, hml, hown, hts⟩ (c_X2_mean l dC dI (ad 0) (ad 1) (ad 6) cI (ad 7) (ad 8) (ad 9) (ad 10) (ad 11) (ad 12) D.1 D.2.1 D.2.2.1 D.2.2.2.1 D.2.2.2.2.1 D.2.2.2.2.2.1 D.2.2.2.2.2.2.1 D.2.2.2.2.2.2.2.1 (ad 2) (ad 3) (ad 4) (ad 5) D.2.2.2.2.2.2.2.2.1 D.2.2.2.2.2.2.2.2.2.1 D.2.2.2.2.2.2.2.2.2.2.1 D.2.2.2.2.2.2.2.2.2.2.2.1 D.2.2.2.2.2.2.2.2.2.2.2.2.1 D.2.2.2.2.2.2.2.2.2.2.2.2.2.1 D.2.2.2.2.2.2.2.2.2.2.2.2.2.2.1 D.2.2.2.2.2.2.2.2.2.2.2.2.2.2.2 ((xs (5 * j + 1))) ((xs (5 * j + 2))) ((xs (5 * j + 3))) ((gB (xs (5 * j + 4)))) hm hsc hog hsg hsp) (cwV 4 hts gL_law_X2_mean rfl rfl rfl (by decide +kernel) ⟨Nat.le_of_ble_eq_true rfl, Nat.le_of_ble_eq_true rfl⟩) hP hK hD hS hA 2 0 rfl rfl rfl hl.1 rfl (Nat.le_of_ble_eq_true rfl) dL_law_224 hf0 (fun r u H locs hw hP hD hS => ?_)
  obtain ⟨rfl, rfl⟩ := hw
  have hP : va_P (dC, dI) vwCl (wL cI cL ad ((dMean ((xs (5 * j + 1))) ((xs (5 * j + 2))) ((xs (5 * j + 3))) ((gB (xs (5 * j + 4)))) D).2) M ol) _ := hP
  have hD : va_D (fun q => s.heap.size ≤ q) (wL cI cL ad ((dMean ((xs (5 * j + 1))) ((xs (5 * j + 2))) ((xs (5 * j + 3))) ((gB (xs (5 * j + 4)))) D).2) M ol) := hD
  refine lv_aload_n hx hb dL_law_227 rfl (lv_at hl 2 rfl) ?_
  refine lv_aload_n hx hb dL_law_228 rfl (lv_at hl 0 rfl) ?_
  refine lv_iload hx hb dL_law_229 (lv_at hl 4 rfl) ?_
  refine lv_iconst (v := 1) hx hb dL_law_231 (by decide) ?_
  refine lv_iadd hx hb dL_law_232 ?_
  refine mv_top (v := nI (5 * j + 1)) (nI_add (5 * j) 1) ?_
  refine mv_sld hx hb hX hbl hbA hS (k := 5 * j + 1) rfl (by omega) hL dL_law_233 ?_
  refine lv_aload_n hx hb dL_law_234 rfl (lv_at hl 0 rfl) ?_
  refine lv_iload hx hb dL_law_235 (lv_at hl 4 rfl) ?_
  refine lv_iconst (v := 2) hx hb dL_law_237 (by decide) ?_
  refine lv_iadd hx hb dL_law_238 ?_
  refine mv_top (v := nI (5 * j + 2)) (nI_add (5 * j) 2) ?_
  refine mv_sld hx hb hX hbl hbA hS (k := 5 * j + 2) rfl (by omega) hL dL_law_239 ?_
  refine lv_aload_n hx hb dL_law_240 rfl (lv_at hl 0 rfl) ?_
  refine lv_iload hx hb dL_law_241 (lv_at hl 4 rfl) ?_
  refine lv_iconst (v := 3) hx hb dL_law_243 (by decide) ?_
  refine lv_iadd hx hb dL_law_244 ?_
  refine mv_top (v := nI (5 * j + 3)) (nI_add (5 * j) 3) ?_
  refine mv_sld hx hb hX hbl hbA hS (k := 5 * j + 3) rfl (by omega) hL dL_law_245 ?_
  refine lv_aload_n hx hb dL_law_246 rfl (lv_at hl 0 rfl) ?_
  refine lv_iload hx hb dL_law_247 (lv_at hl 4 rfl) ?_
  refine lv_iconst (v := 4) hx hb dL_law_249 (by decide) ?_
  refine lv_iadd hx hb dL_law_250 ?_
  refine mv_top (v := nI (5 * j + 4)) (nI_add (5 * j) 4) ?_
  refine mv_sld hx hb hX hbl hbA hS (k := 5 * j + 4) rfl (by omega) hL dL_law_251 ?_
  suffices key : W p l e room_1 s m #[Value.ref b] below meth c H locs cells slots Q (F0 m 260 ls [.int (gB (xs (5 * j + 4))), .int (xs (5 * j + 3)), .int (xs (5 * j + 2)), .int (xs (5 * j + 1)), .ref (ad 14), .int (dMean ((xs (5 * j + 1))) ((xs (5 * j + 2))) ((xs (5 * j + 3))) ((gB (xs (5 * j + 4)))) D).1]) by
    refine lv_if_eq (tgt := 259) hx hb dL_law_252 (by decide) (fun c1 => ?_) (fun c1 => ?_)
    · refine lv_iconst (v := 0) hx hb dL_law_259 (by decide) ?_
      exact mv_top (gB_0 c1) key
    · refine lv_iconst (v := 1) hx hb dL_law_255 (by decide) ?_
      refine lv_goto (tgt := 260) hx hb dL_law_256 (by decide) ?_
      exact mv_top (gB_1 c1) key
  have hP := ma_swapP (a := wMs cI (ad 14) (ad 15) (ad 16) (ad 17) (ad 18) (ad 19) (ad 20) M) (b := wO (ad 13) cL ol ++ wD cI (ad 0) (ad 1) (ad 2) (ad 3) (ad 4) (ad 5) (ad 6) (ad 7) (ad 8) (ad 9) (ad 10) (ad 11) (ad 12) ((dMean ((xs (5 * j + 1))) ((xs (5 * j + 2))) ((xs (5 * j + 3))) ((gB (xs (5 * j + 4)))) D).2)) hP
  have hD := ma_swapD (a := wMs cI (ad 14) (ad 15) (ad 16) (ad 17) (ad 18) (ad 19) (ad 20) M) (b := wO (ad 13) cL ol ++ wD cI (ad 0) (ad 1) (ad 2) (ad 3) (ad 4) (ad 5) (ad 6) (ad 7) (ad 8) (ad 9) (ad 10) (ad 11) (ad 12) ((dMean ((xs (5 * j + 1))) ((xs (5 * j + 2))) ((xs (5 * j + 3))) ((gB (xs (5 * j + 4)))) D).2)) hD
  refine m_wVi (As := [.int (xs (5 * j + 1)), .int (xs (5 * j + 2)), .int (xs (5 * j + 3)), .int (gB (xs (5 * j + 4)))]) (rest := [.int (dMean ((xs (5 * j + 1))) ((xs (5 * j + 2))) ((xs (5 * j + 3))) ((gB (xs (5 * j + 4)))) D).1]) ⟨hx, hb, hml, hown, hts⟩ (c_X3_mean l dC dI cI (ad 14) (ad 15) (ad 16) (ad 17) (ad 18) (ad 19) (ad 20) M.1 M.2.1 M.2.2.1 M.2.2.2.1 M.2.2.2.2.1 M.2.2.2.2.2.1 M.2.2.2.2.2.2.1 M.2.2.2.2.2.2.2.1 M.2.2.2.2.2.2.2.2.1 M.2.2.2.2.2.2.2.2.2.1 M.2.2.2.2.2.2.2.2.2.2 ((xs (5 * j + 1))) ((xs (5 * j + 2))) ((xs (5 * j + 3))) ((gB (xs (5 * j + 4)))) hco hg hgr) (cwV 4 hts gL_law_X3_mean rfl rfl rfl (by decide +kernel) ⟨Nat.le_of_ble_eq_true rfl, Nat.le_of_ble_eq_true rfl⟩) hP hK hD hS hA 3 0 rfl rfl rfl hl.1 rfl (Nat.le_of_ble_eq_true rfl) dL_law_260 hf0 (fun r u H locs hw hP hD hS => ?_)
  obtain ⟨rfl, rfl⟩ := hw
  have hP := ma_swapP (a := wO (ad 13) cL ol ++ wD cI (ad 0) (ad 1) (ad 2) (ad 3) (ad 4) (ad 5) (ad 6) (ad 7) (ad 8) (ad 9) (ad 10) (ad 11) (ad 12) ((dMean ((xs (5 * j + 1))) ((xs (5 * j + 2))) ((xs (5 * j + 3))) ((gB (xs (5 * j + 4)))) D).2)) (b := wMs cI (ad 14) (ad 15) (ad 16) (ad 17) (ad 18) (ad 19) (ad 20) (mMean ((xs (5 * j + 1))) ((xs (5 * j + 2))) ((xs (5 * j + 3))) ((gB (xs (5 * j + 4)))) M).2) hP
  have hD := ma_swapD (a := wO (ad 13) cL ol ++ wD cI (ad 0) (ad 1) (ad 2) (ad 3) (ad 4) (ad 5) (ad 6) (ad 7) (ad 8) (ad 9) (ad 10) (ad 11) (ad 12) ((dMean ((xs (5 * j + 1))) ((xs (5 * j + 2))) ((xs (5 * j + 3))) ((gB (xs (5 * j + 4)))) D).2)) (b := wMs cI (ad 14) (ad 15) (ad 16) (ad 17) (ad 18) (ad 19) (ad 20) (mMean ((xs (5 * j + 1))) ((xs (5 * j + 2))) ((xs (5 * j + 3))) ((gB (xs (5 * j + 4)))) M).2) hD
  have hP : va_P (dC, dI) vwCl (wL cI cL ad ((dMean ((xs (5 * j + 1))) ((xs (5 * j + 2))) ((xs (5 * j + 3))) ((gB (xs (5 * j + 4)))) D).2) ((mMean ((xs (5 * j + 1))) ((xs (5 * j + 2))) ((xs (5 * j + 3))) ((gB (xs (5 * j + 4)))) M).2) ol) _ := hP
  have hD : va_D (fun q => s.heap.size ≤ q) (wL cI cL ad ((dMean ((xs (5 * j + 1))) ((xs (5 * j + 2))) ((xs (5 * j + 3))) ((gB (xs (5 * j + 4)))) D).2) ((mMean ((xs (5 * j + 1))) ((xs (5 * j + 2))) ((xs (5 * j + 3))) ((gB (xs (5 * j + 4)))) M).2) ol) := hD
  refine lv_icmp_eq (tgt := 700) hx hb dL_law_263 (by decide) (fun c9 => ?_) (fun c9 => ?_)
  · refine W.widen (k := cells + 1) (n := slots + 6) (by omega) (by omega) ?_
    exact next _ _ _ _ _ ls ⟨φ, (r_mean hR hk).2⟩ ⟨hP, hD, hS⟩ (lv_sub hl [0, 1, 2, 3, 4] rfl)
  · exact absurd (r_mean hR hk).1 c9
set_option maxHeartbeats 4000000 in
set_option maxRecDepth 100000 in
theorem lc_draft (p : Program) (l : Launch) (e : Env) (s : State) (m : MethodId) (below : List Frame) (meth : Method) (c : Code) (b L : Nat) (xs : Nat → Int32) (dC : Nat → ClassId) (dI : Nat → Nat → Nat) (cI cL : ClassId) (ad : Nat → Nat) (j cells slots : Nat) (Q : State → Prop) (D : DS) (M : MS) (ol : Nat → Int64) (H : Heap) (locs : List Loc) (ls : Array Slot) (φ : Nat → Nat) (hC : LC p l s m c b L xs dC dI cI cL) (hj : 5 * j + 5 ≤ L) (hcs : cells + 1 ≤ 1049 ∧ slots + 6 ≤ 44480) (hR : Rel j φ D M) (hI : LI s dC dI cI cL ad D M ol H locs) (hl : lv_has ls 7 (lvL b ad j)) (next : LN p l e s m below meth c b dC dI cI cL ad j cells slots Q) : W p l e room_1 s m #[Value.ref b] below meth c H locs cells slots Q (F0 m 268 ls []) := by
  obtain ⟨⟨hx, hb, hml, hown, hts⟩, ⟨hX, hbl, hL⟩, hK2, hE, hl0⟩ := hC
  obtain ⟨hP, hD, hS⟩ := hI
  have hK := hK2.sub (tys' := [(cI, .int)]) [0] rfl
  have hA : ∀ q : Nat, s.heap.size ≤ q → (fun q : Nat => s.heap.size ≤ q) q := fun _ h => h
  have hbA : ¬ (fun q : Nat => s.heap.size ≤ q) b := Nat.not_le.mpr hbl
  obtain ⟨hm, hsc, hog, hsg, hsp, hd, hst⟩ := rel_D hR
  obtain ⟨hco, hg, hgr, hof, hro, hdr, hv, hsh, hfr⟩ := rel_M hR
  have hk : j < 512 := by omega
  have hf0 : cells ≤ room_1.cells ∧ slots ≤ room_1.slots := ⟨by show cells ≤ 1049; omega, by show slots ≤ 44480; omega⟩
  have hf1 : cells + 1 ≤ room_1.cells ∧ slots + 6 ≤ room_1.slots := hcs
  refine lv_aload_n hx hb dL_law_268 rfl (lv_at hl 1 rfl) ?_
  refine lv_aload_n hx hb dL_law_269 rfl (lv_at hl 0 rfl) ?_
  refine lv_iload hx hb dL_law_270 (lv_at hl 4 rfl) ?_
  refine lv_iconst (v := 1) hx hb dL_law_272 (by decide) ?_
  refine lv_iadd hx hb dL_law_273 ?_
  refine mv_top (v := nI (5 * j + 1)) (nI_add (5 * j) 1) ?_
  refine mv_sld hx hb hX hbl hbA hS (k := 5 * j + 1) rfl (by omega) hL dL_law_274 ?_
  have hP : va_P (dC, dI) vwCl ((wMs cI (ad 14) (ad 15) (ad 16) (ad 17) (ad 18) (ad 19) (ad 20) M ++ wO (ad 13) cL ol) ++ wD cI (ad 0) (ad 1) (ad 2) (ad 3) (ad 4) (ad 5) (ad 6) (ad 7) (ad 8) (ad 9) (ad 10) (ad 11) (ad 12) D) _ := hP
  have hD : va_D (fun q => s.heap.size ≤ q) ((wMs cI (ad 14) (ad 15) (ad 16) (ad 17) (ad 18) (ad 19) (ad 20) M ++ wO (ad 13) cL ol) ++ wD cI (ad 0) (ad 1) (ad 2) (ad 3) (ad 4) (ad 5) (ad 6) (ad 7) (ad 8) (ad 9) (ad 10) (ad 11) (ad 12) D) := hD
  refine m_wVi (As := [.int (xs (5 * j + 1))]) (rest := []) ⟨hx, hb, hml, hown, hts⟩ (c_X2_draft l dC dI (ad 0) (ad 1) (ad 6) cI (ad 7) (ad 8) (ad 9) (ad 10) (ad 11) (ad 12) D.1 D.2.1 D.2.2.1 D.2.2.2.1 D.2.2.2.2.1 D.2.2.2.2.2.1 D.2.2.2.2.2.2.1 D.2.2.2.2.2.2.2.1 (ad 2) (ad 3) (ad 4) (ad 5) D.2.2.2.2.2.2.2.2.1 D.2.2.2.2.2.2.2.2.2.1 D.2.2.2.2.2.2.2.2.2.2.1 D.2.2.2.2.2.2.2.2.2.2.2.1 D.2.2.2.2.2.2.2.2.2.2.2.2.1 D.2.2.2.2.2.2.2.2.2.2.2.2.2.1 D.2.2.2.2.2.2.2.2.2.2.2.2.2.2.1 D.2.2.2.2.2.2.2.2.2.2.2.2.2.2.2 ((xs (5 * j + 1))) hd) (cwV 1 hts gL_law_X2_draft rfl rfl rfl (by decide +kernel) ⟨Nat.le_of_ble_eq_true rfl, Nat.le_of_ble_eq_true rfl⟩) hP hK hD hS hA 2 0 rfl rfl rfl hl.1 rfl (Nat.le_of_ble_eq_true rfl) dL_law_275 hf0 (fun r u H locs hw hP hD hS => ?_)
  obtain ⟨rfl, rfl⟩ := hw
  have hP : va_P (dC, dI) vwCl (wL cI cL ad ((dDraft ((xs (5 * j + 1))) D).2) M ol) _ := hP
  have hD : va_D (fun q => s.heap.size ≤ q) (wL cI cL ad ((dDraft ((xs (5 * j + 1))) D).2) M ol) := hD
  refine lv_aload_n hx hb dL_law_278 rfl (lv_at hl 2 rfl) ?_
  refine lv_aload_n hx hb dL_law_279 rfl (lv_at hl 0 rfl) ?_
  refine lv_iload hx hb dL_law_280 (lv_at hl 4 rfl) ?_
  refine lv_iconst (v := 1) hx hb dL_law_282 (by decide) ?_
  refine lv_iadd hx hb dL_law_283 ?_
  refine mv_top (v := nI (5 * j + 1)) (nI_add (5 * j) 1) ?_
  refine mv_sld hx hb hX hbl hbA hS (k := 5 * j + 1) rfl (by omega) hL dL_law_284 ?_
  have hP := ma_swapP (a := wMs cI (ad 14) (ad 15) (ad 16) (ad 17) (ad 18) (ad 19) (ad 20) M) (b := wO (ad 13) cL ol ++ wD cI (ad 0) (ad 1) (ad 2) (ad 3) (ad 4) (ad 5) (ad 6) (ad 7) (ad 8) (ad 9) (ad 10) (ad 11) (ad 12) ((dDraft ((xs (5 * j + 1))) D).2)) hP
  have hD := ma_swapD (a := wMs cI (ad 14) (ad 15) (ad 16) (ad 17) (ad 18) (ad 19) (ad 20) M) (b := wO (ad 13) cL ol ++ wD cI (ad 0) (ad 1) (ad 2) (ad 3) (ad 4) (ad 5) (ad 6) (ad 7) (ad 8) (ad 9) (ad 10) (ad 11) (ad 12) ((dDraft ((xs (5 * j + 1))) D).2)) hD
  refine m_wVi (As := [.int (xs (5 * j + 1))]) (rest := [.int (dDraft ((xs (5 * j + 1))) D).1]) ⟨hx, hb, hml, hown, hts⟩ (c_X3_draft l dC dI cI (ad 14) (ad 15) (ad 16) (ad 17) (ad 18) (ad 19) (ad 20) M.1 M.2.1 M.2.2.1 M.2.2.2.1 M.2.2.2.2.1 M.2.2.2.2.2.1 M.2.2.2.2.2.2.1 M.2.2.2.2.2.2.2.1 M.2.2.2.2.2.2.2.2.1 M.2.2.2.2.2.2.2.2.2.1 M.2.2.2.2.2.2.2.2.2.2 ((xs (5 * j + 1))) (by omega) hdr.1 hdr.2) (cwV 1 hts gL_law_X3_draft rfl rfl rfl (by decide +kernel) ⟨Nat.le_of_ble_eq_true rfl, Nat.le_of_ble_eq_true rfl⟩) hP hK hD hS hA 3 0 rfl rfl rfl hl.1 rfl (Nat.le_of_ble_eq_true rfl) dL_law_285 hf0 (fun r u H locs hw hP hD hS => ?_)
  obtain ⟨rfl, rfl⟩ := hw
  have hP := ma_swapP (a := wO (ad 13) cL ol ++ wD cI (ad 0) (ad 1) (ad 2) (ad 3) (ad 4) (ad 5) (ad 6) (ad 7) (ad 8) (ad 9) (ad 10) (ad 11) (ad 12) ((dDraft ((xs (5 * j + 1))) D).2)) (b := wMs cI (ad 14) (ad 15) (ad 16) (ad 17) (ad 18) (ad 19) (ad 20) (mDraft ((xs (5 * j + 1))) M).2) hP
  have hD := ma_swapD (a := wO (ad 13) cL ol ++ wD cI (ad 0) (ad 1) (ad 2) (ad 3) (ad 4) (ad 5) (ad 6) (ad 7) (ad 8) (ad 9) (ad 10) (ad 11) (ad 12) ((dDraft ((xs (5 * j + 1))) D).2)) (b := wMs cI (ad 14) (ad 15) (ad 16) (ad 17) (ad 18) (ad 19) (ad 20) (mDraft ((xs (5 * j + 1))) M).2) hD
  have hP : va_P (dC, dI) vwCl (wL cI cL ad ((dDraft ((xs (5 * j + 1))) D).2) ((mDraft ((xs (5 * j + 1))) M).2) ol) _ := hP
  have hD : va_D (fun q => s.heap.size ≤ q) (wL cI cL ad ((dDraft ((xs (5 * j + 1))) D).2) ((mDraft ((xs (5 * j + 1))) M).2) ol) := hD
  refine lv_icmp_eq (tgt := 700) hx hb dL_law_288 (by decide) (fun c9 => ?_) (fun c9 => ?_)
  · refine W.widen (k := cells + 1) (n := slots + 6) (by omega) (by omega) ?_
    exact next _ _ _ _ _ ls ⟨φ, (r_draft hR hk).2⟩ ⟨hP, hD, hS⟩ (lv_sub hl [0, 1, 2, 3, 4] rfl)
  · exact absurd (r_draft hR hk).1 c9
set_option maxHeartbeats 4000000 in
set_option maxRecDepth 100000 in
theorem lc_let (p : Program) (l : Launch) (e : Env) (s : State) (m : MethodId) (below : List Frame) (meth : Method) (c : Code) (b L : Nat) (xs : Nat → Int32) (dC : Nat → ClassId) (dI : Nat → Nat → Nat) (cI cL : ClassId) (ad : Nat → Nat) (j cells slots : Nat) (Q : State → Prop) (D : DS) (M : MS) (ol : Nat → Int64) (H : Heap) (locs : List Loc) (ls : Array Slot) (φ : Nat → Nat) (hC : LC p l s m c b L xs dC dI cI cL) (hj : 5 * j + 5 ≤ L) (hcs : cells + 1 ≤ 1049 ∧ slots + 6 ≤ 44480) (hR : Rel j φ D M) (hI : LI s dC dI cI cL ad D M ol H locs) (hl : lv_has ls 7 (lvL b ad j)) (next : LN p l e s m below meth c b dC dI cI cL ad j cells slots Q) : W p l e room_1 s m #[Value.ref b] below meth c H locs cells slots Q (F0 m 377 ls []) := by
  obtain ⟨⟨hx, hb, hml, hown, hts⟩, ⟨hX, hbl, hL⟩, hK2, hE, hl0⟩ := hC
  obtain ⟨hP, hD, hS⟩ := hI
  have hK := hK2.sub (tys' := [(cI, .int)]) [0] rfl
  have hA : ∀ q : Nat, s.heap.size ≤ q → (fun q : Nat => s.heap.size ≤ q) q := fun _ h => h
  have hbA : ¬ (fun q : Nat => s.heap.size ≤ q) b := Nat.not_le.mpr hbl
  obtain ⟨hm, hsc, hog, hsg, hsp, hd, hst⟩ := rel_D hR
  obtain ⟨hco, hg, hgr, hof, hro, hdr, hv, hsh, hfr⟩ := rel_M hR
  have hk : j < 512 := by omega
  have hf0 : cells ≤ room_1.cells ∧ slots ≤ room_1.slots := ⟨by show cells ≤ 1049; omega, by show slots ≤ 44480; omega⟩
  have hf1 : cells + 1 ≤ room_1.cells ∧ slots + 6 ≤ room_1.slots := hcs
  refine lv_aload_n hx hb dL_law_377 rfl (lv_at hl 1 rfl) ?_
  refine lv_aload_n hx hb dL_law_378 rfl (lv_at hl 0 rfl) ?_
  refine lv_iload hx hb dL_law_379 (lv_at hl 4 rfl) ?_
  refine lv_iconst (v := 1) hx hb dL_law_381 (by decide) ?_
  refine lv_iadd hx hb dL_law_382 ?_
  refine mv_top (v := nI (5 * j + 1)) (nI_add (5 * j) 1) ?_
  refine mv_sld hx hb hX hbl hbA hS (k := 5 * j + 1) rfl (by omega) hL dL_law_383 ?_
  refine lv_aload_n hx hb dL_law_384 rfl (lv_at hl 0 rfl) ?_
  refine lv_iload hx hb dL_law_385 (lv_at hl 4 rfl) ?_
  refine lv_iconst (v := 2) hx hb dL_law_387 (by decide) ?_
  refine lv_iadd hx hb dL_law_388 ?_
  refine mv_top (v := nI (5 * j + 2)) (nI_add (5 * j) 2) ?_
  refine mv_sld hx hb hX hbl hbA hS (k := 5 * j + 2) rfl (by omega) hL dL_law_389 ?_
  refine lv_aload_n hx hb dL_law_390 rfl (lv_at hl 0 rfl) ?_
  refine lv_iload hx hb dL_law_391 (lv_at hl 4 rfl) ?_
  refine lv_iconst (v := 3) hx hb dL_law_393 (by decide) ?_
  refine lv_iadd hx hb dL_law_394 ?_
  refine mv_top (v := nI (5 * j + 3)) (nI_add (5 * j) 3) ?_
  refine mv_sld hx hb hX hbl hbA hS (k := 5 * j + 3) rfl (by omega) hL dL_law_395 ?_
  suffices key : W p l e room_1 s m #[Value.ref b] below meth c H locs cells slots Q (F0 m 404 ls [.int (gB (xs (5 * j + 3))), .int (xs (5 * j + 2)), .int (xs (5 * j + 1)), .ref (ad 0)]) by
    refine lv_if_eq (tgt := 403) hx hb dL_law_396 (by decide) (fun c1 => ?_) (fun c1 => ?_)
    · refine lv_iconst (v := 0) hx hb dL_law_403 (by decide) ?_
      exact mv_top (gB_0 c1) key
    · refine lv_iconst (v := 1) hx hb dL_law_399 (by decide) ?_
      refine lv_goto (tgt := 404) hx hb dL_law_400 (by decide) ?_
      exact mv_top (gB_1 c1) key
  have hP : va_P (dC, dI) vwCl ((wMs cI (ad 14) (ad 15) (ad 16) (ad 17) (ad 18) (ad 19) (ad 20) M ++ wO (ad 13) cL ol) ++ wD cI (ad 0) (ad 1) (ad 2) (ad 3) (ad 4) (ad 5) (ad 6) (ad 7) (ad 8) (ad 9) (ad 10) (ad 11) (ad 12) D) _ := hP
  have hD : va_D (fun q => s.heap.size ≤ q) ((wMs cI (ad 14) (ad 15) (ad 16) (ad 17) (ad 18) (ad 19) (ad 20) M ++ wO (ad 13) cL ol) ++ wD cI (ad 0) (ad 1) (ad 2) (ad 3) (ad 4) (ad 5) (ad 6) (ad 7) (ad 8) (ad 9) (ad 10) (ad 11) (ad 12) D) := hD
  refine m_wVi (As := [.int (xs (5 * j + 1)), .int (xs (5 * j + 2)), .int (gB (xs (5 * j + 3)))]) (rest := []) ⟨hx, hb, hml, hown, hts⟩ (c_X2_let l dC dI (ad 0) (ad 1) (ad 6) cI (ad 7) (ad 8) (ad 9) (ad 10) (ad 11) (ad 12) D.1 D.2.1 D.2.2.1 D.2.2.2.1 D.2.2.2.2.1 D.2.2.2.2.2.1 D.2.2.2.2.2.2.1 D.2.2.2.2.2.2.2.1 (ad 2) (ad 3) (ad 4) (ad 5) D.2.2.2.2.2.2.2.2.1 D.2.2.2.2.2.2.2.2.2.1 D.2.2.2.2.2.2.2.2.2.2.1 D.2.2.2.2.2.2.2.2.2.2.2.1 D.2.2.2.2.2.2.2.2.2.2.2.2.1 D.2.2.2.2.2.2.2.2.2.2.2.2.2.1 D.2.2.2.2.2.2.2.2.2.2.2.2.2.2.1 D.2.2.2.2.2.2.2.2.2.2.2.2.2.2.2 ((xs (5 * j + 1))) ((xs (5 * j + 2))) ((gB (xs (5 * j + 3)))) hm hsc hog hsg hsp) (cwV 3 hts gL_law_X2_let rfl rfl rfl (by decide +kernel) ⟨Nat.le_of_ble_eq_true rfl, Nat.le_of_ble_eq_true rfl⟩) hP hK hD hS hA 2 0 rfl rfl rfl hl.1 rfl (Nat.le_of_ble_eq_true rfl) dL_law_404 hf0 (fun r u H locs hw hP hD hS => ?_)
  obtain ⟨rfl, rfl⟩ := hw
  have hP : va_P (dC, dI) vwCl (wL cI cL ad ((dLet ((xs (5 * j + 1))) ((xs (5 * j + 2))) ((gB (xs (5 * j + 3)))) D).2) M ol) _ := hP
  have hD : va_D (fun q => s.heap.size ≤ q) (wL cI cL ad ((dLet ((xs (5 * j + 1))) ((xs (5 * j + 2))) ((gB (xs (5 * j + 3)))) D).2) M ol) := hD
  refine lv_aload_n hx hb dL_law_407 rfl (lv_at hl 2 rfl) ?_
  refine lv_aload_n hx hb dL_law_408 rfl (lv_at hl 0 rfl) ?_
  refine lv_iload hx hb dL_law_409 (lv_at hl 4 rfl) ?_
  refine lv_iconst (v := 1) hx hb dL_law_411 (by decide) ?_
  refine lv_iadd hx hb dL_law_412 ?_
  refine mv_top (v := nI (5 * j + 1)) (nI_add (5 * j) 1) ?_
  refine mv_sld hx hb hX hbl hbA hS (k := 5 * j + 1) rfl (by omega) hL dL_law_413 ?_
  refine lv_aload_n hx hb dL_law_414 rfl (lv_at hl 0 rfl) ?_
  refine lv_iload hx hb dL_law_415 (lv_at hl 4 rfl) ?_
  refine lv_iconst (v := 2) hx hb dL_law_417 (by decide) ?_
  refine lv_iadd hx hb dL_law_418 ?_
  refine mv_top (v := nI (5 * j + 2)) (nI_add (5 * j) 2) ?_
  refine mv_sld hx hb hX hbl hbA hS (k := 5 * j + 2) rfl (by omega) hL dL_law_419 ?_
  refine lv_aload_n hx hb dL_law_420 rfl (lv_at hl 0 rfl) ?_
  refine lv_iload hx hb dL_law_421 (lv_at hl 4 rfl) ?_
  refine lv_iconst (v := 3) hx hb dL_law_423 (by decide) ?_
  refine lv_iadd hx hb dL_law_424 ?_
  refine mv_top (v := nI (5 * j + 3)) (nI_add (5 * j) 3) ?_
  refine mv_sld hx hb hX hbl hbA hS (k := 5 * j + 3) rfl (by omega) hL dL_law_425 ?_
  suffices key : W p l e room_1 s m #[Value.ref b] below meth c H locs cells slots Q (F0 m 434 ls [.int (gB (xs (5 * j + 3))), .int (xs (5 * j + 2)), .int (xs (5 * j + 1)), .ref (ad 14), .int (dLet ((xs (5 * j + 1))) ((xs (5 * j + 2))) ((gB (xs (5 * j + 3)))) D).1]) by
    refine lv_if_eq (tgt := 433) hx hb dL_law_426 (by decide) (fun c1 => ?_) (fun c1 => ?_)
    · refine lv_iconst (v := 0) hx hb dL_law_433 (by decide) ?_
      exact mv_top (gB_0 c1) key
    · refine lv_iconst (v := 1) hx hb dL_law_429 (by decide) ?_
      refine lv_goto (tgt := 434) hx hb dL_law_430 (by decide) ?_
      exact mv_top (gB_1 c1) key
  have hP := ma_swapP (a := wMs cI (ad 14) (ad 15) (ad 16) (ad 17) (ad 18) (ad 19) (ad 20) M) (b := wO (ad 13) cL ol ++ wD cI (ad 0) (ad 1) (ad 2) (ad 3) (ad 4) (ad 5) (ad 6) (ad 7) (ad 8) (ad 9) (ad 10) (ad 11) (ad 12) ((dLet ((xs (5 * j + 1))) ((xs (5 * j + 2))) ((gB (xs (5 * j + 3)))) D).2)) hP
  have hD := ma_swapD (a := wMs cI (ad 14) (ad 15) (ad 16) (ad 17) (ad 18) (ad 19) (ad 20) M) (b := wO (ad 13) cL ol ++ wD cI (ad 0) (ad 1) (ad 2) (ad 3) (ad 4) (ad 5) (ad 6) (ad 7) (ad 8) (ad 9) (ad 10) (ad 11) (ad 12) ((dLet ((xs (5 * j + 1))) ((xs (5 * j + 2))) ((gB (xs (5 * j + 3)))) D).2)) hD
  refine m_wVi (As := [.int (xs (5 * j + 1)), .int (xs (5 * j + 2)), .int (gB (xs (5 * j + 3)))]) (rest := [.int (dLet ((xs (5 * j + 1))) ((xs (5 * j + 2))) ((gB (xs (5 * j + 3)))) D).1]) ⟨hx, hb, hml, hown, hts⟩ (c_X3_let l dC dI cI (ad 14) (ad 15) (ad 16) (ad 17) (ad 18) (ad 19) (ad 20) M.1 M.2.1 M.2.2.1 M.2.2.2.1 M.2.2.2.2.1 M.2.2.2.2.2.1 M.2.2.2.2.2.2.1 M.2.2.2.2.2.2.2.1 M.2.2.2.2.2.2.2.2.1 M.2.2.2.2.2.2.2.2.2.1 M.2.2.2.2.2.2.2.2.2.2 ((xs (5 * j + 1))) ((xs (5 * j + 2))) ((gB (xs (5 * j + 3)))) hco hg hgr hof) (cwV 3 hts gL_law_X3_let rfl rfl rfl (by decide +kernel) ⟨Nat.le_of_ble_eq_true rfl, Nat.le_of_ble_eq_true rfl⟩) hP hK hD hS hA 3 0 rfl rfl rfl hl.1 rfl (Nat.le_of_ble_eq_true rfl) dL_law_434 hf0 (fun r u H locs hw hP hD hS => ?_)
  obtain ⟨rfl, rfl⟩ := hw
  have hP := ma_swapP (a := wO (ad 13) cL ol ++ wD cI (ad 0) (ad 1) (ad 2) (ad 3) (ad 4) (ad 5) (ad 6) (ad 7) (ad 8) (ad 9) (ad 10) (ad 11) (ad 12) ((dLet ((xs (5 * j + 1))) ((xs (5 * j + 2))) ((gB (xs (5 * j + 3)))) D).2)) (b := wMs cI (ad 14) (ad 15) (ad 16) (ad 17) (ad 18) (ad 19) (ad 20) (mLet ((xs (5 * j + 1))) ((xs (5 * j + 2))) ((gB (xs (5 * j + 3)))) M).2) hP
  have hD := ma_swapD (a := wO (ad 13) cL ol ++ wD cI (ad 0) (ad 1) (ad 2) (ad 3) (ad 4) (ad 5) (ad 6) (ad 7) (ad 8) (ad 9) (ad 10) (ad 11) (ad 12) ((dLet ((xs (5 * j + 1))) ((xs (5 * j + 2))) ((gB (xs (5 * j + 3)))) D).2)) (b := wMs cI (ad 14) (ad 15) (ad 16) (ad 17) (ad 18) (ad 19) (ad 20) (mLet ((xs (5 * j + 1))) ((xs (5 * j + 2))) ((gB (xs (5 * j + 3)))) M).2) hD
  have hP : va_P (dC, dI) vwCl (wL cI cL ad ((dLet ((xs (5 * j + 1))) ((xs (5 * j + 2))) ((gB (xs (5 * j + 3)))) D).2) ((mLet ((xs (5 * j + 1))) ((xs (5 * j + 2))) ((gB (xs (5 * j + 3)))) M).2) ol) _ := hP
  have hD : va_D (fun q => s.heap.size ≤ q) (wL cI cL ad ((dLet ((xs (5 * j + 1))) ((xs (5 * j + 2))) ((gB (xs (5 * j + 3)))) D).2) ((mLet ((xs (5 * j + 1))) ((xs (5 * j + 2))) ((gB (xs (5 * j + 3)))) M).2) ol) := hD
  refine lv_icmp_eq (tgt := 700) hx hb dL_law_437 (by decide) (fun c9 => ?_) (fun c9 => ?_)
  · refine W.widen (k := cells + 1) (n := slots + 6) (by omega) (by omega) ?_
    exact next _ _ _ _ _ ls ⟨φ, (r_let hR hk).2⟩ ⟨hP, hD, hS⟩ (lv_sub hl [0, 1, 2, 3, 4] rfl)
  · exact absurd (r_let hR hk).1 c9
set_option maxHeartbeats 4000000 in
set_option maxRecDepth 100000 in
theorem lc_shape (p : Program) (l : Launch) (e : Env) (s : State) (m : MethodId) (below : List Frame) (meth : Method) (c : Code) (b L : Nat) (xs : Nat → Int32) (dC : Nat → ClassId) (dI : Nat → Nat → Nat) (cI cL : ClassId) (ad : Nat → Nat) (j cells slots : Nat) (Q : State → Prop) (D : DS) (M : MS) (ol : Nat → Int64) (H : Heap) (locs : List Loc) (ls : Array Slot) (φ : Nat → Nat) (hC : LC p l s m c b L xs dC dI cI cL) (hj : 5 * j + 5 ≤ L) (hcs : cells + 1 ≤ 1049 ∧ slots + 6 ≤ 44480) (hR : Rel j φ D M) (hI : LI s dC dI cI cL ad D M ol H locs) (hl : lv_has ls 7 (lvL b ad j)) (next : LN p l e s m below meth c b dC dI cI cL ad j cells slots Q) : W p l e room_1 s m #[Value.ref b] below meth c H locs cells slots Q (F0 m 442 ls []) := by
  obtain ⟨⟨hx, hb, hml, hown, hts⟩, ⟨hX, hbl, hL⟩, hK2, hE, hl0⟩ := hC
  obtain ⟨hP, hD, hS⟩ := hI
  have hK := hK2.sub (tys' := [(cI, .int)]) [0] rfl
  have hA : ∀ q : Nat, s.heap.size ≤ q → (fun q : Nat => s.heap.size ≤ q) q := fun _ h => h
  have hbA : ¬ (fun q : Nat => s.heap.size ≤ q) b := Nat.not_le.mpr hbl
  obtain ⟨hm, hsc, hog, hsg, hsp, hd, hst⟩ := rel_D hR
  obtain ⟨hco, hg, hgr, hof, hro, hdr, hv, hsh, hfr⟩ := rel_M hR
  have hk : j < 512 := by omega
  have hf0 : cells ≤ room_1.cells ∧ slots ≤ room_1.slots := ⟨by show cells ≤ 1049; omega, by show slots ≤ 44480; omega⟩
  have hf1 : cells + 1 ≤ room_1.cells ∧ slots + 6 ≤ room_1.slots := hcs
  refine lv_aload_n hx hb dL_law_442 rfl (lv_at hl 1 rfl) ?_
  refine lv_aload_n hx hb dL_law_443 rfl (lv_at hl 0 rfl) ?_
  refine lv_iload hx hb dL_law_444 (lv_at hl 4 rfl) ?_
  refine lv_iconst (v := 1) hx hb dL_law_446 (by decide) ?_
  refine lv_iadd hx hb dL_law_447 ?_
  refine mv_top (v := nI (5 * j + 1)) (nI_add (5 * j) 1) ?_
  refine mv_sld hx hb hX hbl hbA hS (k := 5 * j + 1) rfl (by omega) hL dL_law_448 ?_
  suffices key : W p l e room_1 s m #[Value.ref b] below meth c H locs cells slots Q (F0 m 457 ls [.int (gB (xs (5 * j + 1))), .ref (ad 0)]) by
    refine lv_if_eq (tgt := 456) hx hb dL_law_449 (by decide) (fun c1 => ?_) (fun c1 => ?_)
    · refine lv_iconst (v := 0) hx hb dL_law_456 (by decide) ?_
      exact mv_top (gB_0 c1) key
    · refine lv_iconst (v := 1) hx hb dL_law_452 (by decide) ?_
      refine lv_goto (tgt := 457) hx hb dL_law_453 (by decide) ?_
      exact mv_top (gB_1 c1) key
  have hP : va_P (dC, dI) vwCl ((wMs cI (ad 14) (ad 15) (ad 16) (ad 17) (ad 18) (ad 19) (ad 20) M ++ wO (ad 13) cL ol) ++ wD cI (ad 0) (ad 1) (ad 2) (ad 3) (ad 4) (ad 5) (ad 6) (ad 7) (ad 8) (ad 9) (ad 10) (ad 11) (ad 12) D) _ := hP
  have hD : va_D (fun q => s.heap.size ≤ q) ((wMs cI (ad 14) (ad 15) (ad 16) (ad 17) (ad 18) (ad 19) (ad 20) M ++ wO (ad 13) cL ol) ++ wD cI (ad 0) (ad 1) (ad 2) (ad 3) (ad 4) (ad 5) (ad 6) (ad 7) (ad 8) (ad 9) (ad 10) (ad 11) (ad 12) D) := hD
  refine m_wVi (As := [.int (gB (xs (5 * j + 1)))]) (rest := []) ⟨hx, hb, hml, hown, hts⟩ (c_X2_shape l dC dI (ad 0) (ad 1) (ad 6) cI (ad 7) (ad 8) (ad 9) (ad 10) (ad 11) (ad 12) D.1 D.2.1 D.2.2.1 D.2.2.2.1 D.2.2.2.2.1 D.2.2.2.2.2.1 D.2.2.2.2.2.2.1 D.2.2.2.2.2.2.2.1 (ad 2) (ad 3) (ad 4) (ad 5) D.2.2.2.2.2.2.2.2.1 D.2.2.2.2.2.2.2.2.2.1 D.2.2.2.2.2.2.2.2.2.2.1 D.2.2.2.2.2.2.2.2.2.2.2.1 D.2.2.2.2.2.2.2.2.2.2.2.2.1 D.2.2.2.2.2.2.2.2.2.2.2.2.2.1 D.2.2.2.2.2.2.2.2.2.2.2.2.2.2.1 D.2.2.2.2.2.2.2.2.2.2.2.2.2.2.2 ((gB (xs (5 * j + 1)))) hm hsc hog hsg hsp hd) (cwV 1 hts gL_law_X2_shape rfl rfl rfl (by decide +kernel) ⟨Nat.le_of_ble_eq_true rfl, Nat.le_of_ble_eq_true rfl⟩) hP hK hD hS hA 2 0 rfl rfl rfl hl.1 rfl (Nat.le_of_ble_eq_true rfl) dL_law_457 hf0 (fun r u H locs hw hP hD hS => ?_)
  obtain ⟨rfl, rfl⟩ := hw
  have hP : va_P (dC, dI) vwCl (wL cI cL ad ((dShape ((gB (xs (5 * j + 1)))) D).2) M ol) _ := hP
  have hD : va_D (fun q => s.heap.size ≤ q) (wL cI cL ad ((dShape ((gB (xs (5 * j + 1)))) D).2) M ol) := hD
  refine lv_aload_n hx hb dL_law_460 rfl (lv_at hl 2 rfl) ?_
  refine lv_aload_n hx hb dL_law_461 rfl (lv_at hl 0 rfl) ?_
  refine lv_iload hx hb dL_law_462 (lv_at hl 4 rfl) ?_
  refine lv_iconst (v := 1) hx hb dL_law_464 (by decide) ?_
  refine lv_iadd hx hb dL_law_465 ?_
  refine mv_top (v := nI (5 * j + 1)) (nI_add (5 * j) 1) ?_
  refine mv_sld hx hb hX hbl hbA hS (k := 5 * j + 1) rfl (by omega) hL dL_law_466 ?_
  suffices key : W p l e room_1 s m #[Value.ref b] below meth c H locs cells slots Q (F0 m 475 ls [.int (gB (xs (5 * j + 1))), .ref (ad 14), .int (dShape ((gB (xs (5 * j + 1)))) D).1]) by
    refine lv_if_eq (tgt := 474) hx hb dL_law_467 (by decide) (fun c1 => ?_) (fun c1 => ?_)
    · refine lv_iconst (v := 0) hx hb dL_law_474 (by decide) ?_
      exact mv_top (gB_0 c1) key
    · refine lv_iconst (v := 1) hx hb dL_law_470 (by decide) ?_
      refine lv_goto (tgt := 475) hx hb dL_law_471 (by decide) ?_
      exact mv_top (gB_1 c1) key
  have hP := ma_swapP (a := wMs cI (ad 14) (ad 15) (ad 16) (ad 17) (ad 18) (ad 19) (ad 20) M) (b := wO (ad 13) cL ol ++ wD cI (ad 0) (ad 1) (ad 2) (ad 3) (ad 4) (ad 5) (ad 6) (ad 7) (ad 8) (ad 9) (ad 10) (ad 11) (ad 12) ((dShape ((gB (xs (5 * j + 1)))) D).2)) hP
  have hD := ma_swapD (a := wMs cI (ad 14) (ad 15) (ad 16) (ad 17) (ad 18) (ad 19) (ad 20) M) (b := wO (ad 13) cL ol ++ wD cI (ad 0) (ad 1) (ad 2) (ad 3) (ad 4) (ad 5) (ad 6) (ad 7) (ad 8) (ad 9) (ad 10) (ad 11) (ad 12) ((dShape ((gB (xs (5 * j + 1)))) D).2)) hD
  refine m_wVi (As := [.int (gB (xs (5 * j + 1)))]) (rest := [.int (dShape ((gB (xs (5 * j + 1)))) D).1]) ⟨hx, hb, hml, hown, hts⟩ (c_X3_shape l dC dI cI (ad 14) (ad 15) (ad 16) (ad 17) (ad 18) (ad 19) (ad 20) M.1 M.2.1 M.2.2.1 M.2.2.2.1 M.2.2.2.2.1 M.2.2.2.2.2.1 M.2.2.2.2.2.2.1 M.2.2.2.2.2.2.2.1 M.2.2.2.2.2.2.2.2.1 M.2.2.2.2.2.2.2.2.2.1 M.2.2.2.2.2.2.2.2.2.2 ((gB (xs (5 * j + 1)))) hco hg hgr hro.2) (cwV 1 hts gL_law_X3_shape rfl rfl rfl (by decide +kernel) ⟨Nat.le_of_ble_eq_true rfl, Nat.le_of_ble_eq_true rfl⟩) hP hK hD hS hA 3 0 rfl rfl rfl hl.1 rfl (Nat.le_of_ble_eq_true rfl) dL_law_475 hf0 (fun r u H locs hw hP hD hS => ?_)
  obtain ⟨rfl, rfl⟩ := hw
  have hP := ma_swapP (a := wO (ad 13) cL ol ++ wD cI (ad 0) (ad 1) (ad 2) (ad 3) (ad 4) (ad 5) (ad 6) (ad 7) (ad 8) (ad 9) (ad 10) (ad 11) (ad 12) ((dShape ((gB (xs (5 * j + 1)))) D).2)) (b := wMs cI (ad 14) (ad 15) (ad 16) (ad 17) (ad 18) (ad 19) (ad 20) (mShape ((gB (xs (5 * j + 1)))) M).2) hP
  have hD := ma_swapD (a := wO (ad 13) cL ol ++ wD cI (ad 0) (ad 1) (ad 2) (ad 3) (ad 4) (ad 5) (ad 6) (ad 7) (ad 8) (ad 9) (ad 10) (ad 11) (ad 12) ((dShape ((gB (xs (5 * j + 1)))) D).2)) (b := wMs cI (ad 14) (ad 15) (ad 16) (ad 17) (ad 18) (ad 19) (ad 20) (mShape ((gB (xs (5 * j + 1)))) M).2) hD
  have hP : va_P (dC, dI) vwCl (wL cI cL ad ((dShape ((gB (xs (5 * j + 1)))) D).2) ((mShape ((gB (xs (5 * j + 1)))) M).2) ol) _ := hP
  have hD : va_D (fun q => s.heap.size ≤ q) (wL cI cL ad ((dShape ((gB (xs (5 * j + 1)))) D).2) ((mShape ((gB (xs (5 * j + 1)))) M).2) ol) := hD
  refine lv_icmp_eq (tgt := 700) hx hb dL_law_478 (by decide) (fun c9 => ?_) (fun c9 => ?_)
  · refine W.widen (k := cells + 1) (n := slots + 6) (by omega) (by omega) ?_
    exact next _ _ _ _ _ ls (r_shape hR hk).2 ⟨hP, hD, hS⟩ (lv_sub hl [0, 1, 2, 3, 4] rfl)
  · exact absurd (r_shape hR hk).1 c9
set_option maxHeartbeats 4000000 in
set_option maxRecDepth 100000 in
theorem lc_count (p : Program) (l : Launch) (e : Env) (s : State) (m : MethodId) (below : List Frame) (meth : Method) (c : Code) (b L : Nat) (xs : Nat → Int32) (dC : Nat → ClassId) (dI : Nat → Nat → Nat) (cI cL : ClassId) (ad : Nat → Nat) (j cells slots : Nat) (Q : State → Prop) (D : DS) (M : MS) (ol : Nat → Int64) (H : Heap) (locs : List Loc) (ls : Array Slot) (φ : Nat → Nat) (hC : LC p l s m c b L xs dC dI cI cL) (hj : 5 * j + 5 ≤ L) (hcs : cells + 1 ≤ 1049 ∧ slots + 6 ≤ 44480) (hR : Rel j φ D M) (hI : LI s dC dI cI cL ad D M ol H locs) (hl : lv_has ls 7 (lvL b ad j)) (next : LN p l e s m below meth c b dC dI cI cL ad j cells slots Q) : W p l e room_1 s m #[Value.ref b] below meth c H locs cells slots Q (F0 m 675 ls []) := by
  obtain ⟨⟨hx, hb, hml, hown, hts⟩, ⟨hX, hbl, hL⟩, hK2, hE, hl0⟩ := hC
  obtain ⟨hP, hD, hS⟩ := hI
  have hK := hK2.sub (tys' := [(cI, .int)]) [0] rfl
  have hA : ∀ q : Nat, s.heap.size ≤ q → (fun q : Nat => s.heap.size ≤ q) q := fun _ h => h
  have hbA : ¬ (fun q : Nat => s.heap.size ≤ q) b := Nat.not_le.mpr hbl
  obtain ⟨hm, hsc, hog, hsg, hsp, hd, hst⟩ := rel_D hR
  obtain ⟨hco, hg, hgr, hof, hro, hdr, hv, hsh, hfr⟩ := rel_M hR
  have hk : j < 512 := by omega
  have hf0 : cells ≤ room_1.cells ∧ slots ≤ room_1.slots := ⟨by show cells ≤ 1049; omega, by show slots ≤ 44480; omega⟩
  have hf1 : cells + 1 ≤ room_1.cells ∧ slots + 6 ≤ room_1.slots := hcs
  refine lv_aload_n hx hb dL_law_675 rfl (lv_at hl 1 rfl) ?_
  refine lv_aload_n hx hb dL_law_676 rfl (lv_at hl 0 rfl) ?_
  refine lv_iload hx hb dL_law_677 (lv_at hl 4 rfl) ?_
  refine lv_iconst (v := 1) hx hb dL_law_679 (by decide) ?_
  refine lv_iadd hx hb dL_law_680 ?_
  refine mv_top (v := nI (5 * j + 1)) (nI_add (5 * j) 1) ?_
  refine mv_sld hx hb hX hbl hbA hS (k := 5 * j + 1) rfl (by omega) hL dL_law_681 ?_
  refine m_rV (As := [.int (xs (5 * j + 1))]) (rest := []) ⟨hx, hb, hml, hown, hts⟩ (c_X2_count l dC dI (ad 0) (ad 1) (ad 6) cI (ad 7) (ad 8) (ad 9) (ad 10) (ad 11) (ad 12) D.1 D.2.1 D.2.2.1 D.2.2.2.1 D.2.2.2.2.1 D.2.2.2.2.2.1 D.2.2.2.2.2.2.1 D.2.2.2.2.2.2.2.1 (ad 2) (ad 3) (ad 4) (ad 5) D.2.2.2.2.2.2.2.2.1 D.2.2.2.2.2.2.2.2.2.1 D.2.2.2.2.2.2.2.2.2.2.1 D.2.2.2.2.2.2.2.2.2.2.2.1 D.2.2.2.2.2.2.2.2.2.2.2.2.1 D.2.2.2.2.2.2.2.2.2.2.2.2.2.1 D.2.2.2.2.2.2.2.2.2.2.2.2.2.2.1 D.2.2.2.2.2.2.2.2.2.2.2.2.2.2.2 ((xs (5 * j + 1)))) (cwV 1 hts gL_law_X2_count rfl rfl rfl (by decide +kernel) ⟨Nat.le_of_ble_eq_true rfl, Nat.le_of_ble_eq_true rfl⟩) (ma_P (ma_P hP)) hK 2 0 rfl rfl rfl hl.1 rfl (Nat.le_of_ble_eq_true rfl) dL_law_682 hf0 (fun r hw => ?_)
  subst hw
  refine lv_aload_n hx hb dL_law_685 rfl (lv_at hl 2 rfl) ?_
  refine lv_aload_n hx hb dL_law_686 rfl (lv_at hl 0 rfl) ?_
  refine lv_iload hx hb dL_law_687 (lv_at hl 4 rfl) ?_
  refine lv_iconst (v := 1) hx hb dL_law_689 (by decide) ?_
  refine lv_iadd hx hb dL_law_690 ?_
  refine mv_top (v := nI (5 * j + 1)) (nI_add (5 * j) 1) ?_
  refine mv_sld hx hb hX hbl hbA hS (k := 5 * j + 1) rfl (by omega) hL dL_law_691 ?_
  have hP := ma_swapP (a := wMs cI (ad 14) (ad 15) (ad 16) (ad 17) (ad 18) (ad 19) (ad 20) M) (b := wO (ad 13) cL ol ++ wD cI (ad 0) (ad 1) (ad 2) (ad 3) (ad 4) (ad 5) (ad 6) (ad 7) (ad 8) (ad 9) (ad 10) (ad 11) (ad 12) D) hP
  have hD := ma_swapD (a := wMs cI (ad 14) (ad 15) (ad 16) (ad 17) (ad 18) (ad 19) (ad 20) M) (b := wO (ad 13) cL ol ++ wD cI (ad 0) (ad 1) (ad 2) (ad 3) (ad 4) (ad 5) (ad 6) (ad 7) (ad 8) (ad 9) (ad 10) (ad 11) (ad 12) D) hD
  refine m_wVi (As := [.int (xs (5 * j + 1))]) (rest := [.int (dCount ((xs (5 * j + 1))) D)]) ⟨hx, hb, hml, hown, hts⟩ (c_X3_count l dC dI cI (ad 14) (ad 15) (ad 16) (ad 17) (ad 18) (ad 19) (ad 20) M.1 M.2.1 M.2.2.1 M.2.2.2.1 M.2.2.2.2.1 M.2.2.2.2.2.1 M.2.2.2.2.2.2.1 M.2.2.2.2.2.2.2.1 M.2.2.2.2.2.2.2.2.1 M.2.2.2.2.2.2.2.2.2.1 M.2.2.2.2.2.2.2.2.2.2 ((xs (5 * j + 1))) hco hof hro.1 hro.2) (cwV 1 hts gL_law_X3_count rfl rfl rfl (by decide +kernel) ⟨Nat.le_of_ble_eq_true rfl, Nat.le_of_ble_eq_true rfl⟩) hP hK hD hS hA 3 0 rfl rfl rfl hl.1 rfl (Nat.le_of_ble_eq_true rfl) dL_law_692 hf0 (fun r u H locs hw hP hD hS => ?_)
  obtain ⟨rfl, rfl⟩ := hw
  have hP := ma_swapP (a := wO (ad 13) cL ol ++ wD cI (ad 0) (ad 1) (ad 2) (ad 3) (ad 4) (ad 5) (ad 6) (ad 7) (ad 8) (ad 9) (ad 10) (ad 11) (ad 12) D) (b := wMs cI (ad 14) (ad 15) (ad 16) (ad 17) (ad 18) (ad 19) (ad 20) (mCount ((xs (5 * j + 1))) M).2) hP
  have hD := ma_swapD (a := wO (ad 13) cL ol ++ wD cI (ad 0) (ad 1) (ad 2) (ad 3) (ad 4) (ad 5) (ad 6) (ad 7) (ad 8) (ad 9) (ad 10) (ad 11) (ad 12) D) (b := wMs cI (ad 14) (ad 15) (ad 16) (ad 17) (ad 18) (ad 19) (ad 20) (mCount ((xs (5 * j + 1))) M).2) hD
  have hP : va_P (dC, dI) vwCl (wL cI cL ad D ((mCount ((xs (5 * j + 1))) M).2) ol) _ := hP
  have hD : va_D (fun q => s.heap.size ≤ q) (wL cI cL ad D ((mCount ((xs (5 * j + 1))) M).2) ol) := hD
  refine lv_icmp_eq (tgt := 700) hx hb dL_law_695 (by decide) (fun c9 => ?_) (fun c9 => ?_)
  · refine W.widen (k := cells + 1) (n := slots + 6) (by omega) (by omega) ?_
    exact next _ _ _ _ _ ls ⟨φ, (r_count hR hk).2⟩ ⟨hP, hD, hS⟩ (lv_sub hl [0, 1, 2, 3, 4] rfl)
  · exact absurd (r_count hR hk).1 c9
set_option maxHeartbeats 4000000 in
set_option maxRecDepth 100000 in
theorem lc_define (p : Program) (l : Launch) (e : Env) (s : State) (m : MethodId) (below : List Frame) (meth : Method) (c : Code) (b L : Nat) (xs : Nat → Int32) (dC : Nat → ClassId) (dI : Nat → Nat → Nat) (cI cL : ClassId) (ad : Nat → Nat) (j cells slots : Nat) (Q : State → Prop) (D : DS) (M : MS) (ol : Nat → Int64) (H : Heap) (locs : List Loc) (ls : Array Slot) (φ : Nat → Nat) (hC : LC p l s m c b L xs dC dI cI cL) (hj : 5 * j + 5 ≤ L) (hcs : cells + 1 ≤ 1049 ∧ slots + 6 ≤ 44480) (hR : Rel j φ D M) (hI : LI s dC dI cI cL ad D M ol H locs) (hl : lv_has ls 7 (lvL b ad j)) (next : LN p l e s m below meth c b dC dI cI cL ad j cells slots Q) : W p l e room_1 s m #[Value.ref b] below meth c H locs cells slots Q (F0 m 293 ls []) := by
  obtain ⟨⟨hx, hb, hml, hown, hts⟩, ⟨hX, hbl, hL⟩, hK2, hE, hl0⟩ := hC
  obtain ⟨hP, hD, hS⟩ := hI
  have hK := hK2.sub (tys' := [(cI, .int)]) [0] rfl
  have hA : ∀ q : Nat, s.heap.size ≤ q → (fun q : Nat => s.heap.size ≤ q) q := fun _ h => h
  have hbA : ¬ (fun q : Nat => s.heap.size ≤ q) b := Nat.not_le.mpr hbl
  obtain ⟨hm, hsc, hog, hsg, hsp, hd, hst⟩ := rel_D hR
  obtain ⟨hco, hg, hgr, hof, hro, hdr, hv, hsh, hfr⟩ := rel_M hR
  have hk : j < 512 := by omega
  have hf0 : cells ≤ room_1.cells ∧ slots ≤ room_1.slots := ⟨by show cells ≤ 1049; omega, by show slots ≤ 44480; omega⟩
  have hf1 : cells + 1 ≤ room_1.cells ∧ slots + 6 ≤ room_1.slots := hcs
  refine lv_aload_n hx hb dL_law_293 rfl (lv_at hl 1 rfl) ?_
  refine lv_aload_n hx hb dL_law_294 rfl (lv_at hl 0 rfl) ?_
  refine lv_iload hx hb dL_law_295 (lv_at hl 4 rfl) ?_
  refine lv_iconst (v := 1) hx hb dL_law_297 (by decide) ?_
  refine lv_iadd hx hb dL_law_298 ?_
  refine mv_top (v := nI (5 * j + 1)) (nI_add (5 * j) 1) ?_
  refine mv_sld hx hb hX hbl hbA hS (k := 5 * j + 1) rfl (by omega) hL dL_law_299 ?_
  refine lv_aload_n hx hb dL_law_300 rfl (lv_at hl 0 rfl) ?_
  refine lv_iload hx hb dL_law_301 (lv_at hl 4 rfl) ?_
  refine lv_iconst (v := 2) hx hb dL_law_303 (by decide) ?_
  refine lv_iadd hx hb dL_law_304 ?_
  refine mv_top (v := nI (5 * j + 2)) (nI_add (5 * j) 2) ?_
  refine mv_sld hx hb hX hbl hbA hS (k := 5 * j + 2) rfl (by omega) hL dL_law_305 ?_
  suffices key : W p l e room_1 s m #[Value.ref b] below meth c H locs cells slots Q (F0 m 314 ls [.int (gB (xs (5 * j + 2))), .int (xs (5 * j + 1)), .ref (ad 0)]) by
    refine lv_if_eq (tgt := 313) hx hb dL_law_306 (by decide) (fun c1 => ?_) (fun c1 => ?_)
    · refine lv_iconst (v := 0) hx hb dL_law_313 (by decide) ?_
      exact mv_top (gB_0 c1) key
    · refine lv_iconst (v := 1) hx hb dL_law_309 (by decide) ?_
      refine lv_goto (tgt := 314) hx hb dL_law_310 (by decide) ?_
      exact mv_top (gB_1 c1) key
  refine lv_aload_n hx hb dL_law_314 rfl (lv_at hl 3 rfl) ?_
  refine m_hS (As := [.ref (ad 0), .int (xs (5 * j + 1)), .int (gB (xs (5 * j + 2))), .ref (ad 13)]) (rest := []) ⟨hx, hb, hml, hown, hts⟩ (c_L_define l dC dI cI cL (ad 0) (ad 1) (ad 2) (ad 3) (ad 4) (ad 5) (ad 6) (ad 7) (ad 8) (ad 9) (ad 10) (ad 11) (ad 12) (ad 13) ol D ((xs (5 * j + 1))) ((gB (xs (5 * j + 2)))) hl0 hm hsc hog hsg hsp hd) (vx_cwSW (hh := [(0, 10, 13, 13)]) 4 hts gL_law_L_define rfl rfl rfl (by decide +kernel) ⟨Nat.le_of_ble_eq_true rfl, Nat.le_of_ble_eq_true rfl⟩) hP hK2 hE hD hS hA rfl hl.1 rfl (Nat.le_of_ble_eq_true rfl) dL_law_315 hf1 (fun r u H locs hw hP hD hS => ?_)
  rcases hw with hw | hw
  · obtain ⟨rfl, hpx, rfl⟩ := hw
    have hP : va_P (dC, dI) vwCl (wL cI cL ad D M ol) _ := hP
    have hD : va_D (fun q => s.heap.size ≤ q) (wL cI cL ad D M ol) := hD
    refine lv_istore (lv' := [(5, .int 1), (0, .ref b), (1, .ref (ad 0)), (2, .ref (ad 14)), (3, .ref (ad 13)), (4, .int (nI (5 * j)))]) hx hb dL_law_318 hl (by decide) rfl (fun ls hl => ?_)
    refine lv_aload_n hx hb dL_law_320 rfl (lv_at hl 3 rfl) ?_
    refine lv_aload_n hx hb dL_law_321 rfl (lv_at hl 1 rfl) ?_
    refine lv_iload hx hb dL_law_322 (lv_at hl 5 rfl) ?_
    refine lv_iconst (v := 1) hx hb dL_law_324 (by decide) ?_
    refine lv_iadd hx hb dL_law_325 ?_
    refine mv_top (v := nI (5 * j + 1)) (nI_add (5 * j) 1) ?_
    refine mv_sld hx hb hX hbl hbA hS (k := 5 * j + 1) rfl (by omega) hL dL_law_326 ?_
    refine lv_aload_n hx hb dL_law_327 rfl (lv_at hl 1 rfl) ?_
    refine lv_iload hx hb dL_law_328 (lv_at hl 5 rfl) ?_
    refine lv_iconst (v := 2) hx hb dL_law_330 (by decide) ?_
    refine lv_iadd hx hb dL_law_331 ?_
    refine mv_top (v := nI (5 * j + 2)) (nI_add (5 * j) 2) ?_
    refine mv_sld hx hb hX hbl hbA hS (k := 5 * j + 2) rfl (by omega) hL dL_law_332 ?_
    suffices key : W p l e room_1 s m #[Value.ref b] below meth c H locs (cells + 1) (slots + 6) Q (F0 m 341 ls [.int (gB (xs (5 * j + 2))), .int (xs (5 * j + 1)), .ref (ad 14)]) by
      refine lv_if_eq (tgt := 340) hx hb dL_law_333 (by decide) (fun c1 => ?_) (fun c1 => ?_)
      · refine lv_iconst (v := 0) hx hb dL_law_340 (by decide) ?_
        exact mv_top (gB_0 c1) key
      · refine lv_iconst (v := 1) hx hb dL_law_336 (by decide) ?_
        refine lv_goto (tgt := 341) hx hb dL_law_337 (by decide) ?_
        exact mv_top (gB_1 c1) key
    have hP := ma_swapP (a := wMs cI (ad 14) (ad 15) (ad 16) (ad 17) (ad 18) (ad 19) (ad 20) M) (b := wO (ad 13) cL ol ++ wD cI (ad 0) (ad 1) (ad 2) (ad 3) (ad 4) (ad 5) (ad 6) (ad 7) (ad 8) (ad 9) (ad 10) (ad 11) (ad 12) D) hP
    have hD := ma_swapD (a := wMs cI (ad 14) (ad 15) (ad 16) (ad 17) (ad 18) (ad 19) (ad 20) M) (b := wO (ad 13) cL ol ++ wD cI (ad 0) (ad 1) (ad 2) (ad 3) (ad 4) (ad 5) (ad 6) (ad 7) (ad 8) (ad 9) (ad 10) (ad 11) (ad 12) D) hD
    refine m_wVi (As := [.int (xs (5 * j + 1)), .int (gB (xs (5 * j + 2)))]) (rest := []) ⟨hx, hb, hml, hown, hts⟩ (c_X3_define l dC dI cI (ad 14) (ad 15) (ad 16) (ad 17) (ad 18) (ad 19) (ad 20) M.1 M.2.1 M.2.2.1 M.2.2.2.1 M.2.2.2.2.1 M.2.2.2.2.2.1 M.2.2.2.2.2.2.1 M.2.2.2.2.2.2.2.1 M.2.2.2.2.2.2.2.2.1 M.2.2.2.2.2.2.2.2.2.1 M.2.2.2.2.2.2.2.2.2.2 ((xs (5 * j + 1))) ((gB (xs (5 * j + 2)))) hco hg hgr hro.2) (cwV 2 hts gL_law_X3_define rfl rfl rfl (by decide +kernel) ⟨Nat.le_of_ble_eq_true rfl, Nat.le_of_ble_eq_true rfl⟩) hP hK hD hS hA 3 0 rfl rfl rfl hl.1 rfl (Nat.le_of_ble_eq_true rfl) dL_law_341 hf1 (fun r u H locs hw hP hD hS => ?_)
    obtain ⟨rfl, rfl⟩ := hw
    have hP := ma_swapP (a := wO (ad 13) cL ol ++ wD cI (ad 0) (ad 1) (ad 2) (ad 3) (ad 4) (ad 5) (ad 6) (ad 7) (ad 8) (ad 9) (ad 10) (ad 11) (ad 12) D) (b := wMs cI (ad 14) (ad 15) (ad 16) (ad 17) (ad 18) (ad 19) (ad 20) (mDefine ((xs (5 * j + 1))) ((gB (xs (5 * j + 2)))) M).2) hP
    have hD := ma_swapD (a := wO (ad 13) cL ol ++ wD cI (ad 0) (ad 1) (ad 2) (ad 3) (ad 4) (ad 5) (ad 6) (ad 7) (ad 8) (ad 9) (ad 10) (ad 11) (ad 12) D) (b := wMs cI (ad 14) (ad 15) (ad 16) (ad 17) (ad 18) (ad 19) (ad 20) (mDefine ((xs (5 * j + 1))) ((gB (xs (5 * j + 2)))) M).2) hD
    have hP : va_P (dC, dI) vwCl (wL cI cL ad D ((mDefine ((xs (5 * j + 1))) ((gB (xs (5 * j + 2)))) M).2) ol) _ := hP
    have hD : va_D (fun q => s.heap.size ≤ q) (wL cI cL ad D ((mDefine ((xs (5 * j + 1))) ((gB (xs (5 * j + 2)))) M).2) ol) := hD
    refine lv_istore (lv' := [(6, .int (mDefine ((xs (5 * j + 1))) ((gB (xs (5 * j + 2)))) M).1), (5, .int 1), (0, .ref b), (1, .ref (ad 0)), (2, .ref (ad 14)), (3, .ref (ad 13)), (4, .int (nI (5 * j)))]) hx hb dL_law_344 hl (by decide) rfl (fun ls hl => ?_)
    refine lv_aload_n hx hb dL_law_346 rfl (lv_at hl 4 rfl) ?_
    refine m_rV (As := []) (rest := []) ⟨hx, hb, hml, hown, hts⟩ (c_X3_thrown l dC dI cI (ad 14) (ad 15) (ad 16) (ad 17) (ad 18) (ad 19) (ad 20) (mDefine ((xs (5 * j + 1))) ((gB (xs (5 * j + 2)))) M).2.1 (mDefine ((xs (5 * j + 1))) ((gB (xs (5 * j + 2)))) M).2.2.1 (mDefine ((xs (5 * j + 1))) ((gB (xs (5 * j + 2)))) M).2.2.2.1 (mDefine ((xs (5 * j + 1))) ((gB (xs (5 * j + 2)))) M).2.2.2.2.1 (mDefine ((xs (5 * j + 1))) ((gB (xs (5 * j + 2)))) M).2.2.2.2.2.1 (mDefine ((xs (5 * j + 1))) ((gB (xs (5 * j + 2)))) M).2.2.2.2.2.2.1 (mDefine ((xs (5 * j + 1))) ((gB (xs (5 * j + 2)))) M).2.2.2.2.2.2.2.1 (mDefine ((xs (5 * j + 1))) ((gB (xs (5 * j + 2)))) M).2.2.2.2.2.2.2.2.1 (mDefine ((xs (5 * j + 1))) ((gB (xs (5 * j + 2)))) M).2.2.2.2.2.2.2.2.2.1 (mDefine ((xs (5 * j + 1))) ((gB (xs (5 * j + 2)))) M).2.2.2.2.2.2.2.2.2.2.1 (mDefine ((xs (5 * j + 1))) ((gB (xs (5 * j + 2)))) M).2.2.2.2.2.2.2.2.2.2.2) (cwV 0 hts gL_law_X3_thrown rfl rfl rfl (by decide +kernel) ⟨Nat.le_of_ble_eq_true rfl, Nat.le_of_ble_eq_true rfl⟩) (ma_Pl hP) hK 3 0 rfl rfl rfl hl.1 rfl (Nat.le_of_ble_eq_true rfl) dL_law_347 hf1 (fun r hw => ?_)
    subst hw
    refine lv_iload hx hb dL_law_350 (lv_at hl 1 rfl) ?_
    refine lv_icmp_eq (tgt := 357) hx hb dL_law_352 (by decide) (fun c9 => ?_) (fun c9 => absurd (r_defineX hR hk hpx).1 c9)
    refine lv_iload hx hb dL_law_357 (lv_at hl 1 rfl) ?_
    refine lv_if_ne (tgt := 374) hx hb dL_law_359 (by decide) (fun c10 => ?_) (fun c10 => absurd c10 (by decide))
    refine lv_goto (tgt := 700) hx hb dL_law_374 (by decide) ?_
    exact next _ _ _ _ _ ls ⟨φ, (r_defineX hR hk hpx).2⟩ ⟨hP, hD, hS⟩ (lv_sub hl [2, 3, 4, 5, 6] rfl)
  · obtain ⟨ol1, D1⟩ := u
    obtain ⟨v, rfl, hpo, e1⟩ := hw
    dsimp only at hpo e1 hP hD
    obtain ⟨hj1, rfl, rfl⟩ := hpo
    subst e1
    have hP : va_P (dC, dI) vwCl (wL cI cL ad ((dDefine ((xs (5 * j + 1))) ((gB (xs (5 * j + 2)))) D).2) M (vp_updL ol 0 ((dDefine ((xs (5 * j + 1))) ((gB (xs (5 * j + 2)))) D).1).toInt64)) _ := hP
    have hD : va_D (fun q => s.heap.size ≤ q) (wL cI cL ad ((dDefine ((xs (5 * j + 1))) ((gB (xs (5 * j + 2)))) D).2) M (vp_updL ol 0 ((dDefine ((xs (5 * j + 1))) ((gB (xs (5 * j + 2)))) D).1).toInt64)) := hD
    refine lv_istore (lv' := [(5, .int 0), (0, .ref b), (1, .ref (ad 0)), (2, .ref (ad 14)), (3, .ref (ad 13)), (4, .int (nI (5 * j)))]) hx hb dL_law_318 hl (by decide) rfl (fun ls hl => ?_)
    refine lv_aload_n hx hb dL_law_320 rfl (lv_at hl 3 rfl) ?_
    refine lv_aload_n hx hb dL_law_321 rfl (lv_at hl 1 rfl) ?_
    refine lv_iload hx hb dL_law_322 (lv_at hl 5 rfl) ?_
    refine lv_iconst (v := 1) hx hb dL_law_324 (by decide) ?_
    refine lv_iadd hx hb dL_law_325 ?_
    refine mv_top (v := nI (5 * j + 1)) (nI_add (5 * j) 1) ?_
    refine mv_sld hx hb hX hbl hbA hS (k := 5 * j + 1) rfl (by omega) hL dL_law_326 ?_
    refine lv_aload_n hx hb dL_law_327 rfl (lv_at hl 1 rfl) ?_
    refine lv_iload hx hb dL_law_328 (lv_at hl 5 rfl) ?_
    refine lv_iconst (v := 2) hx hb dL_law_330 (by decide) ?_
    refine lv_iadd hx hb dL_law_331 ?_
    refine mv_top (v := nI (5 * j + 2)) (nI_add (5 * j) 2) ?_
    refine mv_sld hx hb hX hbl hbA hS (k := 5 * j + 2) rfl (by omega) hL dL_law_332 ?_
    suffices key : W p l e room_1 s m #[Value.ref b] below meth c H locs (cells + 1) (slots + 6) Q (F0 m 341 ls [.int (gB (xs (5 * j + 2))), .int (xs (5 * j + 1)), .ref (ad 14)]) by
      refine lv_if_eq (tgt := 340) hx hb dL_law_333 (by decide) (fun c1 => ?_) (fun c1 => ?_)
      · refine lv_iconst (v := 0) hx hb dL_law_340 (by decide) ?_
        exact mv_top (gB_0 c1) key
      · refine lv_iconst (v := 1) hx hb dL_law_336 (by decide) ?_
        refine lv_goto (tgt := 341) hx hb dL_law_337 (by decide) ?_
        exact mv_top (gB_1 c1) key
    have hP := ma_swapP (a := wMs cI (ad 14) (ad 15) (ad 16) (ad 17) (ad 18) (ad 19) (ad 20) M) (b := wO (ad 13) cL (vp_updL ol 0 ((dDefine ((xs (5 * j + 1))) ((gB (xs (5 * j + 2)))) D).1).toInt64) ++ wD cI (ad 0) (ad 1) (ad 2) (ad 3) (ad 4) (ad 5) (ad 6) (ad 7) (ad 8) (ad 9) (ad 10) (ad 11) (ad 12) ((dDefine ((xs (5 * j + 1))) ((gB (xs (5 * j + 2)))) D).2)) hP
    have hD := ma_swapD (a := wMs cI (ad 14) (ad 15) (ad 16) (ad 17) (ad 18) (ad 19) (ad 20) M) (b := wO (ad 13) cL (vp_updL ol 0 ((dDefine ((xs (5 * j + 1))) ((gB (xs (5 * j + 2)))) D).1).toInt64) ++ wD cI (ad 0) (ad 1) (ad 2) (ad 3) (ad 4) (ad 5) (ad 6) (ad 7) (ad 8) (ad 9) (ad 10) (ad 11) (ad 12) ((dDefine ((xs (5 * j + 1))) ((gB (xs (5 * j + 2)))) D).2)) hD
    refine m_wVi (As := [.int (xs (5 * j + 1)), .int (gB (xs (5 * j + 2)))]) (rest := []) ⟨hx, hb, hml, hown, hts⟩ (c_X3_define l dC dI cI (ad 14) (ad 15) (ad 16) (ad 17) (ad 18) (ad 19) (ad 20) M.1 M.2.1 M.2.2.1 M.2.2.2.1 M.2.2.2.2.1 M.2.2.2.2.2.1 M.2.2.2.2.2.2.1 M.2.2.2.2.2.2.2.1 M.2.2.2.2.2.2.2.2.1 M.2.2.2.2.2.2.2.2.2.1 M.2.2.2.2.2.2.2.2.2.2 ((xs (5 * j + 1))) ((gB (xs (5 * j + 2)))) hco hg hgr hro.2) (cwV 2 hts gL_law_X3_define rfl rfl rfl (by decide +kernel) ⟨Nat.le_of_ble_eq_true rfl, Nat.le_of_ble_eq_true rfl⟩) hP hK hD hS hA 3 0 rfl rfl rfl hl.1 rfl (Nat.le_of_ble_eq_true rfl) dL_law_341 hf1 (fun r u H locs hw hP hD hS => ?_)
    obtain ⟨rfl, rfl⟩ := hw
    have hP := ma_swapP (a := wO (ad 13) cL (vp_updL ol 0 ((dDefine ((xs (5 * j + 1))) ((gB (xs (5 * j + 2)))) D).1).toInt64) ++ wD cI (ad 0) (ad 1) (ad 2) (ad 3) (ad 4) (ad 5) (ad 6) (ad 7) (ad 8) (ad 9) (ad 10) (ad 11) (ad 12) ((dDefine ((xs (5 * j + 1))) ((gB (xs (5 * j + 2)))) D).2)) (b := wMs cI (ad 14) (ad 15) (ad 16) (ad 17) (ad 18) (ad 19) (ad 20) (mDefine ((xs (5 * j + 1))) ((gB (xs (5 * j + 2)))) M).2) hP
    have hD := ma_swapD (a := wO (ad 13) cL (vp_updL ol 0 ((dDefine ((xs (5 * j + 1))) ((gB (xs (5 * j + 2)))) D).1).toInt64) ++ wD cI (ad 0) (ad 1) (ad 2) (ad 3) (ad 4) (ad 5) (ad 6) (ad 7) (ad 8) (ad 9) (ad 10) (ad 11) (ad 12) ((dDefine ((xs (5 * j + 1))) ((gB (xs (5 * j + 2)))) D).2)) (b := wMs cI (ad 14) (ad 15) (ad 16) (ad 17) (ad 18) (ad 19) (ad 20) (mDefine ((xs (5 * j + 1))) ((gB (xs (5 * j + 2)))) M).2) hD
    have hP : va_P (dC, dI) vwCl (wL cI cL ad ((dDefine ((xs (5 * j + 1))) ((gB (xs (5 * j + 2)))) D).2) ((mDefine ((xs (5 * j + 1))) ((gB (xs (5 * j + 2)))) M).2) (vp_updL ol 0 ((dDefine ((xs (5 * j + 1))) ((gB (xs (5 * j + 2)))) D).1).toInt64)) _ := hP
    have hD : va_D (fun q => s.heap.size ≤ q) (wL cI cL ad ((dDefine ((xs (5 * j + 1))) ((gB (xs (5 * j + 2)))) D).2) ((mDefine ((xs (5 * j + 1))) ((gB (xs (5 * j + 2)))) M).2) (vp_updL ol 0 ((dDefine ((xs (5 * j + 1))) ((gB (xs (5 * j + 2)))) D).1).toInt64)) := hD
    refine lv_istore (lv' := [(6, .int (mDefine ((xs (5 * j + 1))) ((gB (xs (5 * j + 2)))) M).1), (5, .int 0), (0, .ref b), (1, .ref (ad 0)), (2, .ref (ad 14)), (3, .ref (ad 13)), (4, .int (nI (5 * j)))]) hx hb dL_law_344 hl (by decide) rfl (fun ls hl => ?_)
    refine lv_aload_n hx hb dL_law_346 rfl (lv_at hl 4 rfl) ?_
    refine m_rV (As := []) (rest := []) ⟨hx, hb, hml, hown, hts⟩ (c_X3_thrown l dC dI cI (ad 14) (ad 15) (ad 16) (ad 17) (ad 18) (ad 19) (ad 20) (mDefine ((xs (5 * j + 1))) ((gB (xs (5 * j + 2)))) M).2.1 (mDefine ((xs (5 * j + 1))) ((gB (xs (5 * j + 2)))) M).2.2.1 (mDefine ((xs (5 * j + 1))) ((gB (xs (5 * j + 2)))) M).2.2.2.1 (mDefine ((xs (5 * j + 1))) ((gB (xs (5 * j + 2)))) M).2.2.2.2.1 (mDefine ((xs (5 * j + 1))) ((gB (xs (5 * j + 2)))) M).2.2.2.2.2.1 (mDefine ((xs (5 * j + 1))) ((gB (xs (5 * j + 2)))) M).2.2.2.2.2.2.1 (mDefine ((xs (5 * j + 1))) ((gB (xs (5 * j + 2)))) M).2.2.2.2.2.2.2.1 (mDefine ((xs (5 * j + 1))) ((gB (xs (5 * j + 2)))) M).2.2.2.2.2.2.2.2.1 (mDefine ((xs (5 * j + 1))) ((gB (xs (5 * j + 2)))) M).2.2.2.2.2.2.2.2.2.1 (mDefine ((xs (5 * j + 1))) ((gB (xs (5 * j + 2)))) M).2.2.2.2.2.2.2.2.2.2.1 (mDefine ((xs (5 * j + 1))) ((gB (xs (5 * j + 2)))) M).2.2.2.2.2.2.2.2.2.2.2) (cwV 0 hts gL_law_X3_thrown rfl rfl rfl (by decide +kernel) ⟨Nat.le_of_ble_eq_true rfl, Nat.le_of_ble_eq_true rfl⟩) (ma_Pl hP) hK 3 0 rfl rfl rfl hl.1 rfl (Nat.le_of_ble_eq_true rfl) dL_law_347 hf1 (fun r hw => ?_)
    subst hw
    refine lv_iload hx hb dL_law_350 (lv_at hl 1 rfl) ?_
    refine lv_icmp_eq (tgt := 357) hx hb dL_law_352 (by decide) (fun c9 => ?_) (fun c9 => absurd (r_define hR hk hj1).2.1 c9)
    refine lv_iload hx hb dL_law_357 (lv_at hl 1 rfl) ?_
    refine lv_if_ne (tgt := 374) hx hb dL_law_359 (by decide) (fun c10 => absurd rfl c10) (fun c10 => ?_)
    refine lv_aload_n hx hb dL_law_362 rfl (lv_at hl 5 rfl) ?_
    refine lv_iconst (v := 0) hx hb dL_law_363 (by decide) ?_
    refine va_lald hx hb hK2 hP 7 1 rfl rfl (vp_in_nI (n := 0) (by decide) (by decide)) dL_law_364 ?_
    refine lv_iload hx hb dL_law_365 (lv_at hl 0 rfl) ?_
    refine lv_i2l (v := ((mDefine ((xs (5 * j + 1))) ((gB (xs (5 * j + 2)))) M).1).toInt64) hx hb dL_law_367 rfl ?_
    refine W.lcmp hx hb dL_law_368 ?_
    refine lv_if_eq (tgt := 374) hx hb dL_law_369 (by decide) (fun c11 => ?_) (fun c11 => absurd ?_ c11)
    rotate_left
    · show lg_cmp (vp_updL ol 0 ((dDefine ((xs (5 * j + 1))) ((gB (xs (5 * j + 2)))) D).1).toInt64 0) _ = 0
      rw [pk_uLs, (r_define hR hk hj1).1]
      exact lg_same _
    refine lv_goto (tgt := 700) hx hb dL_law_374 (by decide) ?_
    exact next _ _ _ _ _ ls (r_define hR hk hj1).2.2 ⟨hP, hD, hS⟩ (lv_sub hl [2, 3, 4, 5, 6] rfl)
set_option maxHeartbeats 4000000 in
set_option maxRecDepth 100000 in
theorem lc_get (p : Program) (l : Launch) (e : Env) (s : State) (m : MethodId) (below : List Frame) (meth : Method) (c : Code) (b L : Nat) (xs : Nat → Int32) (dC : Nat → ClassId) (dI : Nat → Nat → Nat) (cI cL : ClassId) (ad : Nat → Nat) (j cells slots : Nat) (Q : State → Prop) (D : DS) (M : MS) (ol : Nat → Int64) (H : Heap) (locs : List Loc) (ls : Array Slot) (φ : Nat → Nat) (hC : LC p l s m c b L xs dC dI cI cL) (hj : 5 * j + 5 ≤ L) (hcs : cells + 1 ≤ 1049 ∧ slots + 6 ≤ 44480) (hR : Rel j φ D M) (hI : LI s dC dI cI cL ad D M ol H locs) (hl : lv_has ls 7 (lvL b ad j)) (next : LN p l e s m below meth c b dC dI cI cL ad j cells slots Q) : W p l e room_1 s m #[Value.ref b] below meth c H locs cells slots Q (F0 m 483 ls []) := by
  obtain ⟨⟨hx, hb, hml, hown, hts⟩, ⟨hX, hbl, hL⟩, hK2, hE, hl0⟩ := hC
  obtain ⟨hP, hD, hS⟩ := hI
  have hK := hK2.sub (tys' := [(cI, .int)]) [0] rfl
  have hA : ∀ q : Nat, s.heap.size ≤ q → (fun q : Nat => s.heap.size ≤ q) q := fun _ h => h
  have hbA : ¬ (fun q : Nat => s.heap.size ≤ q) b := Nat.not_le.mpr hbl
  obtain ⟨hm, hsc, hog, hsg, hsp, hd, hst⟩ := rel_D hR
  obtain ⟨hco, hg, hgr, hof, hro, hdr, hv, hsh, hfr⟩ := rel_M hR
  have hk : j < 512 := by omega
  have hf0 : cells ≤ room_1.cells ∧ slots ≤ room_1.slots := ⟨by show cells ≤ 1049; omega, by show slots ≤ 44480; omega⟩
  have hf1 : cells + 1 ≤ room_1.cells ∧ slots + 6 ≤ room_1.slots := hcs
  refine lv_aload_n hx hb dL_law_483 rfl (lv_at hl 1 rfl) ?_
  refine lv_aload_n hx hb dL_law_484 rfl (lv_at hl 0 rfl) ?_
  refine lv_iload hx hb dL_law_485 (lv_at hl 4 rfl) ?_
  refine lv_iconst (v := 1) hx hb dL_law_487 (by decide) ?_
  refine lv_iadd hx hb dL_law_488 ?_
  refine mv_top (v := nI (5 * j + 1)) (nI_add (5 * j) 1) ?_
  refine mv_sld hx hb hX hbl hbA hS (k := 5 * j + 1) rfl (by omega) hL dL_law_489 ?_
  refine lv_aload_n hx hb dL_law_490 rfl (lv_at hl 3 rfl) ?_
  refine m_hS (As := [.ref (ad 0), .int (xs (5 * j + 1)), .ref (ad 13)]) (rest := []) ⟨hx, hb, hml, hown, hts⟩ (c_L_get l dC dI cI cL (ad 0) (ad 1) (ad 2) (ad 3) (ad 4) (ad 5) (ad 6) (ad 7) (ad 8) (ad 9) (ad 10) (ad 11) (ad 12) (ad 13) ol D ((xs (5 * j + 1))) hl0) (vx_cwSW (hh := [(0, 9, 12, 13)]) 3 hts gL_law_L_get rfl rfl rfl (by decide +kernel) ⟨Nat.le_of_ble_eq_true rfl, Nat.le_of_ble_eq_true rfl⟩) hP hK2 hE hD hS hA rfl hl.1 rfl (Nat.le_of_ble_eq_true rfl) dL_law_491 hf1 (fun r u H locs hw hP hD hS => ?_)
  rcases hw with hw | hw
  · obtain ⟨rfl, hpx, rfl⟩ := hw
    have hP : va_P (dC, dI) vwCl (wL cI cL ad D M ol) _ := hP
    have hD : va_D (fun q => s.heap.size ≤ q) (wL cI cL ad D M ol) := hD
    refine lv_istore (lv' := [(5, .int 1), (0, .ref b), (1, .ref (ad 0)), (2, .ref (ad 14)), (3, .ref (ad 13)), (4, .int (nI (5 * j)))]) hx hb dL_law_494 hl (by decide) rfl (fun ls hl => ?_)
    refine lv_aload_n hx hb dL_law_496 rfl (lv_at hl 3 rfl) ?_
    refine lv_aload_n hx hb dL_law_497 rfl (lv_at hl 1 rfl) ?_
    refine lv_iload hx hb dL_law_498 (lv_at hl 5 rfl) ?_
    refine lv_iconst (v := 1) hx hb dL_law_500 (by decide) ?_
    refine lv_iadd hx hb dL_law_501 ?_
    refine mv_top (v := nI (5 * j + 1)) (nI_add (5 * j) 1) ?_
    refine mv_sld hx hb hX hbl hbA hS (k := 5 * j + 1) rfl (by omega) hL dL_law_502 ?_
    have hP := ma_swapP (a := wMs cI (ad 14) (ad 15) (ad 16) (ad 17) (ad 18) (ad 19) (ad 20) M) (b := wO (ad 13) cL ol ++ wD cI (ad 0) (ad 1) (ad 2) (ad 3) (ad 4) (ad 5) (ad 6) (ad 7) (ad 8) (ad 9) (ad 10) (ad 11) (ad 12) D) hP
    have hD := ma_swapD (a := wMs cI (ad 14) (ad 15) (ad 16) (ad 17) (ad 18) (ad 19) (ad 20) M) (b := wO (ad 13) cL ol ++ wD cI (ad 0) (ad 1) (ad 2) (ad 3) (ad 4) (ad 5) (ad 6) (ad 7) (ad 8) (ad 9) (ad 10) (ad 11) (ad 12) D) hD
    refine m_wVi (As := [.int (xs (5 * j + 1))]) (rest := []) ⟨hx, hb, hml, hown, hts⟩ (c_X3_get l dC dI cI (ad 14) (ad 15) (ad 16) (ad 17) (ad 18) (ad 19) (ad 20) M.1 M.2.1 M.2.2.1 M.2.2.2.1 M.2.2.2.2.1 M.2.2.2.2.2.1 M.2.2.2.2.2.2.1 M.2.2.2.2.2.2.2.1 M.2.2.2.2.2.2.2.2.1 M.2.2.2.2.2.2.2.2.2.1 M.2.2.2.2.2.2.2.2.2.2 ((xs (5 * j + 1))) hco hof) (cwV 1 hts gL_law_X3_get rfl rfl rfl (by decide +kernel) ⟨Nat.le_of_ble_eq_true rfl, Nat.le_of_ble_eq_true rfl⟩) hP hK hD hS hA 3 0 rfl rfl rfl hl.1 rfl (Nat.le_of_ble_eq_true rfl) dL_law_503 hf1 (fun r u H locs hw hP hD hS => ?_)
    obtain ⟨rfl, rfl⟩ := hw
    have hP := ma_swapP (a := wO (ad 13) cL ol ++ wD cI (ad 0) (ad 1) (ad 2) (ad 3) (ad 4) (ad 5) (ad 6) (ad 7) (ad 8) (ad 9) (ad 10) (ad 11) (ad 12) D) (b := wMs cI (ad 14) (ad 15) (ad 16) (ad 17) (ad 18) (ad 19) (ad 20) (mGet ((xs (5 * j + 1))) M).2) hP
    have hD := ma_swapD (a := wO (ad 13) cL ol ++ wD cI (ad 0) (ad 1) (ad 2) (ad 3) (ad 4) (ad 5) (ad 6) (ad 7) (ad 8) (ad 9) (ad 10) (ad 11) (ad 12) D) (b := wMs cI (ad 14) (ad 15) (ad 16) (ad 17) (ad 18) (ad 19) (ad 20) (mGet ((xs (5 * j + 1))) M).2) hD
    have hP : va_P (dC, dI) vwCl (wL cI cL ad D ((mGet ((xs (5 * j + 1))) M).2) ol) _ := hP
    have hD : va_D (fun q => s.heap.size ≤ q) (wL cI cL ad D ((mGet ((xs (5 * j + 1))) M).2) ol) := hD
    refine lv_istore (lv' := [(6, .int (mGet ((xs (5 * j + 1))) M).1), (5, .int 1), (0, .ref b), (1, .ref (ad 0)), (2, .ref (ad 14)), (3, .ref (ad 13)), (4, .int (nI (5 * j)))]) hx hb dL_law_506 hl (by decide) rfl (fun ls hl => ?_)
    refine lv_aload_n hx hb dL_law_508 rfl (lv_at hl 4 rfl) ?_
    refine m_rV (As := []) (rest := []) ⟨hx, hb, hml, hown, hts⟩ (c_X3_thrown l dC dI cI (ad 14) (ad 15) (ad 16) (ad 17) (ad 18) (ad 19) (ad 20) (mGet ((xs (5 * j + 1))) M).2.1 (mGet ((xs (5 * j + 1))) M).2.2.1 (mGet ((xs (5 * j + 1))) M).2.2.2.1 (mGet ((xs (5 * j + 1))) M).2.2.2.2.1 (mGet ((xs (5 * j + 1))) M).2.2.2.2.2.1 (mGet ((xs (5 * j + 1))) M).2.2.2.2.2.2.1 (mGet ((xs (5 * j + 1))) M).2.2.2.2.2.2.2.1 (mGet ((xs (5 * j + 1))) M).2.2.2.2.2.2.2.2.1 (mGet ((xs (5 * j + 1))) M).2.2.2.2.2.2.2.2.2.1 (mGet ((xs (5 * j + 1))) M).2.2.2.2.2.2.2.2.2.2.1 (mGet ((xs (5 * j + 1))) M).2.2.2.2.2.2.2.2.2.2.2) (cwV 0 hts gL_law_X3_thrown rfl rfl rfl (by decide +kernel) ⟨Nat.le_of_ble_eq_true rfl, Nat.le_of_ble_eq_true rfl⟩) (ma_Pl hP) hK 3 0 rfl rfl rfl hl.1 rfl (Nat.le_of_ble_eq_true rfl) dL_law_509 hf1 (fun r hw => ?_)
    subst hw
    refine lv_iload hx hb dL_law_512 (lv_at hl 1 rfl) ?_
    refine lv_icmp_eq (tgt := 519) hx hb dL_law_514 (by decide) (fun c9 => ?_) (fun c9 => absurd (r_getX hR hk hpx).1 c9)
    refine lv_iload hx hb dL_law_519 (lv_at hl 1 rfl) ?_
    refine lv_if_ne (tgt := 536) hx hb dL_law_521 (by decide) (fun c10 => ?_) (fun c10 => absurd c10 (by decide))
    refine lv_goto (tgt := 700) hx hb dL_law_536 (by decide) ?_
    exact next _ _ _ _ _ ls ⟨φ, (r_getX hR hk hpx).2⟩ ⟨hP, hD, hS⟩ (lv_sub hl [2, 3, 4, 5, 6] rfl)
  · obtain ⟨ol1, D1⟩ := u
    obtain ⟨v, rfl, hpo, e1⟩ := hw
    dsimp only at hpo e1 hP hD
    obtain ⟨hj1, rfl⟩ := hpo
    subst e1
    have hP : va_P (dC, dI) vwCl (wL cI cL ad D M (vp_updL ol 0 (dGet ((xs (5 * j + 1))) D).toInt64)) _ := hP
    have hD : va_D (fun q => s.heap.size ≤ q) (wL cI cL ad D M (vp_updL ol 0 (dGet ((xs (5 * j + 1))) D).toInt64)) := hD
    refine lv_istore (lv' := [(5, .int 0), (0, .ref b), (1, .ref (ad 0)), (2, .ref (ad 14)), (3, .ref (ad 13)), (4, .int (nI (5 * j)))]) hx hb dL_law_494 hl (by decide) rfl (fun ls hl => ?_)
    refine lv_aload_n hx hb dL_law_496 rfl (lv_at hl 3 rfl) ?_
    refine lv_aload_n hx hb dL_law_497 rfl (lv_at hl 1 rfl) ?_
    refine lv_iload hx hb dL_law_498 (lv_at hl 5 rfl) ?_
    refine lv_iconst (v := 1) hx hb dL_law_500 (by decide) ?_
    refine lv_iadd hx hb dL_law_501 ?_
    refine mv_top (v := nI (5 * j + 1)) (nI_add (5 * j) 1) ?_
    refine mv_sld hx hb hX hbl hbA hS (k := 5 * j + 1) rfl (by omega) hL dL_law_502 ?_
    have hP := ma_swapP (a := wMs cI (ad 14) (ad 15) (ad 16) (ad 17) (ad 18) (ad 19) (ad 20) M) (b := wO (ad 13) cL (vp_updL ol 0 (dGet ((xs (5 * j + 1))) D).toInt64) ++ wD cI (ad 0) (ad 1) (ad 2) (ad 3) (ad 4) (ad 5) (ad 6) (ad 7) (ad 8) (ad 9) (ad 10) (ad 11) (ad 12) D) hP
    have hD := ma_swapD (a := wMs cI (ad 14) (ad 15) (ad 16) (ad 17) (ad 18) (ad 19) (ad 20) M) (b := wO (ad 13) cL (vp_updL ol 0 (dGet ((xs (5 * j + 1))) D).toInt64) ++ wD cI (ad 0) (ad 1) (ad 2) (ad 3) (ad 4) (ad 5) (ad 6) (ad 7) (ad 8) (ad 9) (ad 10) (ad 11) (ad 12) D) hD
    refine m_wVi (As := [.int (xs (5 * j + 1))]) (rest := []) ⟨hx, hb, hml, hown, hts⟩ (c_X3_get l dC dI cI (ad 14) (ad 15) (ad 16) (ad 17) (ad 18) (ad 19) (ad 20) M.1 M.2.1 M.2.2.1 M.2.2.2.1 M.2.2.2.2.1 M.2.2.2.2.2.1 M.2.2.2.2.2.2.1 M.2.2.2.2.2.2.2.1 M.2.2.2.2.2.2.2.2.1 M.2.2.2.2.2.2.2.2.2.1 M.2.2.2.2.2.2.2.2.2.2 ((xs (5 * j + 1))) hco hof) (cwV 1 hts gL_law_X3_get rfl rfl rfl (by decide +kernel) ⟨Nat.le_of_ble_eq_true rfl, Nat.le_of_ble_eq_true rfl⟩) hP hK hD hS hA 3 0 rfl rfl rfl hl.1 rfl (Nat.le_of_ble_eq_true rfl) dL_law_503 hf1 (fun r u H locs hw hP hD hS => ?_)
    obtain ⟨rfl, rfl⟩ := hw
    have hP := ma_swapP (a := wO (ad 13) cL (vp_updL ol 0 (dGet ((xs (5 * j + 1))) D).toInt64) ++ wD cI (ad 0) (ad 1) (ad 2) (ad 3) (ad 4) (ad 5) (ad 6) (ad 7) (ad 8) (ad 9) (ad 10) (ad 11) (ad 12) D) (b := wMs cI (ad 14) (ad 15) (ad 16) (ad 17) (ad 18) (ad 19) (ad 20) (mGet ((xs (5 * j + 1))) M).2) hP
    have hD := ma_swapD (a := wO (ad 13) cL (vp_updL ol 0 (dGet ((xs (5 * j + 1))) D).toInt64) ++ wD cI (ad 0) (ad 1) (ad 2) (ad 3) (ad 4) (ad 5) (ad 6) (ad 7) (ad 8) (ad 9) (ad 10) (ad 11) (ad 12) D) (b := wMs cI (ad 14) (ad 15) (ad 16) (ad 17) (ad 18) (ad 19) (ad 20) (mGet ((xs (5 * j + 1))) M).2) hD
    have hP : va_P (dC, dI) vwCl (wL cI cL ad D ((mGet ((xs (5 * j + 1))) M).2) (vp_updL ol 0 (dGet ((xs (5 * j + 1))) D).toInt64)) _ := hP
    have hD : va_D (fun q => s.heap.size ≤ q) (wL cI cL ad D ((mGet ((xs (5 * j + 1))) M).2) (vp_updL ol 0 (dGet ((xs (5 * j + 1))) D).toInt64)) := hD
    refine lv_istore (lv' := [(6, .int (mGet ((xs (5 * j + 1))) M).1), (5, .int 0), (0, .ref b), (1, .ref (ad 0)), (2, .ref (ad 14)), (3, .ref (ad 13)), (4, .int (nI (5 * j)))]) hx hb dL_law_506 hl (by decide) rfl (fun ls hl => ?_)
    refine lv_aload_n hx hb dL_law_508 rfl (lv_at hl 4 rfl) ?_
    refine m_rV (As := []) (rest := []) ⟨hx, hb, hml, hown, hts⟩ (c_X3_thrown l dC dI cI (ad 14) (ad 15) (ad 16) (ad 17) (ad 18) (ad 19) (ad 20) (mGet ((xs (5 * j + 1))) M).2.1 (mGet ((xs (5 * j + 1))) M).2.2.1 (mGet ((xs (5 * j + 1))) M).2.2.2.1 (mGet ((xs (5 * j + 1))) M).2.2.2.2.1 (mGet ((xs (5 * j + 1))) M).2.2.2.2.2.1 (mGet ((xs (5 * j + 1))) M).2.2.2.2.2.2.1 (mGet ((xs (5 * j + 1))) M).2.2.2.2.2.2.2.1 (mGet ((xs (5 * j + 1))) M).2.2.2.2.2.2.2.2.1 (mGet ((xs (5 * j + 1))) M).2.2.2.2.2.2.2.2.2.1 (mGet ((xs (5 * j + 1))) M).2.2.2.2.2.2.2.2.2.2.1 (mGet ((xs (5 * j + 1))) M).2.2.2.2.2.2.2.2.2.2.2) (cwV 0 hts gL_law_X3_thrown rfl rfl rfl (by decide +kernel) ⟨Nat.le_of_ble_eq_true rfl, Nat.le_of_ble_eq_true rfl⟩) (ma_Pl hP) hK 3 0 rfl rfl rfl hl.1 rfl (Nat.le_of_ble_eq_true rfl) dL_law_509 hf1 (fun r hw => ?_)
    subst hw
    refine lv_iload hx hb dL_law_512 (lv_at hl 1 rfl) ?_
    refine lv_icmp_eq (tgt := 519) hx hb dL_law_514 (by decide) (fun c9 => ?_) (fun c9 => absurd (r_get hR hk hj1).2.1 c9)
    refine lv_iload hx hb dL_law_519 (lv_at hl 1 rfl) ?_
    refine lv_if_ne (tgt := 536) hx hb dL_law_521 (by decide) (fun c10 => absurd rfl c10) (fun c10 => ?_)
    refine lv_aload_n hx hb dL_law_524 rfl (lv_at hl 5 rfl) ?_
    refine lv_iconst (v := 0) hx hb dL_law_525 (by decide) ?_
    refine va_lald hx hb hK2 hP 7 1 rfl rfl (vp_in_nI (n := 0) (by decide) (by decide)) dL_law_526 ?_
    refine lv_iload hx hb dL_law_527 (lv_at hl 0 rfl) ?_
    refine lv_i2l (v := ((mGet ((xs (5 * j + 1))) M).1).toInt64) hx hb dL_law_529 rfl ?_
    refine W.lcmp hx hb dL_law_530 ?_
    refine lv_if_eq (tgt := 536) hx hb dL_law_531 (by decide) (fun c11 => ?_) (fun c11 => absurd ?_ c11)
    rotate_left
    · show lg_cmp (vp_updL ol 0 (dGet ((xs (5 * j + 1))) D).toInt64 0) _ = 0
      rw [pk_uLs, (r_get hR hk hj1).1]
      exact lg_same _
    refine lv_goto (tgt := 700) hx hb dL_law_536 (by decide) ?_
    exact next _ _ _ _ _ ls ⟨φ, (r_get hR hk hj1).2.2⟩ ⟨hP, hD, hS⟩ (lv_sub hl [2, 3, 4, 5, 6] rfl)
set_option maxHeartbeats 4000000 in
set_option maxRecDepth 100000 in
theorem lc_about (p : Program) (l : Launch) (e : Env) (s : State) (m : MethodId) (below : List Frame) (meth : Method) (c : Code) (b L : Nat) (xs : Nat → Int32) (dC : Nat → ClassId) (dI : Nat → Nat → Nat) (cI cL : ClassId) (ad : Nat → Nat) (j cells slots : Nat) (Q : State → Prop) (D : DS) (M : MS) (ol : Nat → Int64) (H : Heap) (locs : List Loc) (ls : Array Slot) (φ : Nat → Nat) (hC : LC p l s m c b L xs dC dI cI cL) (hj : 5 * j + 5 ≤ L) (hcs : cells + 1 ≤ 1049 ∧ slots + 6 ≤ 44480) (hR : Rel j φ D M) (hI : LI s dC dI cI cL ad D M ol H locs) (hl : lv_has ls 7 (lvL b ad j)) (next : LN p l e s m below meth c b dC dI cI cL ad j cells slots Q) : W p l e room_1 s m #[Value.ref b] below meth c H locs cells slots Q (F0 m 539 ls []) := by
  obtain ⟨⟨hx, hb, hml, hown, hts⟩, ⟨hX, hbl, hL⟩, hK2, hE, hl0⟩ := hC
  obtain ⟨hP, hD, hS⟩ := hI
  have hK := hK2.sub (tys' := [(cI, .int)]) [0] rfl
  have hA : ∀ q : Nat, s.heap.size ≤ q → (fun q : Nat => s.heap.size ≤ q) q := fun _ h => h
  have hbA : ¬ (fun q : Nat => s.heap.size ≤ q) b := Nat.not_le.mpr hbl
  obtain ⟨hm, hsc, hog, hsg, hsp, hd, hst⟩ := rel_D hR
  obtain ⟨hco, hg, hgr, hof, hro, hdr, hv, hsh, hfr⟩ := rel_M hR
  have hk : j < 512 := by omega
  have hf0 : cells ≤ room_1.cells ∧ slots ≤ room_1.slots := ⟨by show cells ≤ 1049; omega, by show slots ≤ 44480; omega⟩
  have hf1 : cells + 1 ≤ room_1.cells ∧ slots + 6 ≤ room_1.slots := hcs
  refine lv_aload_n hx hb dL_law_539 rfl (lv_at hl 1 rfl) ?_
  refine lv_aload_n hx hb dL_law_540 rfl (lv_at hl 0 rfl) ?_
  refine lv_iload hx hb dL_law_541 (lv_at hl 4 rfl) ?_
  refine lv_iconst (v := 1) hx hb dL_law_543 (by decide) ?_
  refine lv_iadd hx hb dL_law_544 ?_
  refine mv_top (v := nI (5 * j + 1)) (nI_add (5 * j) 1) ?_
  refine mv_sld hx hb hX hbl hbA hS (k := 5 * j + 1) rfl (by omega) hL dL_law_545 ?_
  refine lv_aload_n hx hb dL_law_546 rfl (lv_at hl 0 rfl) ?_
  refine lv_iload hx hb dL_law_547 (lv_at hl 4 rfl) ?_
  refine lv_iconst (v := 2) hx hb dL_law_549 (by decide) ?_
  refine lv_iadd hx hb dL_law_550 ?_
  refine mv_top (v := nI (5 * j + 2)) (nI_add (5 * j) 2) ?_
  refine mv_sld hx hb hX hbl hbA hS (k := 5 * j + 2) rfl (by omega) hL dL_law_551 ?_
  refine lv_aload_n hx hb dL_law_552 rfl (lv_at hl 3 rfl) ?_
  refine m_hS (As := [.ref (ad 0), .int (xs (5 * j + 1)), .int (xs (5 * j + 2)), .ref (ad 13)]) (rest := []) ⟨hx, hb, hml, hown, hts⟩ (c_L_about l dC dI cI cL (ad 0) (ad 1) (ad 2) (ad 3) (ad 4) (ad 5) (ad 6) (ad 7) (ad 8) (ad 9) (ad 10) (ad 11) (ad 12) (ad 13) ol D ((xs (5 * j + 1))) ((xs (5 * j + 2))) hl0 hm) (vx_cwSW (hh := [(0, 10, 13, 13)]) 4 hts gL_law_L_about rfl rfl rfl (by decide +kernel) ⟨Nat.le_of_ble_eq_true rfl, Nat.le_of_ble_eq_true rfl⟩) hP hK2 hE hD hS hA rfl hl.1 rfl (Nat.le_of_ble_eq_true rfl) dL_law_553 hf1 (fun r u H locs hw hP hD hS => ?_)
  rcases hw with hw | hw
  · obtain ⟨rfl, hpx, rfl⟩ := hw
    have hP : va_P (dC, dI) vwCl (wL cI cL ad D M ol) _ := hP
    have hD : va_D (fun q => s.heap.size ≤ q) (wL cI cL ad D M ol) := hD
    refine lv_istore (lv' := [(5, .int 1), (0, .ref b), (1, .ref (ad 0)), (2, .ref (ad 14)), (3, .ref (ad 13)), (4, .int (nI (5 * j)))]) hx hb dL_law_556 hl (by decide) rfl (fun ls hl => ?_)
    refine lv_aload_n hx hb dL_law_558 rfl (lv_at hl 3 rfl) ?_
    refine lv_aload_n hx hb dL_law_559 rfl (lv_at hl 1 rfl) ?_
    refine lv_iload hx hb dL_law_560 (lv_at hl 5 rfl) ?_
    refine lv_iconst (v := 1) hx hb dL_law_562 (by decide) ?_
    refine lv_iadd hx hb dL_law_563 ?_
    refine mv_top (v := nI (5 * j + 1)) (nI_add (5 * j) 1) ?_
    refine mv_sld hx hb hX hbl hbA hS (k := 5 * j + 1) rfl (by omega) hL dL_law_564 ?_
    refine lv_aload_n hx hb dL_law_565 rfl (lv_at hl 1 rfl) ?_
    refine lv_iload hx hb dL_law_566 (lv_at hl 5 rfl) ?_
    refine lv_iconst (v := 2) hx hb dL_law_568 (by decide) ?_
    refine lv_iadd hx hb dL_law_569 ?_
    refine mv_top (v := nI (5 * j + 2)) (nI_add (5 * j) 2) ?_
    refine mv_sld hx hb hX hbl hbA hS (k := 5 * j + 2) rfl (by omega) hL dL_law_570 ?_
    have hP := ma_swapP (a := wMs cI (ad 14) (ad 15) (ad 16) (ad 17) (ad 18) (ad 19) (ad 20) M) (b := wO (ad 13) cL ol ++ wD cI (ad 0) (ad 1) (ad 2) (ad 3) (ad 4) (ad 5) (ad 6) (ad 7) (ad 8) (ad 9) (ad 10) (ad 11) (ad 12) D) hP
    have hD := ma_swapD (a := wMs cI (ad 14) (ad 15) (ad 16) (ad 17) (ad 18) (ad 19) (ad 20) M) (b := wO (ad 13) cL ol ++ wD cI (ad 0) (ad 1) (ad 2) (ad 3) (ad 4) (ad 5) (ad 6) (ad 7) (ad 8) (ad 9) (ad 10) (ad 11) (ad 12) D) hD
    refine m_wVi (As := [.int (xs (5 * j + 1)), .int (xs (5 * j + 2))]) (rest := []) ⟨hx, hb, hml, hown, hts⟩ (c_X3_about l dC dI cI (ad 14) (ad 15) (ad 16) (ad 17) (ad 18) (ad 19) (ad 20) M.1 M.2.1 M.2.2.1 M.2.2.2.1 M.2.2.2.2.1 M.2.2.2.2.2.1 M.2.2.2.2.2.2.1 M.2.2.2.2.2.2.2.1 M.2.2.2.2.2.2.2.2.1 M.2.2.2.2.2.2.2.2.2.1 M.2.2.2.2.2.2.2.2.2.2 ((xs (5 * j + 1))) ((xs (5 * j + 2))) hco hro.2 hof hv) (cwV 2 hts gL_law_X3_about rfl rfl rfl (by decide +kernel) ⟨Nat.le_of_ble_eq_true rfl, Nat.le_of_ble_eq_true rfl⟩) hP hK hD hS hA 3 0 rfl rfl rfl hl.1 rfl (Nat.le_of_ble_eq_true rfl) dL_law_571 hf1 (fun r u H locs hw hP hD hS => ?_)
    obtain ⟨rfl, rfl⟩ := hw
    have hP := ma_swapP (a := wO (ad 13) cL ol ++ wD cI (ad 0) (ad 1) (ad 2) (ad 3) (ad 4) (ad 5) (ad 6) (ad 7) (ad 8) (ad 9) (ad 10) (ad 11) (ad 12) D) (b := wMs cI (ad 14) (ad 15) (ad 16) (ad 17) (ad 18) (ad 19) (ad 20) (mAbout ((xs (5 * j + 1))) ((xs (5 * j + 2))) M).2) hP
    have hD := ma_swapD (a := wO (ad 13) cL ol ++ wD cI (ad 0) (ad 1) (ad 2) (ad 3) (ad 4) (ad 5) (ad 6) (ad 7) (ad 8) (ad 9) (ad 10) (ad 11) (ad 12) D) (b := wMs cI (ad 14) (ad 15) (ad 16) (ad 17) (ad 18) (ad 19) (ad 20) (mAbout ((xs (5 * j + 1))) ((xs (5 * j + 2))) M).2) hD
    have hP : va_P (dC, dI) vwCl (wL cI cL ad D ((mAbout ((xs (5 * j + 1))) ((xs (5 * j + 2))) M).2) ol) _ := hP
    have hD : va_D (fun q => s.heap.size ≤ q) (wL cI cL ad D ((mAbout ((xs (5 * j + 1))) ((xs (5 * j + 2))) M).2) ol) := hD
    refine lv_istore (lv' := [(6, .int (mAbout ((xs (5 * j + 1))) ((xs (5 * j + 2))) M).1), (5, .int 1), (0, .ref b), (1, .ref (ad 0)), (2, .ref (ad 14)), (3, .ref (ad 13)), (4, .int (nI (5 * j)))]) hx hb dL_law_574 hl (by decide) rfl (fun ls hl => ?_)
    refine lv_aload_n hx hb dL_law_576 rfl (lv_at hl 4 rfl) ?_
    refine m_rV (As := []) (rest := []) ⟨hx, hb, hml, hown, hts⟩ (c_X3_thrown l dC dI cI (ad 14) (ad 15) (ad 16) (ad 17) (ad 18) (ad 19) (ad 20) (mAbout ((xs (5 * j + 1))) ((xs (5 * j + 2))) M).2.1 (mAbout ((xs (5 * j + 1))) ((xs (5 * j + 2))) M).2.2.1 (mAbout ((xs (5 * j + 1))) ((xs (5 * j + 2))) M).2.2.2.1 (mAbout ((xs (5 * j + 1))) ((xs (5 * j + 2))) M).2.2.2.2.1 (mAbout ((xs (5 * j + 1))) ((xs (5 * j + 2))) M).2.2.2.2.2.1 (mAbout ((xs (5 * j + 1))) ((xs (5 * j + 2))) M).2.2.2.2.2.2.1 (mAbout ((xs (5 * j + 1))) ((xs (5 * j + 2))) M).2.2.2.2.2.2.2.1 (mAbout ((xs (5 * j + 1))) ((xs (5 * j + 2))) M).2.2.2.2.2.2.2.2.1 (mAbout ((xs (5 * j + 1))) ((xs (5 * j + 2))) M).2.2.2.2.2.2.2.2.2.1 (mAbout ((xs (5 * j + 1))) ((xs (5 * j + 2))) M).2.2.2.2.2.2.2.2.2.2.1 (mAbout ((xs (5 * j + 1))) ((xs (5 * j + 2))) M).2.2.2.2.2.2.2.2.2.2.2) (cwV 0 hts gL_law_X3_thrown rfl rfl rfl (by decide +kernel) ⟨Nat.le_of_ble_eq_true rfl, Nat.le_of_ble_eq_true rfl⟩) (ma_Pl hP) hK 3 0 rfl rfl rfl hl.1 rfl (Nat.le_of_ble_eq_true rfl) dL_law_577 hf1 (fun r hw => ?_)
    subst hw
    refine lv_iload hx hb dL_law_580 (lv_at hl 1 rfl) ?_
    refine lv_icmp_eq (tgt := 587) hx hb dL_law_582 (by decide) (fun c9 => ?_) (fun c9 => absurd (r_aboutX hR hk hpx).1 c9)
    refine lv_iload hx hb dL_law_587 (lv_at hl 1 rfl) ?_
    refine lv_if_ne (tgt := 604) hx hb dL_law_589 (by decide) (fun c10 => ?_) (fun c10 => absurd c10 (by decide))
    refine lv_goto (tgt := 700) hx hb dL_law_604 (by decide) ?_
    exact next _ _ _ _ _ ls ⟨φ, (r_aboutX hR hk hpx).2⟩ ⟨hP, hD, hS⟩ (lv_sub hl [2, 3, 4, 5, 6] rfl)
  · obtain ⟨ol1, D1⟩ := u
    obtain ⟨v, rfl, hpo, e1⟩ := hw
    dsimp only at hpo e1 hP hD
    obtain ⟨hj1, rfl⟩ := hpo
    subst e1
    have hP : va_P (dC, dI) vwCl (wL cI cL ad D M (vp_updL ol 0 (dAbout ((xs (5 * j + 1))) ((xs (5 * j + 2))) D).toInt64)) _ := hP
    have hD : va_D (fun q => s.heap.size ≤ q) (wL cI cL ad D M (vp_updL ol 0 (dAbout ((xs (5 * j + 1))) ((xs (5 * j + 2))) D).toInt64)) := hD
    refine lv_istore (lv' := [(5, .int 0), (0, .ref b), (1, .ref (ad 0)), (2, .ref (ad 14)), (3, .ref (ad 13)), (4, .int (nI (5 * j)))]) hx hb dL_law_556 hl (by decide) rfl (fun ls hl => ?_)
    refine lv_aload_n hx hb dL_law_558 rfl (lv_at hl 3 rfl) ?_
    refine lv_aload_n hx hb dL_law_559 rfl (lv_at hl 1 rfl) ?_
    refine lv_iload hx hb dL_law_560 (lv_at hl 5 rfl) ?_
    refine lv_iconst (v := 1) hx hb dL_law_562 (by decide) ?_
    refine lv_iadd hx hb dL_law_563 ?_
    refine mv_top (v := nI (5 * j + 1)) (nI_add (5 * j) 1) ?_
    refine mv_sld hx hb hX hbl hbA hS (k := 5 * j + 1) rfl (by omega) hL dL_law_564 ?_
    refine lv_aload_n hx hb dL_law_565 rfl (lv_at hl 1 rfl) ?_
    refine lv_iload hx hb dL_law_566 (lv_at hl 5 rfl) ?_
    refine lv_iconst (v := 2) hx hb dL_law_568 (by decide) ?_
    refine lv_iadd hx hb dL_law_569 ?_
    refine mv_top (v := nI (5 * j + 2)) (nI_add (5 * j) 2) ?_
    refine mv_sld hx hb hX hbl hbA hS (k := 5 * j + 2) rfl (by omega) hL dL_law_570 ?_
    have hP := ma_swapP (a := wMs cI (ad 14) (ad 15) (ad 16) (ad 17) (ad 18) (ad 19) (ad 20) M) (b := wO (ad 13) cL (vp_updL ol 0 (dAbout ((xs (5 * j + 1))) ((xs (5 * j + 2))) D).toInt64) ++ wD cI (ad 0) (ad 1) (ad 2) (ad 3) (ad 4) (ad 5) (ad 6) (ad 7) (ad 8) (ad 9) (ad 10) (ad 11) (ad 12) D) hP
    have hD := ma_swapD (a := wMs cI (ad 14) (ad 15) (ad 16) (ad 17) (ad 18) (ad 19) (ad 20) M) (b := wO (ad 13) cL (vp_updL ol 0 (dAbout ((xs (5 * j + 1))) ((xs (5 * j + 2))) D).toInt64) ++ wD cI (ad 0) (ad 1) (ad 2) (ad 3) (ad 4) (ad 5) (ad 6) (ad 7) (ad 8) (ad 9) (ad 10) (ad 11) (ad 12) D) hD
    refine m_wVi (As := [.int (xs (5 * j + 1)), .int (xs (5 * j + 2))]) (rest := []) ⟨hx, hb, hml, hown, hts⟩ (c_X3_about l dC dI cI (ad 14) (ad 15) (ad 16) (ad 17) (ad 18) (ad 19) (ad 20) M.1 M.2.1 M.2.2.1 M.2.2.2.1 M.2.2.2.2.1 M.2.2.2.2.2.1 M.2.2.2.2.2.2.1 M.2.2.2.2.2.2.2.1 M.2.2.2.2.2.2.2.2.1 M.2.2.2.2.2.2.2.2.2.1 M.2.2.2.2.2.2.2.2.2.2 ((xs (5 * j + 1))) ((xs (5 * j + 2))) hco hro.2 hof hv) (cwV 2 hts gL_law_X3_about rfl rfl rfl (by decide +kernel) ⟨Nat.le_of_ble_eq_true rfl, Nat.le_of_ble_eq_true rfl⟩) hP hK hD hS hA 3 0 rfl rfl rfl hl.1 rfl (Nat.le_of_ble_eq_true rfl) dL_law_571 hf1 (fun r u H locs hw hP hD hS => ?_)
    obtain ⟨rfl, rfl⟩ := hw
    have hP := ma_swapP (a := wO (ad 13) cL (vp_updL ol 0 (dAbout ((xs (5 * j + 1))) ((xs (5 * j + 2))) D).toInt64) ++ wD cI (ad 0) (ad 1) (ad 2) (ad 3) (ad 4) (ad 5) (ad 6) (ad 7) (ad 8) (ad 9) (ad 10) (ad 11) (ad 12) D) (b := wMs cI (ad 14) (ad 15) (ad 16) (ad 17) (ad 18) (ad 19) (ad 20) (mAbout ((xs (5 * j + 1))) ((xs (5 * j + 2))) M).2) hP
    have hD := ma_swapD (a := wO (ad 13) cL (vp_updL ol 0 (dAbout ((xs (5 * j + 1))) ((xs (5 * j + 2))) D).toInt64) ++ wD cI (ad 0) (ad 1) (ad 2) (ad 3) (ad 4) (ad 5) (ad 6) (ad 7) (ad 8) (ad 9) (ad 10) (ad 11) (ad 12) D) (b := wMs cI (ad 14) (ad 15) (ad 16) (ad 17) (ad 18) (ad 19) (ad 20) (mAbout ((xs (5 * j + 1))) ((xs (5 * j + 2))) M).2) hD
    have hP : va_P (dC, dI) vwCl (wL cI cL ad D ((mAbout ((xs (5 * j + 1))) ((xs (5 * j + 2))) M).2) (vp_updL ol 0 (dAbout ((xs (5 * j + 1))) ((xs (5 * j + 2))) D).toInt64)) _ := hP
    have hD : va_D (fun q => s.heap.size ≤ q) (wL cI cL ad D ((mAbout ((xs (5 * j + 1))) ((xs (5 * j + 2))) M).2) (vp_updL ol 0 (dAbout ((xs (5 * j + 1))) ((xs (5 * j + 2))) D).toInt64)) := hD
    refine lv_istore (lv' := [(6, .int (mAbout ((xs (5 * j + 1))) ((xs (5 * j + 2))) M).1), (5, .int 0), (0, .ref b), (1, .ref (ad 0)), (2, .ref (ad 14)), (3, .ref (ad 13)), (4, .int (nI (5 * j)))]) hx hb dL_law_574 hl (by decide) rfl (fun ls hl => ?_)
    refine lv_aload_n hx hb dL_law_576 rfl (lv_at hl 4 rfl) ?_
    refine m_rV (As := []) (rest := []) ⟨hx, hb, hml, hown, hts⟩ (c_X3_thrown l dC dI cI (ad 14) (ad 15) (ad 16) (ad 17) (ad 18) (ad 19) (ad 20) (mAbout ((xs (5 * j + 1))) ((xs (5 * j + 2))) M).2.1 (mAbout ((xs (5 * j + 1))) ((xs (5 * j + 2))) M).2.2.1 (mAbout ((xs (5 * j + 1))) ((xs (5 * j + 2))) M).2.2.2.1 (mAbout ((xs (5 * j + 1))) ((xs (5 * j + 2))) M).2.2.2.2.1 (mAbout ((xs (5 * j + 1))) ((xs (5 * j + 2))) M).2.2.2.2.2.1 (mAbout ((xs (5 * j + 1))) ((xs (5 * j + 2))) M).2.2.2.2.2.2.1 (mAbout ((xs (5 * j + 1))) ((xs (5 * j + 2))) M).2.2.2.2.2.2.2.1 (mAbout ((xs (5 * j + 1))) ((xs (5 * j + 2))) M).2.2.2.2.2.2.2.2.1 (mAbout ((xs (5 * j + 1))) ((xs (5 * j + 2))) M).2.2.2.2.2.2.2.2.2.1 (mAbout ((xs (5 * j + 1))) ((xs (5 * j + 2))) M).2.2.2.2.2.2.2.2.2.2.1 (mAbout ((xs (5 * j + 1))) ((xs (5 * j + 2))) M).2.2.2.2.2.2.2.2.2.2.2) (cwV 0 hts gL_law_X3_thrown rfl rfl rfl (by decide +kernel) ⟨Nat.le_of_ble_eq_true rfl, Nat.le_of_ble_eq_true rfl⟩) (ma_Pl hP) hK 3 0 rfl rfl rfl hl.1 rfl (Nat.le_of_ble_eq_true rfl) dL_law_577 hf1 (fun r hw => ?_)
    subst hw
    refine lv_iload hx hb dL_law_580 (lv_at hl 1 rfl) ?_
    refine lv_icmp_eq (tgt := 587) hx hb dL_law_582 (by decide) (fun c9 => ?_) (fun c9 => absurd (r_about hR hk hj1).2.1 c9)
    refine lv_iload hx hb dL_law_587 (lv_at hl 1 rfl) ?_
    refine lv_if_ne (tgt := 604) hx hb dL_law_589 (by decide) (fun c10 => absurd rfl c10) (fun c10 => ?_)
    refine lv_aload_n hx hb dL_law_592 rfl (lv_at hl 5 rfl) ?_
    refine lv_iconst (v := 0) hx hb dL_law_593 (by decide) ?_
    refine va_lald hx hb hK2 hP 7 1 rfl rfl (vp_in_nI (n := 0) (by decide) (by decide)) dL_law_594 ?_
    refine lv_iload hx hb dL_law_595 (lv_at hl 0 rfl) ?_
    refine lv_i2l (v := ((mAbout ((xs (5 * j + 1))) ((xs (5 * j + 2))) M).1).toInt64) hx hb dL_law_597 rfl ?_
    refine W.lcmp hx hb dL_law_598 ?_
    refine lv_if_eq (tgt := 604) hx hb dL_law_599 (by decide) (fun c11 => ?_) (fun c11 => absurd ?_ c11)
    rotate_left
    · show lg_cmp (vp_updL ol 0 (dAbout ((xs (5 * j + 1))) ((xs (5 * j + 2))) D).toInt64 0) _ = 0
      rw [pk_uLs, (r_about hR hk hj1).1]
      exact lg_same _
    refine lv_goto (tgt := 700) hx hb dL_law_604 (by decide) ?_
    exact next _ _ _ _ _ ls ⟨φ, (r_about hR hk hj1).2.2⟩ ⟨hP, hD, hS⟩ (lv_sub hl [2, 3, 4, 5, 6] rfl)
set_option maxHeartbeats 4000000 in
set_option maxRecDepth 100000 in
theorem lc_number (p : Program) (l : Launch) (e : Env) (s : State) (m : MethodId) (below : List Frame) (meth : Method) (c : Code) (b L : Nat) (xs : Nat → Int32) (dC : Nat → ClassId) (dI : Nat → Nat → Nat) (cI cL : ClassId) (ad : Nat → Nat) (j cells slots : Nat) (Q : State → Prop) (D : DS) (M : MS) (ol : Nat → Int64) (H : Heap) (locs : List Loc) (ls : Array Slot) (φ : Nat → Nat) (hC : LC p l s m c b L xs dC dI cI cL) (hj : 5 * j + 5 ≤ L) (hcs : cells + 1 ≤ 1049 ∧ slots + 6 ≤ 44480) (hR : Rel j φ D M) (hI : LI s dC dI cI cL ad D M ol H locs) (hl : lv_has ls 7 (lvL b ad j)) (next : LN p l e s m below meth c b dC dI cI cL ad j cells slots Q) : W p l e room_1 s m #[Value.ref b] below meth c H locs cells slots Q (F0 m 607 ls []) := by
  obtain ⟨⟨hx, hb, hml, hown, hts⟩, ⟨hX, hbl, hL⟩, hK2, hE, hl0⟩ := hC
  obtain ⟨hP, hD, hS⟩ := hI
  have hK := hK2.sub (tys' := [(cI, .int)]) [0] rfl
  have hA : ∀ q : Nat, s.heap.size ≤ q → (fun q : Nat => s.heap.size ≤ q) q := fun _ h => h
  have hbA : ¬ (fun q : Nat => s.heap.size ≤ q) b := Nat.not_le.mpr hbl
  obtain ⟨hm, hsc, hog, hsg, hsp, hd, hst⟩ := rel_D hR
  obtain ⟨hco, hg, hgr, hof, hro, hdr, hv, hsh, hfr⟩ := rel_M hR
  have hk : j < 512 := by omega
  have hf0 : cells ≤ room_1.cells ∧ slots ≤ room_1.slots := ⟨by show cells ≤ 1049; omega, by show slots ≤ 44480; omega⟩
  have hf1 : cells + 1 ≤ room_1.cells ∧ slots + 6 ≤ room_1.slots := hcs
  refine lv_aload_n hx hb dL_law_607 rfl (lv_at hl 1 rfl) ?_
  refine lv_aload_n hx hb dL_law_608 rfl (lv_at hl 0 rfl) ?_
  refine lv_iload hx hb dL_law_609 (lv_at hl 4 rfl) ?_
  refine lv_iconst (v := 1) hx hb dL_law_611 (by decide) ?_
  refine lv_iadd hx hb dL_law_612 ?_
  refine mv_top (v := nI (5 * j + 1)) (nI_add (5 * j) 1) ?_
  refine mv_sld hx hb hX hbl hbA hS (k := 5 * j + 1) rfl (by omega) hL dL_law_613 ?_
  refine lv_aload_n hx hb dL_law_614 rfl (lv_at hl 0 rfl) ?_
  refine lv_iload hx hb dL_law_615 (lv_at hl 4 rfl) ?_
  refine lv_iconst (v := 2) hx hb dL_law_617 (by decide) ?_
  refine lv_iadd hx hb dL_law_618 ?_
  refine mv_top (v := nI (5 * j + 2)) (nI_add (5 * j) 2) ?_
  refine mv_sld hx hb hX hbl hbA hS (k := 5 * j + 2) rfl (by omega) hL dL_law_619 ?_
  refine lv_aload_n hx hb dL_law_620 rfl (lv_at hl 3 rfl) ?_
  refine m_hS (As := [.ref (ad 0), .int (xs (5 * j + 1)), .int (xs (5 * j + 2)), .ref (ad 13)]) (rest := []) ⟨hx, hb, hml, hown, hts⟩ (c_L_number l dC dI cI cL (ad 0) (ad 1) (ad 2) (ad 3) (ad 4) (ad 5) (ad 6) (ad 7) (ad 8) (ad 9) (ad 10) (ad 11) (ad 12) (ad 13) ol D ((xs (5 * j + 1))) ((xs (5 * j + 2))) hl0 hm hst) (vx_cwSW (hh := [(0, 10, 13, 13)]) 4 hts gL_law_L_number rfl rfl rfl (by decide +kernel) ⟨Nat.le_of_ble_eq_true rfl, Nat.le_of_ble_eq_true rfl⟩) hP hK2 hE hD hS hA rfl hl.1 rfl (Nat.le_of_ble_eq_true rfl) dL_law_621 hf1 (fun r u H locs hw hP hD hS => ?_)
  rcases hw with hw | hw
  · obtain ⟨rfl, hpx, rfl⟩ := hw
    have hP : va_P (dC, dI) vwCl (wL cI cL ad D M ol) _ := hP
    have hD : va_D (fun q => s.heap.size ≤ q) (wL cI cL ad D M ol) := hD
    refine lv_istore (lv' := [(5, .int 1), (0, .ref b), (1, .ref (ad 0)), (2, .ref (ad 14)), (3, .ref (ad 13)), (4, .int (nI (5 * j)))]) hx hb dL_law_624 hl (by decide) rfl (fun ls hl => ?_)
    refine lv_aload_n hx hb dL_law_626 rfl (lv_at hl 3 rfl) ?_
    refine lv_aload_n hx hb dL_law_627 rfl (lv_at hl 1 rfl) ?_
    refine lv_iload hx hb dL_law_628 (lv_at hl 5 rfl) ?_
    refine lv_iconst (v := 1) hx hb dL_law_630 (by decide) ?_
    refine lv_iadd hx hb dL_law_631 ?_
    refine mv_top (v := nI (5 * j + 1)) (nI_add (5 * j) 1) ?_
    refine mv_sld hx hb hX hbl hbA hS (k := 5 * j + 1) rfl (by omega) hL dL_law_632 ?_
    refine lv_aload_n hx hb dL_law_633 rfl (lv_at hl 1 rfl) ?_
    refine lv_iload hx hb dL_law_634 (lv_at hl 5 rfl) ?_
    refine lv_iconst (v := 2) hx hb dL_law_636 (by decide) ?_
    refine lv_iadd hx hb dL_law_637 ?_
    refine mv_top (v := nI (5 * j + 2)) (nI_add (5 * j) 2) ?_
    refine mv_sld hx hb hX hbl hbA hS (k := 5 * j + 2) rfl (by omega) hL dL_law_638 ?_
    have hP := ma_swapP (a := wMs cI (ad 14) (ad 15) (ad 16) (ad 17) (ad 18) (ad 19) (ad 20) M) (b := wO (ad 13) cL ol ++ wD cI (ad 0) (ad 1) (ad 2) (ad 3) (ad 4) (ad 5) (ad 6) (ad 7) (ad 8) (ad 9) (ad 10) (ad 11) (ad 12) D) hP
    have hD := ma_swapD (a := wMs cI (ad 14) (ad 15) (ad 16) (ad 17) (ad 18) (ad 19) (ad 20) M) (b := wO (ad 13) cL ol ++ wD cI (ad 0) (ad 1) (ad 2) (ad 3) (ad 4) (ad 5) (ad 6) (ad 7) (ad 8) (ad 9) (ad 10) (ad 11) (ad 12) D) hD
    refine m_wVi (As := [.int (xs (5 * j + 1)), .int (xs (5 * j + 2))]) (rest := []) ⟨hx, hb, hml, hown, hts⟩ (c_X3_number l dC dI cI (ad 14) (ad 15) (ad 16) (ad 17) (ad 18) (ad 19) (ad 20) M.1 M.2.1 M.2.2.1 M.2.2.2.1 M.2.2.2.2.1 M.2.2.2.2.2.1 M.2.2.2.2.2.2.1 M.2.2.2.2.2.2.2.1 M.2.2.2.2.2.2.2.2.1 M.2.2.2.2.2.2.2.2.2.1 M.2.2.2.2.2.2.2.2.2.2 ((xs (5 * j + 1))) ((xs (5 * j + 2))) hco hro.2 hof hv hsh hfr) (cwV 2 hts gL_law_X3_number rfl rfl rfl (by decide +kernel) ⟨Nat.le_of_ble_eq_true rfl, Nat.le_of_ble_eq_true rfl⟩) hP hK hD hS hA 3 0 rfl rfl rfl hl.1 rfl (Nat.le_of_ble_eq_true rfl) dL_law_639 hf1 (fun r u H locs hw hP hD hS => ?_)
    obtain ⟨rfl, rfl⟩ := hw
    have hP := ma_swapP (a := wO (ad 13) cL ol ++ wD cI (ad 0) (ad 1) (ad 2) (ad 3) (ad 4) (ad 5) (ad 6) (ad 7) (ad 8) (ad 9) (ad 10) (ad 11) (ad 12) D) (b := wMs cI (ad 14) (ad 15) (ad 16) (ad 17) (ad 18) (ad 19) (ad 20) (mNumber ((xs (5 * j + 1))) ((xs (5 * j + 2))) M).2) hP
    have hD := ma_swapD (a := wO (ad 13) cL ol ++ wD cI (ad 0) (ad 1) (ad 2) (ad 3) (ad 4) (ad 5) (ad 6) (ad 7) (ad 8) (ad 9) (ad 10) (ad 11) (ad 12) D) (b := wMs cI (ad 14) (ad 15) (ad 16) (ad 17) (ad 18) (ad 19) (ad 20) (mNumber ((xs (5 * j + 1))) ((xs (5 * j + 2))) M).2) hD
    have hP : va_P (dC, dI) vwCl (wL cI cL ad D ((mNumber ((xs (5 * j + 1))) ((xs (5 * j + 2))) M).2) ol) _ := hP
    have hD : va_D (fun q => s.heap.size ≤ q) (wL cI cL ad D ((mNumber ((xs (5 * j + 1))) ((xs (5 * j + 2))) M).2) ol) := hD
    refine lv_istore (lv' := [(6, .int (mNumber ((xs (5 * j + 1))) ((xs (5 * j + 2))) M).1), (5, .int 1), (0, .ref b), (1, .ref (ad 0)), (2, .ref (ad 14)), (3, .ref (ad 13)), (4, .int (nI (5 * j)))]) hx hb dL_law_642 hl (by decide) rfl (fun ls hl => ?_)
    refine lv_aload_n hx hb dL_law_644 rfl (lv_at hl 4 rfl) ?_
    refine m_rV (As := []) (rest := []) ⟨hx, hb, hml, hown, hts⟩ (c_X3_thrown l dC dI cI (ad 14) (ad 15) (ad 16) (ad 17) (ad 18) (ad 19) (ad 20) (mNumber ((xs (5 * j + 1))) ((xs (5 * j + 2))) M).2.1 (mNumber ((xs (5 * j + 1))) ((xs (5 * j + 2))) M).2.2.1 (mNumber ((xs (5 * j + 1))) ((xs (5 * j + 2))) M).2.2.2.1 (mNumber ((xs (5 * j + 1))) ((xs (5 * j + 2))) M).2.2.2.2.1 (mNumber ((xs (5 * j + 1))) ((xs (5 * j + 2))) M).2.2.2.2.2.1 (mNumber ((xs (5 * j + 1))) ((xs (5 * j + 2))) M).2.2.2.2.2.2.1 (mNumber ((xs (5 * j + 1))) ((xs (5 * j + 2))) M).2.2.2.2.2.2.2.1 (mNumber ((xs (5 * j + 1))) ((xs (5 * j + 2))) M).2.2.2.2.2.2.2.2.1 (mNumber ((xs (5 * j + 1))) ((xs (5 * j + 2))) M).2.2.2.2.2.2.2.2.2.1 (mNumber ((xs (5 * j + 1))) ((xs (5 * j + 2))) M).2.2.2.2.2.2.2.2.2.2.1 (mNumber ((xs (5 * j + 1))) ((xs (5 * j + 2))) M).2.2.2.2.2.2.2.2.2.2.2) (cwV 0 hts gL_law_X3_thrown rfl rfl rfl (by decide +kernel) ⟨Nat.le_of_ble_eq_true rfl, Nat.le_of_ble_eq_true rfl⟩) (ma_Pl hP) hK 3 0 rfl rfl rfl hl.1 rfl (Nat.le_of_ble_eq_true rfl) dL_law_645 hf1 (fun r hw => ?_)
    subst hw
    refine lv_iload hx hb dL_law_648 (lv_at hl 1 rfl) ?_
    refine lv_icmp_eq (tgt := 655) hx hb dL_law_650 (by decide) (fun c9 => ?_) (fun c9 => absurd (r_numberX hR hk hpx.1 hpx.2).1 c9)
    refine lv_iload hx hb dL_law_655 (lv_at hl 1 rfl) ?_
    refine lv_if_ne (tgt := 672) hx hb dL_law_657 (by decide) (fun c10 => ?_) (fun c10 => absurd c10 (by decide))
    refine lv_goto (tgt := 700) hx hb dL_law_672 (by decide) ?_
    exact next _ _ _ _ _ ls ⟨φ, (r_numberX hR hk hpx.1 hpx.2).2⟩ ⟨hP, hD, hS⟩ (lv_sub hl [2, 3, 4, 5, 6] rfl)
  · obtain ⟨ol1, D1⟩ := u
    obtain ⟨v, rfl, hpo, e1⟩ := hw
    dsimp only at hpo e1 hP hD
    obtain ⟨hj1, rfl⟩ := hpo
    subst e1
    have hP : va_P (dC, dI) vwCl (wL cI cL ad D M (vp_updL ol 0 (dNum ((xs (5 * j + 1))) ((xs (5 * j + 2))) D).toInt64)) _ := hP
    have hD : va_D (fun q => s.heap.size ≤ q) (wL cI cL ad D M (vp_updL ol 0 (dNum ((xs (5 * j + 1))) ((xs (5 * j + 2))) D).toInt64)) := hD
    refine lv_istore (lv' := [(5, .int 0), (0, .ref b), (1, .ref (ad 0)), (2, .ref (ad 14)), (3, .ref (ad 13)), (4, .int (nI (5 * j)))]) hx hb dL_law_624 hl (by decide) rfl (fun ls hl => ?_)
    refine lv_aload_n hx hb dL_law_626 rfl (lv_at hl 3 rfl) ?_
    refine lv_aload_n hx hb dL_law_627 rfl (lv_at hl 1 rfl) ?_
    refine lv_iload hx hb dL_law_628 (lv_at hl 5 rfl) ?_
    refine lv_iconst (v := 1) hx hb dL_law_630 (by decide) ?_
    refine lv_iadd hx hb dL_law_631 ?_
    refine mv_top (v := nI (5 * j + 1)) (nI_add (5 * j) 1) ?_
    refine mv_sld hx hb hX hbl hbA hS (k := 5 * j + 1) rfl (by omega) hL dL_law_632 ?_
    refine lv_aload_n hx hb dL_law_633 rfl (lv_at hl 1 rfl) ?_
    refine lv_iload hx hb dL_law_634 (lv_at hl 5 rfl) ?_
    refine lv_iconst (v := 2) hx hb dL_law_636 (by decide) ?_
    refine lv_iadd hx hb dL_law_637 ?_
    refine mv_top (v := nI (5 * j + 2)) (nI_add (5 * j) 2) ?_
    refine mv_sld hx hb hX hbl hbA hS (k := 5 * j + 2) rfl (by omega) hL dL_law_638 ?_
    have hP := ma_swapP (a := wMs cI (ad 14) (ad 15) (ad 16) (ad 17) (ad 18) (ad 19) (ad 20) M) (b := wO (ad 13) cL (vp_updL ol 0 (dNum ((xs (5 * j + 1))) ((xs (5 * j + 2))) D).toInt64) ++ wD cI (ad 0) (ad 1) (ad 2) (ad 3) (ad 4) (ad 5) (ad 6) (ad 7) (ad 8) (ad 9) (ad 10) (ad 11) (ad 12) D) hP
    have hD := ma_swapD (a := wMs cI (ad 14) (ad 15) (ad 16) (ad 17) (ad 18) (ad 19) (ad 20) M) (b := wO (ad 13) cL (vp_updL ol 0 (dNum ((xs (5 * j + 1))) ((xs (5 * j + 2))) D).toInt64) ++ wD cI (ad 0) (ad 1) (ad 2) (ad 3) (ad 4) (ad 5) (ad 6) (ad 7) (ad 8) (ad 9) (ad 10) (ad 11) (ad 12) D) hD
    refine m_wVi (As := [.int (xs (5 * j + 1)), .int (xs (5 * j + 2))]) (rest := []) ⟨hx, hb, hml, hown, hts⟩ (c_X3_number l dC dI cI (ad 14) (ad 15) (ad 16) (ad 17) (ad 18) (ad 19) (ad 20) M.1 M.2.1 M.2.2.1 M.2.2.2.1 M.2.2.2.2.1 M.2.2.2.2.2.1 M.2.2.2.2.2.2.1 M.2.2.2.2.2.2.2.1 M.2.2.2.2.2.2.2.2.1 M.2.2.2.2.2.2.2.2.2.1 M.2.2.2.2.2.2.2.2.2.2 ((xs (5 * j + 1))) ((xs (5 * j + 2))) hco hro.2 hof hv hsh hfr) (cwV 2 hts gL_law_X3_number rfl rfl rfl (by decide +kernel) ⟨Nat.le_of_ble_eq_true rfl, Nat.le_of_ble_eq_true rfl⟩) hP hK hD hS hA 3 0 rfl rfl rfl hl.1 rfl (Nat.le_of_ble_eq_true rfl) dL_law_639 hf1 (fun r u H locs hw hP hD hS => ?_)
    obtain ⟨rfl, rfl⟩ := hw
    have hP := ma_swapP (a := wO (ad 13) cL (vp_updL ol 0 (dNum ((xs (5 * j + 1))) ((xs (5 * j + 2))) D).toInt64) ++ wD cI (ad 0) (ad 1) (ad 2) (ad 3) (ad 4) (ad 5) (ad 6) (ad 7) (ad 8) (ad 9) (ad 10) (ad 11) (ad 12) D) (b := wMs cI (ad 14) (ad 15) (ad 16) (ad 17) (ad 18) (ad 19) (ad 20) (mNumber ((xs (5 * j + 1))) ((xs (5 * j + 2))) M).2) hP
    have hD := ma_swapD (a := wO (ad 13) cL (vp_updL ol 0 (dNum ((xs (5 * j + 1))) ((xs (5 * j + 2))) D).toInt64) ++ wD cI (ad 0) (ad 1) (ad 2) (ad 3) (ad 4) (ad 5) (ad 6) (ad 7) (ad 8) (ad 9) (ad 10) (ad 11) (ad 12) D) (b := wMs cI (ad 14) (ad 15) (ad 16) (ad 17) (ad 18) (ad 19) (ad 20) (mNumber ((xs (5 * j + 1))) ((xs (5 * j + 2))) M).2) hD
    have hP : va_P (dC, dI) vwCl (wL cI cL ad D ((mNumber ((xs (5 * j + 1))) ((xs (5 * j + 2))) M).2) (vp_updL ol 0 (dNum ((xs (5 * j + 1))) ((xs (5 * j + 2))) D).toInt64)) _ := hP
    have hD : va_D (fun q => s.heap.size ≤ q) (wL cI cL ad D ((mNumber ((xs (5 * j + 1))) ((xs (5 * j + 2))) M).2) (vp_updL ol 0 (dNum ((xs (5 * j + 1))) ((xs (5 * j + 2))) D).toInt64)) := hD
    refine lv_istore (lv' := [(6, .int (mNumber ((xs (5 * j + 1))) ((xs (5 * j + 2))) M).1), (5, .int 0), (0, .ref b), (1, .ref (ad 0)), (2, .ref (ad 14)), (3, .ref (ad 13)), (4, .int (nI (5 * j)))]) hx hb dL_law_642 hl (by decide) rfl (fun ls hl => ?_)
    refine lv_aload_n hx hb dL_law_644 rfl (lv_at hl 4 rfl) ?_
    refine m_rV (As := []) (rest := []) ⟨hx, hb, hml, hown, hts⟩ (c_X3_thrown l dC dI cI (ad 14) (ad 15) (ad 16) (ad 17) (ad 18) (ad 19) (ad 20) (mNumber ((xs (5 * j + 1))) ((xs (5 * j + 2))) M).2.1 (mNumber ((xs (5 * j + 1))) ((xs (5 * j + 2))) M).2.2.1 (mNumber ((xs (5 * j + 1))) ((xs (5 * j + 2))) M).2.2.2.1 (mNumber ((xs (5 * j + 1))) ((xs (5 * j + 2))) M).2.2.2.2.1 (mNumber ((xs (5 * j + 1))) ((xs (5 * j + 2))) M).2.2.2.2.2.1 (mNumber ((xs (5 * j + 1))) ((xs (5 * j + 2))) M).2.2.2.2.2.2.1 (mNumber ((xs (5 * j + 1))) ((xs (5 * j + 2))) M).2.2.2.2.2.2.2.1 (mNumber ((xs (5 * j + 1))) ((xs (5 * j + 2))) M).2.2.2.2.2.2.2.2.1 (mNumber ((xs (5 * j + 1))) ((xs (5 * j + 2))) M).2.2.2.2.2.2.2.2.2.1 (mNumber ((xs (5 * j + 1))) ((xs (5 * j + 2))) M).2.2.2.2.2.2.2.2.2.2.1 (mNumber ((xs (5 * j + 1))) ((xs (5 * j + 2))) M).2.2.2.2.2.2.2.2.2.2.2) (cwV 0 hts gL_law_X3_thrown rfl rfl rfl (by decide +kernel) ⟨Nat.le_of_ble_eq_true rfl, Nat.le_of_ble_eq_true rfl⟩) (ma_Pl hP) hK 3 0 rfl rfl rfl hl.1 rfl (Nat.le_of_ble_eq_true rfl) dL_law_645 hf1 (fun r hw => ?_)
    subst hw
    refine lv_iload hx hb dL_law_648 (lv_at hl 1 rfl) ?_
    refine lv_icmp_eq (tgt := 655) hx hb dL_law_650 (by decide) (fun c9 => ?_) (fun c9 => absurd (r_number hR hk hj1).2.1 c9)
    refine lv_iload hx hb dL_law_655 (lv_at hl 1 rfl) ?_
    refine lv_if_ne (tgt := 672) hx hb dL_law_657 (by decide) (fun c10 => absurd rfl c10) (fun c10 => ?_)
    refine lv_aload_n hx hb dL_law_660 rfl (lv_at hl 5 rfl) ?_
    refine lv_iconst (v := 0) hx hb dL_law_661 (by decide) ?_
    refine va_lald hx hb hK2 hP 7 1 rfl rfl (vp_in_nI (n := 0) (by decide) (by decide)) dL_law_662 ?_
    refine lv_iload hx hb dL_law_663 (lv_at hl 0 rfl) ?_
    refine lv_i2l (v := ((mNumber ((xs (5 * j + 1))) ((xs (5 * j + 2))) M).1).toInt64) hx hb dL_law_665 rfl ?_
    refine W.lcmp hx hb dL_law_666 ?_
    refine lv_if_eq (tgt := 672) hx hb dL_law_667 (by decide) (fun c11 => ?_) (fun c11 => absurd ?_ c11)
    rotate_left
    · show lg_cmp (vp_updL ol 0 (dNum ((xs (5 * j + 1))) ((xs (5 * j + 2))) D).toInt64 0) _ = 0
      rw [pk_uLs, (r_number hR hk hj1).1]
      exact lg_same _
    refine lv_goto (tgt := 700) hx hb dL_law_672 (by decide) ?_
    exact next _ _ _ _ _ ls ⟨φ, (r_number hR hk hj1).2.2⟩ ⟨hP, hD, hS⟩ (lv_sub hl [2, 3, 4, 5, 6] rfl)
