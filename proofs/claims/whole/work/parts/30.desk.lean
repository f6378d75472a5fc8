/-- the class's state: kinds, values, savedPlaces, savedGroups, savedKinds, savedValues, savedCount, openGroups; numbers, starts, lengths, tellers, made, draftStart, draftLength, keptNumbers -/
abbrev DS : Type := (Nat → Int32) × (Nat → Int32) × (Nat → Nat) × (Nat → Nat) × (Nat → Int32) × (Nat → Int32) × Nat × Nat × (Nat → Int32) × (Nat → Nat) × (Nat → Nat) × (Nat → Int32) × Nat × Nat × Nat × Int32
def dAsg (pl : Nat) (k v gg : Int32) : DS → DS
  | (ki, va, sp, sg, sk, sv, sc, og, nu, st, le, te, ma, ds, dl, ke) => ((assignF ma le pl k v gg ki va sp sg sk sv sc og te ke).1, (assignF ma le pl k v gg ki va sp sg sk sv sc og te ke).2.1, (assignF ma le pl k v gg ki va sp sg sk sv sc og te ke).2.2.1, (assignF ma le pl k v gg ki va sp sg sk sv sc og te ke).2.2.2.1, (assignF ma le pl k v gg ki va sp sg sk sv sc og te ke).2.2.2.2.1, (assignF ma le pl k v gg ki va sp sg sk sv sc og te ke).2.2.2.2.2.1, (assignF ma le pl k v gg ki va sp sg sk sv sc og te ke).2.2.2.2.2.2.1, og, nu, st, le, (assignF ma le pl k v gg ki va sp sg sk sv sc og te ke).2.2.2.2.2.2.2.1, ma, ds, dl, (assignF ma le pl k v gg ki va sp sg sk sv sc og te ke).2.2.2.2.2.2.2.2)
def dOpen : DS → Int32 × DS
  | (ki, va, sp, sg, sk, sv, sc, og, nu, st, le, te, ma, ds, dl, ke) => if og < 200 then (1, (ki, va, sp, sg, sk, sv, sc, og + 1, nu, st, le, te, ma, ds, dl, ke)) else (0, (ki, va, sp, sg, sk, sv, sc, og, nu, st, le, te, ma, ds, dl, ke))
def dClose : DS → Int32 × DS
  | (ki, va, sp, sg, sk, sv, sc, og, nu, st, le, te, ma, ds, dl, ke) => ((leaveG ma le sp sg sk sv og sc ki va te ke).1, ((leaveG ma le sp sg sk sv og sc ki va te ke).2.2.2.1, (leaveG ma le sp sg sk sv og sc ki va te ke).2.2.2.2.1, sp, sg, sk, sv, (leaveG ma le sp sg sk sv og sc ki va te ke).2.1, (leaveG ma le sp sg sk sv og sc ki va te ke).2.2.1, nu, st, le, (leaveG ma le sp sg sk sv og sc ki va te ke).2.2.2.2.2.1, ma, ds, dl, (leaveG ma le sp sg sk sv og sc ki va te ke).2.2.2.2.2.2))
def dSet (x v gg : Int32) (D : DS) : Int32 × DS := if isR 2366 x then (1, dAsg (rj x) 0 v gg D) else (0, D)
def dMean (x k v gg : Int32) (D : DS) : Int32 × DS := if (isR 1000 x && kOk k) = true then (1, dAsg (2366 + rj x) k v gg D) else (0, D)
def dDraft (v : Int32) : DS → Int32 × DS
  | (ki, va, sp, sg, sk, sv, sc, og, nu, st, le, te, ma, ds, dl, ke) => ((joinF nu ds dl v).1, (ki, va, sp, sg, sk, sv, sc, og, (joinF nu ds dl v).2.1, st, le, te, ma, ds, (joinF nu ds dl v).2.2, ke))
def dTake : DS → Int32 × DS
  | (ki, va, sp, sg, sk, sv, sc, og, nu, st, le, te, ma, ds, dl, ke) => ((takeF st le ma ds dl).1, (ki, va, sp, sg, sk, sv, sc, og, nu, (takeF st le ma ds dl).2.1, (takeF st le ma ds dl).2.2.1, te, (takeF st le ma ds dl).2.2.2.1, (takeF st le ma ds dl).2.2.2.2.1, (takeF st le ma ds dl).2.2.2.2.2, ke))
def dLen (x : Int32) (D : DS) : Int32 := lenR D.2.2.2.2.2.2.2.2.2.2.2.2.1 D.2.2.2.2.2.2.2.2.2.2.1 x
def dDefine (x gg : Int32) (D : DS) : Int32 × DS := (dLen (dTake D).1 (dAsg (2366 + rj x) 3 (dTake D).1 gg (dTake D).2), dAsg (2366 + rj x) 3 (dTake D).1 gg (dTake D).2)
def dLet (x y gg : Int32) (D : DS) : Int32 × DS := if (isR 1000 x && isR 1000 y) = true then (1, dAsg (2366 + rj x) (D.1 (2366 + rj y)) (D.2.1 (2366 + rj y)) gg D) else (0, D)
def dShape (gg : Int32) (D : DS) : Int32 × DS := (dLen (dTake D).1 (dAsg 3366 0 (dTake D).1 gg (dTake D).2), dAsg 3366 0 (dTake D).1 gg (dTake D).2)
def dGet (x : Int32) (D : DS) : Int32 := D.2.1 (rj x)
def dAbout (x y : Int32) (D : DS) : Int32 := if y = 0 then D.1 (2366 + rj x) else if D.1 (2366 + rj x) = 3 then dLen (D.2.1 (2366 + rj x)) D else D.2.1 (2366 + rj x)
def dRow (x : Int32) (D : DS) : Int32 := if x = -1 then D.2.1 3366 else if isR 1000 x then (if D.1 (2366 + rj x) = 3 then D.2.1 (2366 + rj x) else -1) else -1
def dHas (x y : Int32) (D : DS) : Bool := hasR D.2.2.2.2.2.2.2.2.2.2.2.2.1 D.2.2.2.2.2.2.2.2.2.2.1 (dRow x D) y
def dNum (x y : Int32) (D : DS) : Int32 := if x = -1 ∧ y = -1 then dLen (dRow x D) D else numR D.2.2.2.2.2.2.2.2.2.2.2.2.1 D.2.2.2.2.2.2.2.2.2.1 D.2.2.2.2.2.2.2.2.2.2.1 D.2.2.2.2.2.2.2.2.1 (dRow x D) y
def dCount (x : Int32) (D : DS) : Int32 := if x = 0 then nI D.2.2.2.2.2.2.2.1 else if x = 1 then nI D.2.2.2.2.2.2.2.2.2.2.2.2.2.2.1 else if x = 2 then D.2.2.2.2.2.2.2.2.2.2.2.2.2.2.2 else -1
set_option maxHeartbeats 4000000 in
set_option maxRecDepth 100000 in
theorem c_X2_isCell (l : Launch) (dC : Nat → ClassId) (dI : Nat → Nat → Nat) (cI : ClassId) (x : Int32)  : mRi l yX2_isCell wsX2_isCell ({ frames := 0, cells := 0, slots := 0, locals := 0 }) (dC, dI) cI [.int x] ([]) (fun r => r = b2i (isR 2366 x)) := by
  refine m_ofR (cc := cX2_isCell) (maxL := 1) (by decide) rfl (Nat.le_of_ble_eq_true rfl) ?_
  intro p e s m args below meth c ls Q hx hb hts hown hml hP hK hl hret
  have hown : s.vm.findClass RX2 = some m.cls := hown
  have hl : lv_has ls 1 [(0, .int x)] := hl
  refine lv_iload_n hx hb dX2_isCell_0 rfl (lv_at hl 0 rfl) ?_
  refine lv_if_lt (tgt := 15) hx hb dX2_isCell_1 (by decide) (fun c1 => ?_) (fun c1 => ?_)
  · refine lv_iconst (v := 0) hx hb dX2_isCell_15 (by decide) ?_
    exact hret 0 (rfl) (by rw [isR_f1 c1]; rfl) dX2_isCell_16
  · refine lv_iload_n hx hb dX2_isCell_4 rfl (lv_at hl 0 rfl) ?_
    refine lv_sipush (v := nI 2366) hx hb dX2_isCell_5 (by decide) ?_
    refine lv_icmp_ge (tgt := 15) hx hb dX2_isCell_8 (by decide) (fun c8 => ?_) (fun c8 => ?_)
    · refine lv_iconst (v := 0) hx hb dX2_isCell_15 (by decide) ?_
      exact hret 0 (rfl) (by rw [isR_f2 c8]; rfl) dX2_isCell_16
    · refine lv_iconst (v := 1) hx hb dX2_isCell_11 (by decide) ?_
      refine lv_goto (tgt := 16) hx hb dX2_isCell_12 (by decide) ?_
      exact hret 1 (rfl) (by rw [isR_t c1 c8]; rfl) dX2_isCell_16
set_option maxHeartbeats 4000000 in
set_option maxRecDepth 100000 in
theorem c_X2_isName (l : Launch) (dC : Nat → ClassId) (dI : Nat → Nat → Nat) (cI : ClassId) (x : Int32)  : mRi l yX2_isName wsX2_isName ({ frames := 0, cells := 0, slots := 0, locals := 0 }) (dC, dI) cI [.int x] ([]) (fun r => r = b2i (isR 1000 x)) := by
  refine m_ofR (cc := cX2_isName) (maxL := 1) (by decide) rfl (Nat.le_of_ble_eq_true rfl) ?_
  intro p e s m args below meth c ls Q hx hb hts hown hml hP hK hl hret
  have hown : s.vm.findClass RX2 = some m.cls := hown
  have hl : lv_has ls 1 [(0, .int x)] := hl
  refine lv_iload_n hx hb dX2_isName_0 rfl (lv_at hl 0 rfl) ?_
  refine lv_if_lt (tgt := 15) hx hb dX2_isName_1 (by decide) (fun c1 => ?_) (fun c1 => ?_)
  · refine lv_iconst (v := 0) hx hb dX2_isName_15 (by decide) ?_
    exact hret 0 (rfl) (by rw [isR_f1 c1]; rfl) dX2_isName_16
  · refine lv_iload_n hx hb dX2_isName_4 rfl (lv_at hl 0 rfl) ?_
    refine lv_sipush (v := nI 1000) hx hb dX2_isName_5 (by decide) ?_
    refine lv_icmp_ge (tgt := 15) hx hb dX2_isName_8 (by decide) (fun c8 => ?_) (fun c8 => ?_)
    · refine lv_iconst (v := 0) hx hb dX2_isName_15 (by decide) ?_
      exact hret 0 (rfl) (by rw [isR_f2 c8]; rfl) dX2_isName_16
    · refine lv_iconst (v := 1) hx hb dX2_isName_11 (by decide) ?_
      refine lv_goto (tgt := 16) hx hb dX2_isName_12 (by decide) ?_
      exact hret 1 (rfl) (by rw [isR_t c1 c8]; rfl) dX2_isName_16
set_option maxHeartbeats 4000000 in
set_option maxRecDepth 100000 in
theorem c_X2_isKindWithInt (l : Launch) (dC : Nat → ClassId) (dI : Nat → Nat → Nat) (cI : ClassId) (x : Int32)  : mRi l yX2_isKindWithInt wsX2_isKindWithInt ({ frames := 0, cells := 0, slots := 0, locals := 0 }) (dC, dI) cI [.int x] ([]) (fun r => r = b2i (kOk x)) := by
  refine m_ofR (cc := cX2_isKindWithInt) (maxL := 1) (by decide) rfl (Nat.le_of_ble_eq_true rfl) ?_
  intro p e s m args below meth c ls Q hx hb hts hown hml hP hK hl hret
  have hown : s.vm.findClass RX2 = some m.cls := hown
  have hl : lv_has ls 1 [(0, .int x)] := hl
  refine lv_iload_n hx hb dX2_isKindWithInt_0 rfl (lv_at hl 0 rfl) ?_
  refine lv_if_lt (tgt := 19) hx hb dX2_isKindWithInt_1 (by decide) (fun c1 => ?_) (fun c1 => ?_)
  · refine lv_iconst (v := 0) hx hb dX2_isKindWithInt_19 (by decide) ?_
    exact hret 0 (rfl) (by unfold kOk; rw [decide_eq_false (not_not_intro c1)]; rfl) dX2_isKindWithInt_20
  · refine lv_iload_n hx hb dX2_isKindWithInt_4 rfl (lv_at hl 0 rfl) ?_
    refine lv_bipush (v := nI 8) hx hb dX2_isKindWithInt_5 (by decide) ?_
    refine lv_icmp_gt (tgt := 19) hx hb dX2_isKindWithInt_7 (by decide) (fun c7 => ?_) (fun c7 => ?_)
    · refine lv_iconst (v := 0) hx hb dX2_isKindWithInt_19 (by decide) ?_
      exact hret 0 (rfl) (by unfold kOk; rw [decide_eq_false (not_not_intro c7), Bool.and_false]; rfl) dX2_isKindWithInt_20
    · refine lv_iload_n hx hb dX2_isKindWithInt_10 rfl (lv_at hl 0 rfl) ?_
      refine lv_iconst (v := 3) hx hb dX2_isKindWithInt_11 (by decide) ?_
      refine lv_icmp_eq (tgt := 19) hx hb dX2_isKindWithInt_12 (by decide) (fun c12 => ?_) (fun c12 => ?_)
      · refine lv_iconst (v := 0) hx hb dX2_isKindWithInt_19 (by decide) ?_
        exact hret 0 (rfl) (by unfold kOk; rw [decide_eq_false (not_not_intro c12), Bool.and_false]; rfl) dX2_isKindWithInt_20
      · refine lv_iconst (v := 1) hx hb dX2_isKindWithInt_15 (by decide) ?_
        refine lv_goto (tgt := 20) hx hb dX2_isKindWithInt_16 (by decide) ?_
        exact hret 1 (rfl) (by unfold kOk; rw [decide_eq_true c1, decide_eq_true c7, decide_eq_true c12]; rfl) dX2_isKindWithInt_20
theorem en_z (og : Nat) : narrow .boolean (.int (if og < 200 then ((1 : Int32), og + 1) else (0, og)).1) = .int (if og < 200 then ((1 : Int32), og + 1) else (0, og)).1 := by
  by_cases h : og < 200
  · rw [if_pos h]; exact b2i_z true (Or.inl rfl)
  · rw [if_neg h]; exact b2i_z false (Or.inl rfl)
theorem lg_z (ma : Nat) (le sp sg : Nat → Nat) (sk sv : Nat → Int32) (og sc : Nat) (ki va te : Nat → Int32) (ke : Int32) : narrow .boolean (.int (leaveG ma le sp sg sk sv og sc ki va te ke).1) = .int (leaveG ma le sp sg sk sv og sc ki va te ke).1 := by
  unfold leaveG
  by_cases h : og = 0
  · rw [if_pos h]; exact b2i_z false (Or.inl rfl)
  · rw [if_neg h]; exact b2i_z true (Or.inl rfl)
theorem jn_z (nu : Nat → Int32) (ds dl : Nat) (v : Int32) : narrow .boolean (.int (joinF nu ds dl v).1) = .int (joinF nu ds dl v).1 := by
  unfold joinF
  by_cases h : dl < 200 ∧ ds + dl < 512
  · rw [if_pos h]; exact b2i_z true (Or.inl rfl)
  · rw [if_neg h]; exact b2i_z false (Or.inl rfl)
theorem takeF_ma {st le : Nat → Nat} {ma ds dl : Nat} (h : ma ≤ 513) : (takeF st le ma ds dl).2.2.2.1 ≤ 513 := by
  unfold takeF
  by_cases h2 : dl = 0 ∨ 513 ≤ ma
  · rw [if_pos h2]; exact h
  · rw [if_neg h2]
    show ma + 1 ≤ 513
    omega
set_option maxHeartbeats 4000000 in
set_option maxRecDepth 100000 in
theorem c_X2_open (l : Launch) (dC : Nat → ClassId) (dI : Nat → Nat → Nat) (g0 r0 p0 : Nat) (cI : ClassId) (p1 p2 p3 p4 p5 p6 : Nat) (ki va : Nat → Int32) (sp sg : Nat → Nat) (sk sv : Nat → Int32) (sc og r1 r2 r3 r4 : Nat) (nu : Nat → Int32) (st le : Nat → Nat) (te : Nat → Int32) (ma ds dl : Nat) (ke : Int32)  (hog : og < 2 ^ 31) : mWi l yX2_open wsX2_open ({ frames := 1, cells := 0, slots := 0, locals := 20 }) (dC, dI) cI [.ref g0] (wG g0 r0 p0 ++ (wP cI r0 p0 p1 p2 p3 p4 p5 p6 ki va sp sg sk sv sc og ++ wR cI r0 r1 r2 r3 r4 nu st le te ma ds dl ke)) (fun r u => r = (dOpen (ki, va, sp, sg, sk, sv, sc, og, nu, st, le, te, ma, ds, dl, ke)).1 ∧ u = (dOpen (ki, va, sp, sg, sk, sv, sc, og, nu, st, le, te, ma, ds, dl, ke)).2) (fun u : DS => wG g0 r0 p0 ++ (wP cI r0 p0 p1 p2 p3 p4 p5 p6 u.1 u.2.1 u.2.2.1 u.2.2.2.1 u.2.2.2.2.1 u.2.2.2.2.2.1 u.2.2.2.2.2.2.1 u.2.2.2.2.2.2.2.1 ++ wR cI r0 r1 r2 r3 r4 u.2.2.2.2.2.2.2.2.1 u.2.2.2.2.2.2.2.2.2.1 u.2.2.2.2.2.2.2.2.2.2.1 u.2.2.2.2.2.2.2.2.2.2.2.1 u.2.2.2.2.2.2.2.2.2.2.2.2.1 u.2.2.2.2.2.2.2.2.2.2.2.2.2.1 u.2.2.2.2.2.2.2.2.2.2.2.2.2.2.1 u.2.2.2.2.2.2.2.2.2.2.2.2.2.2.2)) := by
  refine m_ofWi (cc := cX2_open) (maxL := 1) (by decide) rfl (Nat.le_of_ble_eq_true rfl) ?_
  intro p e s m args below meth c ls A Q hx hb hts hown hml hP hK hD hA hS hl hret
  have hown : s.vm.findClass RX2 = some m.cls := hown
  have hl : lv_has ls 1 [(0, .ref g0)] := hl
  have l21 := hts (.fieldLink RX2 21 "GroupDesk" "places" "LGroupDesk$Places;") (by decide +kernel)
  have iX2 : ∀ w ∈ u_ws RX2 TX2 2, w ∈ wsX2_open := by decide +kernel
  refine lv_aload_n hx hb dX2_open_0 rfl (lv_at hl 0 rfl) ?_
  refine va_get (D := (dC, dI)) (ci := 2) (v := .ref p0) (C := RX2) (T := TX2) (N := 2) hx hb hts iX2 hown hK hP 0 rfl rfl 1 (by decide) l21 (fun _ h9 => h9) rfl dX2_open_1 ?_
  have hP : va_P (dC, dI) vwCl ((wG g0 r0 p0) ++ (wP cI r0 p0 p1 p2 p3 p4 p5 p6 ki va sp sg sk sv sc og ++ wR cI r0 r1 r2 r3 r4 nu st le te ma ds dl ke)) _ := hP
  have hD : va_D A ((wG g0 r0 p0) ++ (wP cI r0 p0 p1 p2 p3 p4 p5 p6 ki va sp sg sk sv sc og ++ wR cI r0 r1 r2 r3 r4 nu st le te ma ds dl ke)) := hD
  refine m_wVi (As := []) (rest := []) ⟨hx, hb, hml, hown, hts⟩ (c_X0_enter l dC dI cI r0 p0 p1 p2 p3 p4 p5 p6 ki va sp sg sk sv sc og r1 r2 r3 r4 nu st le te ma ds dl ke hog) (cwV 0 hts gX2_open_X0_enter rfl rfl rfl (by decide +kernel) ⟨Nat.le_of_ble_eq_true rfl, Nat.le_of_ble_eq_true rfl⟩) hP hK hD hS hA 0 0 rfl rfl rfl hl.1 rfl (Nat.le_of_ble_eq_true rfl) dX2_open_4 ⟨Nat.zero_le _, Nat.zero_le _⟩ (fun r u H locs hw hP hD hS => ?_)
  obtain ⟨rfl, rfl⟩ := hw
  have hP : va_P (dC, dI) vwCl (wG g0 r0 p0 ++ (wP cI r0 p0 p1 p2 p3 p4 p5 p6 ki va sp sg sk sv sc ((if og < 200 then ((1 : Int32), og + 1) else (0, og)).2) ++ wR cI r0 r1 r2 r3 r4 nu st le te ma ds dl ke)) _ := hP
  have hD : va_D A (wG g0 r0 p0 ++ (wP cI r0 p0 p1 p2 p3 p4 p5 p6 ki va sp sg sk sv sc ((if og < 200 then ((1 : Int32), og + 1) else (0, og)).2) ++ wR cI r0 r1 r2 r3 r4 nu st le te ma ds dl ke)) := hD
  exact hret ((if og < 200 then ((1 : Int32), og + 1) else (0, og)).1) ((ki, va, sp, sg, sk, sv, sc, (if og < 200 then ((1 : Int32), og + 1) else (0, og)).2, nu, st, le, te, ma, ds, dl, ke)) (en_z og) (by simp only [dOpen]; by_cases h : og < 200 <;> simp only [h, if_true, if_false, and_self]) hP hD hS dX2_open_7
set_option maxHeartbeats 4000000 in
set_option maxRecDepth 100000 in
theorem c_X2_close (l : Launch) (dC : Nat → ClassId) (dI : Nat → Nat → Nat) (g0 r0 p0 : Nat) (cI : ClassId) (p1 p2 p3 p4 p5 p6 : Nat) (ki va : Nat → Int32) (sp sg : Nat → Nat) (sk sv : Nat → Int32) (sc og r1 r2 r3 r4 : Nat) (nu : Nat → Int32) (st le : Nat → Nat) (te : Nat → Int32) (ma ds dl : Nat) (ke : Int32)  (hm : ma ≤ 513) (hsc : sc ≤ 512) (hog : og < 2 ^ 31) (hsg : ∀ j, j < sc → sg j < 2 ^ 31) (hsp : ∀ j, j < sc → sp j < 3367) : mWi l yX2_close wsX2_close ({ frames := 5, cells := 0, slots := 0, locals := 107 }) (dC, dI) cI [.ref g0] (wG g0 r0 p0 ++ (wP cI r0 p0 p1 p2 p3 p4 p5 p6 ki va sp sg sk sv sc og ++ wR cI r0 r1 r2 r3 r4 nu st le te ma ds dl ke)) (fun r u => r = (dClose (ki, va, sp, sg, sk, sv, sc, og, nu, st, le, te, ma, ds, dl, ke)).1 ∧ u = (dClose (ki, va, sp, sg, sk, sv, sc, og, nu, st, le, te, ma, ds, dl, ke)).2) (fun u : DS => wG g0 r0 p0 ++ (wP cI r0 p0 p1 p2 p3 p4 p5 p6 u.1 u.2.1 u.2.2.1 u.2.2.2.1 u.2.2.2.2.1 u.2.2.2.2.2.1 u.2.2.2.2.2.2.1 u.2.2.2.2.2.2.2.1 ++ wR cI r0 r1 r2 r3 r4 u.2.2.2.2.2.2.2.2.1 u.2.2.2.2.2.2.2.2.2.1 u.2.2.2.2.2.2.2.2.2.2.1 u.2.2.2.2.2.2.2.2.2.2.2.1 u.2.2.2.2.2.2.2.2.2.2.2.2.1 u.2.2.2.2.2.2.2.2.2.2.2.2.2.1 u.2.2.2.2.2.2.2.2.2.2.2.2.2.2.1 u.2.2.2.2.2.2.2.2.2.2.2.2.2.2.2)) := by
  refine m_ofWi (cc := cX2_close) (maxL := 1) (by decide) rfl (Nat.le_of_ble_eq_true rfl) ?_
  intro p e s m args below meth c ls A Q hx hb hts hown hml hP hK hD hA hS hl hret
  have hown : s.vm.findClass RX2 = some m.cls := hown
  have hl : lv_has ls 1 [(0, .ref g0)] := hl
  have l21 := hts (.fieldLink RX2 21 "GroupDesk" "places" "LGroupDesk$Places;") (by decide +kernel)
  have iX2 : ∀ w ∈ u_ws RX2 TX2 2, w ∈ wsX2_close := by decide +kernel
  refine lv_aload_n hx hb dX2_close_0 rfl (lv_at hl 0 rfl) ?_
  refine va_get (D := (dC, dI)) (ci := 2) (v := .ref p0) (C := RX2) (T := TX2) (N := 2) hx hb hts iX2 hown hK hP 0 rfl rfl 1 (by decide) l21 (fun _ h9 => h9) rfl dX2_close_1 ?_
  have hP : va_P (dC, dI) vwCl ((wG g0 r0 p0) ++ (wP cI r0 p0 p1 p2 p3 p4 p5 p6 ki va sp sg sk sv sc og ++ wR cI r0 r1 r2 r3 r4 nu st le te ma ds dl ke)) _ := hP
  have hD : va_D A ((wG g0 r0 p0) ++ (wP cI r0 p0 p1 p2 p3 p4 p5 p6 ki va sp sg sk sv sc og ++ wR cI r0 r1 r2 r3 r4 nu st le te ma ds dl ke)) := hD
  refine m_wVi (As := []) (rest := []) ⟨hx, hb, hml, hown, hts⟩ (c_X0_leave l dC dI cI r0 p0 p1 p2 p3 p4 p5 p6 ki va sp sg sk sv sc og r1 r2 r3 r4 nu st le te ma ds dl ke hm hsc hog hsg hsp) (cwV 0 hts gX2_close_X0_leave rfl rfl rfl (by decide +kernel) ⟨Nat.le_of_ble_eq_true rfl, Nat.le_of_ble_eq_true rfl⟩) hP hK hD hS hA 0 0 rfl rfl rfl hl.1 rfl (Nat.le_of_ble_eq_true rfl) dX2_close_4 ⟨Nat.zero_le _, Nat.zero_le _⟩ (fun r u H locs hw hP hD hS => ?_)
  obtain ⟨rfl, rfl⟩ := hw
  have hP : va_P (dC, dI) vwCl (wG g0 r0 p0 ++ (wP cI r0 p0 p1 p2 p3 p4 p5 p6 ((leaveG ma le sp sg sk sv og sc ki va te ke).2.2.2.1) ((leaveG ma le sp sg sk sv og sc ki va te ke).2.2.2.2.1) sp sg sk sv ((leaveG ma le sp sg sk sv og sc ki va te ke).2.1) ((leaveG ma le sp sg sk sv og sc ki va te ke).2.2.1) ++ wR cI r0 r1 r2 r3 r4 nu st le ((leaveG ma le sp sg sk sv og sc ki va te ke).2.2.2.2.2.1) ma ds dl ((leaveG ma le sp sg sk sv og sc ki va te ke).2.2.2.2.2.2))) _ := hP
  have hD : va_D A (wG g0 r0 p0 ++ (wP cI r0 p0 p1 p2 p3 p4 p5 p6 ((leaveG ma le sp sg sk sv og sc ki va te ke).2.2.2.1) ((leaveG ma le sp sg sk sv og sc ki va te ke).2.2.2.2.1) sp sg sk sv ((leaveG ma le sp sg sk sv og sc ki va te ke).2.1) ((leaveG ma le sp sg sk sv og sc ki va te ke).2.2.1) ++ wR cI r0 r1 r2 r3 r4 nu st le ((leaveG ma le sp sg sk sv og sc ki va te ke).2.2.2.2.2.1) ma ds dl ((leaveG ma le sp sg sk sv og sc ki va te ke).2.2.2.2.2.2))) := hD
  exact hret ((leaveG ma le sp sg sk sv og sc ki va te ke).1) (((leaveG ma le sp sg sk sv og sc ki va te ke).2.2.2.1, (leaveG ma le sp sg sk sv og sc ki va te ke).2.2.2.2.1, sp, sg, sk, sv, (leaveG ma le sp sg sk sv og sc ki va te ke).2.1, (leaveG ma le sp sg sk sv og sc ki va te ke).2.2.1, nu, st, le, (leaveG ma le sp sg sk sv og sc ki va te ke).2.2.2.2.2.1, ma, ds, dl, (leaveG ma le sp sg sk sv og sc ki va te ke).2.2.2.2.2.2)) (lg_z _ _ _ _ _ _ _ _ _ _ _ _) (⟨rfl, rfl⟩) hP hD hS dX2_close_7
set_option maxHeartbeats 4000000 in
set_option maxRecDepth 100000 in
theorem c_X2_set (l : Launch) (dC : Nat → ClassId) (dI : Nat → Nat → Nat) (g0 r0 p0 : Nat) (cI : ClassId) (p1 p2 p3 p4 p5 p6 : Nat) (ki va : Nat → Int32) (sp sg : Nat → Nat) (sk sv : Nat → Int32) (sc og r1 r2 r3 r4 : Nat) (nu : Nat → Int32) (st le : Nat → Nat) (te : Nat → Int32) (ma ds dl : Nat) (ke : Int32) (x v g : Int32) (hm : ma ≤ 513) (hsc : sc ≤ 512) (hog : og < 2 ^ 31) (hsg : ∀ j, j < sc → sg j < 2 ^ 31) (hsp : ∀ j, j < sc → sp j < 3367) : mWi l yX2_set wsX2_set ({ frames := 5, cells := 0, slots := 0, locals := 111 }) (dC, dI) cI [.ref g0, .int x, .int v, .int g] (wG g0 r0 p0 ++ (wP cI r0 p0 p1 p2 p3 p4 p5 p6 ki va sp sg sk sv sc og ++ wR cI r0 r1 r2 r3 r4 nu st le te ma ds dl ke)) (fun r u => r = (dSet x v g (ki, va, sp, sg, sk, sv, sc, og, nu, st, le, te, ma, ds, dl, ke)).1 ∧ u = (dSet x v g (ki, va, sp, sg, sk, sv, sc, og, nu, st, le, te, ma, ds, dl, ke)).2) (fun u : DS => wG g0 r0 p0 ++ (wP cI r0 p0 p1 p2 p3 p4 p5 p6 u.1 u.2.1 u.2.2.1 u.2.2.2.1 u.2.2.2.2.1 u.2.2.2.2.2.1 u.2.2.2.2.2.2.1 u.2.2.2.2.2.2.2.1 ++ wR cI r0 r1 r2 r3 r4 u.2.2.2.2.2.2.2.2.1 u.2.2.2.2.2.2.2.2.2.1 u.2.2.2.2.2.2.2.2.2.2.1 u.2.2.2.2.2.2.2.2.2.2.2.1 u.2.2.2.2.2.2.2.2.2.2.2.2.1 u.2.2.2.2.2.2.2.2.2.2.2.2.2.1 u.2.2.2.2.2.2.2.2.2.2.2.2.2.2.1 u.2.2.2.2.2.2.2.2.2.2.2.2.2.2.2)) := by
  refine m_ofWi (cc := cX2_set) (maxL := 4) (by decide) rfl (Nat.le_of_ble_eq_true rfl) ?_
  intro p e s m args below meth c ls A Q hx hb hts hown hml hP hK hD hA hS hl hret
  have hown : s.vm.findClass RX2 = some m.cls := hown
  have hl : lv_has ls 4 [(0, .ref g0), (1, .int x), (2, .int v), (3, .int g)] := hl
  have l21 := hts (.fieldLink RX2 21 "GroupDesk" "places" "LGroupDesk$Places;") (by decide +kernel)
  have iX2 : ∀ w ∈ u_ws RX2 TX2 2, w ∈ wsX2_set := by decide +kernel
  refine lv_iload_n hx hb dX2_set_0 rfl (lv_at hl 1 rfl) ?_
  refine m_rS (As := [.int x]) (rest := []) ⟨hx, hb, hml, hown, hts⟩ (c_X2_isCell l dC dI cI x) (va_cwS 1 hts gX2_set_X2_isCell rfl rfl rfl (by decide +kernel) ⟨Nat.le_of_ble_eq_true rfl, Nat.le_of_ble_eq_true rfl⟩) ma_nil hK rfl hl.1 rfl (Nat.le_of_ble_eq_true rfl) dX2_set_1 ⟨Nat.zero_le _, Nat.zero_le _⟩ (fun r hw => ?_)
  subst hw
  refine lv_if_ne (tgt := 9) hx hb dX2_set_4 (by decide) (fun c4 => ?_) (fun c4 => ?_)
  · have hj := b2i_n c4
    have hi := isR_of (by decide) hj
    have h7 := hi.1
    refine lv_aload_n hx hb dX2_set_9 rfl (lv_at hl 0 rfl) ?_
    refine va_get (D := (dC, dI)) (ci := 2) (v := .ref p0) (C := RX2) (T := TX2) (N := 2) hx hb hts iX2 hown hK hP 0 rfl rfl 1 (by decide) l21 (fun _ h9 => h9) rfl dX2_set_10 ?_
    refine lv_iload_n hx hb dX2_set_13 rfl (lv_at hl 1 rfl) ?_
    refine mv_top (v := nI (rj x)) (hi.2) ?_
    refine lv_iconst (v := 0) hx hb dX2_set_14 (by decide) ?_
    refine lv_iload_n hx hb dX2_set_15 rfl (lv_at hl 2 rfl) ?_
    refine lv_iload_n hx hb dX2_set_16 rfl (lv_at hl 3 rfl) ?_
    have hP : va_P (dC, dI) vwCl ((wG g0 r0 p0) ++ (wP cI r0 p0 p1 p2 p3 p4 p5 p6 ki va sp sg sk sv sc og ++ wR cI r0 r1 r2 r3 r4 nu st le te ma ds dl ke)) _ := hP
    have hD : va_D A ((wG g0 r0 p0) ++ (wP cI r0 p0 p1 p2 p3 p4 p5 p6 ki va sp sg sk sv sc og ++ wR cI r0 r1 r2 r3 r4 nu st le te ma ds dl ke)) := hD
    refine m_wVv (As := [.int (nI (rj x)), .int 0, .int v, .int g]) (rest := []) ⟨hx, hb, hml, hown, hts⟩ (c_X0_assign l dC dI cI r0 p0 p1 p2 p3 p4 p5 p6 ki va sp sg sk sv sc og r1 r2 r3 r4 nu st le te ma ds dl ke (rj x) 0 v g hm (by omega) hsc hog hsg (fun j h => Nat.lt_trans (hsp j h) (by decide))) (cwV 4 hts gX2_set_X0_assign rfl rfl rfl (by decide +kernel) ⟨Nat.le_of_ble_eq_true rfl, Nat.le_of_ble_eq_true rfl⟩) hP hK hD hS hA 0 0 rfl rfl rfl hl.1 rfl (Nat.le_of_ble_eq_true rfl) dX2_set_17 ⟨Nat.zero_le _, Nat.zero_le _⟩ (fun u H locs hw hP hD hS => ?_)
    subst hw
    have hP : va_P (dC, dI) vwCl (wG g0 r0 p0 ++ (wP cI r0 p0 p1 p2 p3 p4 p5 p6 ((assignF ma le (rj x) 0 v g ki va sp sg sk sv sc og te ke).1) ((assignF ma le (rj x) 0 v g ki va sp sg sk sv sc og te ke).2.1) ((assignF ma le (rj x) 0 v g ki va sp sg sk sv sc og te ke).2.2.1) ((assignF ma le (rj x) 0 v g ki va sp sg sk sv sc og te ke).2.2.2.1) ((assignF ma le (rj x) 0 v g ki va sp sg sk sv sc og te ke).2.2.2.2.1) ((assignF ma le (rj x) 0 v g ki va sp sg sk sv sc og te ke).2.2.2.2.2.1) ((assignF ma le (rj x) 0 v g ki va sp sg sk sv sc og te ke).2.2.2.2.2.2.1) og ++ wR cI r0 r1 r2 r3 r4 nu st le ((assignF ma le (rj x) 0 v g ki va sp sg sk sv sc og te ke).2.2.2.2.2.2.2.1) ma ds dl ((assignF ma le (rj x) 0 v g ki va sp sg sk sv sc og te ke).2.2.2.2.2.2.2.2))) _ := hP
    have hD : va_D A (wG g0 r0 p0 ++ (wP cI r0 p0 p1 p2 p3 p4 p5 p6 ((assignF ma le (rj x) 0 v g ki va sp sg sk sv sc og te ke).1) ((assignF ma le (rj x) 0 v g ki va sp sg sk sv sc og te ke).2.1) ((assignF ma le (rj x) 0 v g ki va sp sg sk sv sc og te ke).2.2.1) ((assignF ma le (rj x) 0 v g ki va sp sg sk sv sc og te ke).2.2.2.1) ((assignF ma le (rj x) 0 v g ki va sp sg sk sv sc og te ke).2.2.2.2.1) ((assignF ma le (rj x) 0 v g ki va sp sg sk sv sc og te ke).2.2.2.2.2.1) ((assignF ma le (rj x) 0 v g ki va sp sg sk sv sc og te ke).2.2.2.2.2.2.1) og ++ wR cI r0 r1 r2 r3 r4 nu st le ((assignF ma le (rj x) 0 v g ki va sp sg sk sv sc og te ke).2.2.2.2.2.2.2.1) ma ds dl ((assignF ma le (rj x) 0 v g ki va sp sg sk sv sc og te ke).2.2.2.2.2.2.2.2))) := hD
    refine lv_iconst (v := 1) hx hb dX2_set_20 (by decide) ?_
    exact hret 1 (((assignF ma le (rj x) 0 v g ki va sp sg sk sv sc og te ke).1, (assignF ma le (rj x) 0 v g ki va sp sg sk sv sc og te ke).2.1, (assignF ma le (rj x) 0 v g ki va sp sg sk sv sc og te ke).2.2.1, (assignF ma le (rj x) 0 v g ki va sp sg sk sv sc og te ke).2.2.2.1, (assignF ma le (rj x) 0 v g ki va sp sg sk sv sc og te ke).2.2.2.2.1, (assignF ma le (rj x) 0 v g ki va sp sg sk sv sc og te ke).2.2.2.2.2.1, (assignF ma le (rj x) 0 v g ki va sp sg sk sv sc og te ke).2.2.2.2.2.2.1, og, nu, st, le, (assignF ma le (rj x) 0 v g ki va sp sg sk sv sc og te ke).2.2.2.2.2.2.2.1, ma, ds, dl, (assignF ma le (rj x) 0 v g ki va sp sg sk sv sc og te ke).2.2.2.2.2.2.2.2)) (rfl) (by unfold dSet; rw [if_pos hj]; exact ⟨rfl, rfl⟩) hP hD hS dX2_set_21
  · have hj := b2i_0 c4
    refine lv_iconst (v := 0) hx hb dX2_set_7 (by decide) ?_
    exact hret 0 ((ki, va, sp, sg, sk, sv, sc, og, nu, st, le, te, ma, ds, dl, ke)) (rfl) (by unfold dSet; rw [if_neg (by rw [hj]; decide)]; exact ⟨rfl, rfl⟩) hP hD hS dX2_set_8
set_option maxHeartbeats 4000000 in
set_option maxRecDepth 100000 in
theorem c_X2_mean (l : Launch) (dC : Nat → ClassId) (dI : Nat → Nat → Nat) (g0 r0 p0 : Nat) (cI : ClassId) (p1 p2 p3 p4 p5 p6 : Nat) (ki va : Nat → Int32) (sp sg : Nat → Nat) (sk sv : Nat → Int32) (sc og r1 r2 r3 r4 : Nat) (nu : Nat → Int32) (st le : Nat → Nat) (te : Nat → Int32) (ma ds dl : Nat) (ke : Int32) (x k v g : Int32) (hm : ma ≤ 513) (hsc : sc ≤ 512) (hog : og < 2 ^ 31) (hsg : ∀ j, j < sc → sg j < 2 ^ 31) (hsp : ∀ j, j < sc → sp j < 3367) : mWi l yX2_mean wsX2_mean ({ frames := 5, cells := 0, slots := 0, locals := 111 }) (dC, dI) cI [.ref g0, .int x, .int k, .int v, .int g] (wG g0 r0 p0 ++ (wP cI r0 p0 p1 p2 p3 p4 p5 p6 ki va sp sg sk sv sc og ++ wR cI r0 r1 r2 r3 r4 nu st le te ma ds dl ke)) (fun r u => r = (dMean x k v g (ki, va, sp, sg, sk, sv, sc, og, nu, st, le, te, ma, ds, dl, ke)).1 ∧ u = (dMean x k v g (ki, va, sp, sg, sk, sv, sc, og, nu, st, le, te, ma, ds, dl, ke)).2) (fun u : DS => wG g0 r0 p0 ++ (wP cI r0 p0 p1 p2 p3 p4 p5 p6 u.1 u.2.1 u.2.2.1 u.2.2.2.1 u.2.2.2.2.1 u.2.2.2.2.2.1 u.2.2.2.2.2.2.1 u.2.2.2.2.2.2.2.1 ++ wR cI r0 r1 r2 r3 r4 u.2.2.2.2.2.2.2.2.1 u.2.2.2.2.2.2.2.2.2.1 u.2.2.2.2.2.2.2.2.2.2.1 u.2.2.2.2.2.2.2.2.2.2.2.1 u.2.2.2.2.2.2.2.2.2.2.2.2.1 u.2.2.2.2.2.2.2.2.2.2.2.2.2.1 u.2.2.2.2.2.2.2.2.2.2.2.2.2.2.1 u.2.2.2.2.2.2.2.2.2.2.2.2.2.2.2)) := by
  refine m_ofWi (cc := cX2_mean) (maxL := 5) (by decide) rfl (Nat.le_of_ble_eq_true rfl) ?_
  intro p e s m args below meth c ls A Q hx hb hts hown hml hP hK hD hA hS hl hret
  have hown : s.vm.findClass RX2 = some m.cls := hown
  have hl : lv_has ls 5 [(0, .ref g0), (1, .int x), (2, .int k), (3, .int v), (4, .int g)] := hl
  have l21 := hts (.fieldLink RX2 21 "GroupDesk" "places" "LGroupDesk$Places;") (by decide +kernel)
  have iX2 : ∀ w ∈ u_ws RX2 TX2 2, w ∈ wsX2_mean := by decide +kernel
  refine lv_iload_n hx hb dX2_mean_0 rfl (lv_at hl 1 rfl) ?_
  refine m_rS (As := [.int x]) (rest := []) ⟨hx, hb, hml, hown, hts⟩ (c_X2_isName l dC dI cI x) (va_cwS 1 hts gX2_mean_X2_isName rfl rfl rfl (by decide +kernel) ⟨Nat.le_of_ble_eq_true rfl, Nat.le_of_ble_eq_true rfl⟩) ma_nil hK rfl hl.1 rfl (Nat.le_of_ble_eq_true rfl) dX2_mean_1 ⟨Nat.zero_le _, Nat.zero_le _⟩ (fun r hw => ?_)
  subst hw
  refine lv_if_eq (tgt := 14) hx hb dX2_mean_4 (by decide) (fun c4 => ?_) (fun c4 => ?_)
  · have hj := b2i_0 c4
    refine lv_iconst (v := 0) hx hb dX2_mean_14 (by decide) ?_
    exact hret 0 ((ki, va, sp, sg, sk, sv, sc, og, nu, st, le, te, ma, ds, dl, ke)) (rfl) (by unfold dMean; rw [if_neg (by rw [hj, Bool.false_and]; decide)]; exact ⟨rfl, rfl⟩) hP hD hS dX2_mean_15
  · have hj := b2i_n c4
    have hix := isR_of (by decide) hj
    have h7 := hix.1
    refine lv_iload_n hx hb dX2_mean_7 rfl (lv_at hl 2 rfl) ?_
    refine m_rS (As := [.int k]) (rest := []) ⟨hx, hb, hml, hown, hts⟩ (c_X2_isKindWithInt l dC dI cI k) (va_cwS 1 hts gX2_mean_X2_isKindWithInt rfl rfl rfl (by decide +kernel) ⟨Nat.le_of_ble_eq_true rfl, Nat.le_of_ble_eq_true rfl⟩) ma_nil hK rfl hl.1 rfl (Nat.le_of_ble_eq_true rfl) dX2_mean_8 ⟨Nat.zero_le _, Nat.zero_le _⟩ (fun r hw => ?_)
    subst hw
    refine lv_if_ne (tgt := 16) hx hb dX2_mean_11 (by decide) (fun c11 => ?_) (fun c11 => ?_)
    · refine lv_aload_n hx hb dX2_mean_16 rfl (lv_at hl 0 rfl) ?_
      refine va_get (D := (dC, dI)) (ci := 2) (v := .ref p0) (C := RX2) (T := TX2) (N := 2) hx hb hts iX2 hown hK hP 0 rfl rfl 1 (by decide) l21 (fun _ h9 => h9) rfl dX2_mean_17 ?_
      refine lv_sipush (v := nI 2366) hx hb dX2_mean_20 (by decide) ?_
      refine lv_iload_n hx hb dX2_mean_23 rfl (lv_at hl 1 rfl) ?_
      refine lv_iadd hx hb dX2_mean_24 ?_
      refine mv_top (v := nI (2366 + rj x)) (by rw [hix.2, rj_nI (by have := hix.1; omega)]; exact nI_add 2366 _) ?_
      refine lv_iload_n hx hb dX2_mean_25 rfl (lv_at hl 2 rfl) ?_
      refine lv_iload_n hx hb dX2_mean_26 rfl (lv_at hl 3 rfl) ?_
      refine lv_iload hx hb dX2_mean_27 (lv_at hl 4 rfl) ?_
      have hP : va_P (dC, dI) vwCl ((wG g0 r0 p0) ++ (wP cI r0 p0 p1 p2 p3 p4 p5 p6 ki va sp sg sk sv sc og ++ wR cI r0 r1 r2 r3 r4 nu st le te ma ds dl ke)) _ := hP
      have hD : va_D A ((wG g0 r0 p0) ++ (wP cI r0 p0 p1 p2 p3 p4 p5 p6 ki va sp sg sk sv sc og ++ wR cI r0 r1 r2 r3 r4 nu st le te ma ds dl ke)) := hD
      refine m_wVv (As := [.int (nI (2366 + rj x)), .int k, .int v, .int g]) (rest := []) ⟨hx, hb, hml, hown, hts⟩ (c_X0_assign l dC dI cI r0 p0 p1 p2 p3 p4 p5 p6 ki va sp sg sk sv sc og r1 r2 r3 r4 nu st le te ma ds dl ke (2366 + rj x) k v g hm (by omega) hsc hog hsg (fun j h => Nat.lt_trans (hsp j h) (by decide))) (cwV 4 hts gX2_mean_X0_assign rfl rfl rfl (by decide +kernel) ⟨Nat.le_of_ble_eq_true rfl, Nat.le_of_ble_eq_true rfl⟩) hP hK hD hS hA 0 0 rfl rfl rfl hl.1 rfl (Nat.le_of_ble_eq_true rfl) dX2_mean_29 ⟨Nat.zero_le _, Nat.zero_le _⟩ (fun u H locs hw hP hD hS => ?_)
      subst hw
      have hP : va_P (dC, dI) vwCl (wG g0 r0 p0 ++ (wP cI r0 p0 p1 p2 p3 p4 p5 p6 ((assignF ma le (2366 + rj x) k v g ki va sp sg sk sv sc og te ke).1) ((assignF ma le (2366 + rj x) k v g ki va sp sg sk sv sc og te ke).2.1) ((assignF ma le (2366 + rj x) k v g ki va sp sg sk sv sc og te ke).2.2.1) ((assignF ma le (2366 + rj x) k v g ki va sp sg sk sv sc og te ke).2.2.2.1) ((assignF ma le (2366 + rj x) k v g ki va sp sg sk sv sc og te ke).2.2.2.2.1) ((assignF ma le (2366 + rj x) k v g ki va sp sg sk sv sc og te ke).2.2.2.2.2.1) ((assignF ma le (2366 + rj x) k v g ki va sp sg sk sv sc og te ke).2.2.2.2.2.2.1) og ++ wR cI r0 r1 r2 r3 r4 nu st le ((assignF ma le (2366 + rj x) k v g ki va sp sg sk sv sc og te ke).2.2.2.2.2.2.2.1) ma ds dl ((assignF ma le (2366 + rj x) k v g ki va sp sg sk sv sc og te ke).2.2.2.2.2.2.2.2))) _ := hP
      have hD : va_D A (wG g0 r0 p0 ++ (wP cI r0 p0 p1 p2 p3 p4 p5 p6 ((assignF ma le (2366 + rj x) k v g ki va sp sg sk sv sc og te ke).1) ((assignF ma le (2366 + rj x) k v g ki va sp sg sk sv sc og te ke).2.1) ((assignF ma le (2366 + rj x) k v g ki va sp sg sk sv sc og te ke).2.2.1) ((assignF ma le (2366 + rj x) k v g ki va sp sg sk sv sc og te ke).2.2.2.1) ((assignF ma le (2366 + rj x) k v g ki va sp sg sk sv sc og te ke).2.2.2.2.1) ((assignF ma le (2366 + rj x) k v g ki va sp sg sk sv sc og te ke).2.2.2.2.2.1) ((assignF ma le (2366 + rj x) k v g ki va sp sg sk sv sc og te ke).2.2.2.2.2.2.1) og ++ wR cI r0 r1 r2 r3 r4 nu st le ((assignF ma le (2366 + rj x) k v g ki va sp sg sk sv sc og te ke).2.2.2.2.2.2.2.1) ma ds dl ((assignF ma le (2366 + rj x) k v g ki va sp sg sk sv sc og te ke).2.2.2.2.2.2.2.2))) := hD
      refine lv_iconst (v := 1) hx hb dX2_mean_32 (by decide) ?_
      exact hret 1 (((assignF ma le (2366 + rj x) k v g ki va sp sg sk sv sc og te ke).1, (assignF ma le (2366 + rj x) k v g ki va sp sg sk sv sc og te ke).2.1, (assignF ma le (2366 + rj x) k v g ki va sp sg sk sv sc og te ke).2.2.1, (assignF ma le (2366 + rj x) k v g ki va sp sg sk sv sc og te ke).2.2.2.1, (assignF ma le (2366 + rj x) k v g ki va sp sg sk sv sc og te ke).2.2.2.2.1, (assignF ma le (2366 + rj x) k v g ki va sp sg sk sv sc og te ke).2.2.2.2.2.1, (assignF ma le (2366 + rj x) k v g ki va sp sg sk sv sc og te ke).2.2.2.2.2.2.1, og, nu, st, le, (assignF ma le (2366 + rj x) k v g ki va sp sg sk sv sc og te ke).2.2.2.2.2.2.2.1, ma, ds, dl, (assignF ma le (2366 + rj x) k v g ki va sp sg sk sv sc og te ke).2.2.2.2.2.2.2.2)) (rfl) (by unfold dMean; rw [if_pos (by rw [hj, b2i_n c11]; rfl)]; exact ⟨rfl, rfl⟩) hP hD hS dX2_mean_33
    · refine lv_iconst (v := 0) hx hb dX2_mean_14 (by decide) ?_
      exact hret 0 ((ki, va, sp, sg, sk, sv, sc, og, nu, st, le, te, ma, ds, dl, ke)) (rfl) (by unfold dMean; rw [if_neg (by rw [b2i_0 c11, Bool.and_false]; decide)]; exact ⟨rfl, rfl⟩) hP hD hS dX2_mean_15
set_option maxHeartbeats 4000000 in
set_option maxRecDepth 100000 in
theorem c_X2_draft (l : Launch) (dC : Nat → ClassId) (dI : Nat → Nat → Nat) (g0 r0 p0 : Nat) (cI : ClassId) (p1 p2 p3 p4 p5 p6 : Nat) (ki va : Nat → Int32) (sp sg : Nat → Nat) (sk sv : Nat → Int32) (sc og r1 r2 r3 r4 : Nat) (nu : Nat → Int32) (st le : Nat → Nat) (te : Nat → Int32) (ma ds dl : Nat) (ke : Int32) (v : Int32) (hd : ds + dl ≤ 512) : mWi l yX2_draft wsX2_draft ({ frames := 1, cells := 0, slots := 0, locals := 22 }) (dC, dI) cI [.ref g0, .int v] (wG g0 r0 p0 ++ (wP cI r0 p0 p1 p2 p3 p4 p5 p6 ki va sp sg sk sv sc og ++ wR cI r0 r1 r2 r3 r4 nu st le te ma ds dl ke)) (fun r u => r = (dDraft v (ki, va, sp, sg, sk, sv, sc, og, nu, st, le, te, ma, ds, dl, ke)).1 ∧ u = (dDraft v (ki, va, sp, sg, sk, sv, sc, og, nu, st, le, te, ma, ds, dl, ke)).2) (fun u : DS => wG g0 r0 p0 ++ (wP cI r0 p0 p1 p2 p3 p4 p5 p6 u.1 u.2.1 u.2.2.1 u.2.2.2.1 u.2.2.2.2.1 u.2.2.2.2.2.1 u.2.2.2.2.2.2.1 u.2.2.2.2.2.2.2.1 ++ wR cI r0 r1 r2 r3 r4 u.2.2.2.2.2.2.2.2.1 u.2.2.2.2.2.2.2.2.2.1 u.2.2.2.2.2.2.2.2.2.2.1 u.2.2.2.2.2.2.2.2.2.2.2.1 u.2.2.2.2.2.2.2.2.2.2.2.2.1 u.2.2.2.2.2.2.2.2.2.2.2.2.2.1 u.2.2.2.2.2.2.2.2.2.2.2.2.2.2.1 u.2.2.2.2.2.2.2.2.2.2.2.2.2.2.2)) := by
  refine m_ofWi (cc := cX2_draft) (maxL := 2) (by decide) rfl (Nat.le_of_ble_eq_true rfl) ?_
  intro p e s m args below meth c ls A Q hx hb hts hown hml hP hK hD hA hS hl hret
  have hown : s.vm.findClass RX2 = some m.cls := hown
  have hl : lv_has ls 2 [(0, .ref g0), (1, .int v)] := hl
  have l12 := hts (.fieldLink RX2 12 "GroupDesk" "rows" "LGroupDesk$Rows;") (by decide +kernel)
  have iX2 : ∀ w ∈ u_ws RX2 TX2 2, w ∈ wsX2_draft := by decide +kernel
  refine lv_aload_n hx hb dX2_draft_0 rfl (lv_at hl 0 rfl) ?_
  refine va_get (D := (dC, dI)) (ci := 2) (v := .ref r0) (C := RX2) (T := TX2) (N := 2) hx hb hts iX2 hown hK hP 0 rfl rfl 0 (by decide) l12 (fun _ h9 => h9) rfl dX2_draft_1 ?_
  refine lv_iload_n hx hb dX2_draft_4 rfl (lv_at hl 1 rfl) ?_
  have hP : va_P (dC, dI) vwCl ((wG g0 r0 p0 ++ wP cI r0 p0 p1 p2 p3 p4 p5 p6 ki va sp sg sk sv sc og) ++ (wR cI r0 r1 r2 r3 r4 nu st le te ma ds dl ke)) _ := hP
  have hD : va_D A ((wG g0 r0 p0 ++ wP cI r0 p0 p1 p2 p3 p4 p5 p6 ki va sp sg sk sv sc og) ++ (wR cI r0 r1 r2 r3 r4 nu st le te ma ds dl ke)) := hD
  refine m_wVi (As := [.int v]) (rest := []) ⟨hx, hb, hml, hown, hts⟩ (c_X1_join l dC dI cI r0 r1 r2 r3 r4 nu st le te ma ds dl ke v (by omega)) (cwV 1 hts gX2_draft_X1_join rfl rfl rfl (by decide +kernel) ⟨Nat.le_of_ble_eq_true rfl, Nat.le_of_ble_eq_true rfl⟩) hP hK hD hS hA 1 0 rfl rfl rfl hl.1 rfl (Nat.le_of_ble_eq_true rfl) dX2_draft_5 ⟨Nat.zero_le _, Nat.zero_le _⟩ (fun r u H locs hw hP hD hS => ?_)
  obtain ⟨rfl, rfl⟩ := hw
  have hP : va_P (dC, dI) vwCl (wG g0 r0 p0 ++ (wP cI r0 p0 p1 p2 p3 p4 p5 p6 ki va sp sg sk sv sc og ++ wR cI r0 r1 r2 r3 r4 ((joinF nu ds dl v).2.1) st le te ma ds ((joinF nu ds dl v).2.2) ke)) _ := hP
  have hD : va_D A (wG g0 r0 p0 ++ (wP cI r0 p0 p1 p2 p3 p4 p5 p6 ki va sp sg sk sv sc og ++ wR cI r0 r1 r2 r3 r4 ((joinF nu ds dl v).2.1) st le te ma ds ((joinF nu ds dl v).2.2) ke)) := hD
  exact hret ((joinF nu ds dl v).1) ((ki, va, sp, sg, sk, sv, sc, og, (joinF nu ds dl v).2.1, st, le, te, ma, ds, (joinF nu ds dl v).2.2, ke)) (jn_z _ _ _ _) (⟨rfl, rfl⟩) hP hD hS dX2_draft_8
theorem atP_nI (f : Nat → Int32) {j : Nat} (h : j < 3367) : atP f (nI j) = f j := by
  unfold atP
  rw [isR_nI (by decide) h, rj_nI (by omega)]
  rfl
set_option maxHeartbeats 4000000 in
set_option maxRecDepth 100000 in
theorem c_X2_let (l : Launch) (dC : Nat → ClassId) (dI : Nat → Nat → Nat) (g0 r0 p0 : Nat) (cI : ClassId) (p1 p2 p3 p4 p5 p6 : Nat) (ki va : Nat → Int32) (sp sg : Nat → Nat) (sk sv : Nat → Int32) (sc og r1 r2 r3 r4 : Nat) (nu : Nat → Int32) (st le : Nat → Nat) (te : Nat → Int32) (ma ds dl : Nat) (ke : Int32) (x y g : Int32) (hm : ma ≤ 513) (hsc : sc ≤ 512) (hog : og < 2 ^ 31) (hsg : ∀ j, j < sc → sg j < 2 ^ 31) (hsp : ∀ j, j < sc → sp j < 3367) : mWi l yX2_let wsX2_let ({ frames := 5, cells := 0, slots := 0, locals := 111 }) (dC, dI) cI [.ref g0, .int x, .int y, .int g] (wG g0 r0 p0 ++ (wP cI r0 p0 p1 p2 p3 p4 p5 p6 ki va sp sg sk sv sc og ++ wR cI r0 r1 r2 r3 r4 nu st le te ma ds dl ke)) (fun r u => r = (dLet x y g (ki, va, sp, sg, sk, sv, sc, og, nu, st, le, te, ma, ds, dl, ke)).1 ∧ u = (dLet x y g (ki, va, sp, sg, sk, sv, sc, og, nu, st, le, te, ma, ds, dl, ke)).2) (fun u : DS => wG g0 r0 p0 ++ (wP cI r0 p0 p1 p2 p3 p4 p5 p6 u.1 u.2.1 u.2.2.1 u.2.2.2.1 u.2.2.2.2.1 u.2.2.2.2.2.1 u.2.2.2.2.2.2.1 u.2.2.2.2.2.2.2.1 ++ wR cI r0 r1 r2 r3 r4 u.2.2.2.2.2.2.2.2.1 u.2.2.2.2.2.2.2.2.2.1 u.2.2.2.2.2.2.2.2.2.2.1 u.2.2.2.2.2.2.2.2.2.2.2.1 u.2.2.2.2.2.2.2.2.2.2.2.2.1 u.2.2.2.2.2.2.2.2.2.2.2.2.2.1 u.2.2.2.2.2.2.2.2.2.2.2.2.2.2.1 u.2.2.2.2.2.2.2.2.2.2.2.2.2.2.2)) := by
  refine m_ofWi (cc := cX2_let) (maxL := 5) (by decide) rfl (Nat.le_of_ble_eq_true rfl) ?_
  intro p e s m args below meth c ls A Q hx hb hts hown hml hP hK hD hA hS hl hret
  have hown : s.vm.findClass RX2 = some m.cls := hown
  have hl : lv_has ls 5 [(0, .ref g0), (1, .int x), (2, .int y), (3, .int g)] := hl
  have l21 := hts (.fieldLink RX2 21 "GroupDesk" "places" "LGroupDesk$Places;") (by decide +kernel)
  have iX2 : ∀ w ∈ u_ws RX2 TX2 2, w ∈ wsX2_let := by decide +kernel
  refine lv_iload_n hx hb dX2_let_0 rfl (lv_at hl 1 rfl) ?_
  refine m_rS (As := [.int x]) (rest := []) ⟨hx, hb, hml, hown, hts⟩ (c_X2_isName l dC dI cI x) (va_cwS 1 hts gX2_let_X2_isName rfl rfl rfl (by decide +kernel) ⟨Nat.le_of_ble_eq_true rfl, Nat.le_of_ble_eq_true rfl⟩) ma_nil hK rfl hl.1 rfl (Nat.le_of_ble_eq_true rfl) dX2_let_1 ⟨Nat.zero_le _, Nat.zero_le _⟩ (fun r hw => ?_)
  subst hw
  refine lv_if_eq (tgt := 14) hx hb dX2_let_4 (by decide) (fun c4 => ?_) (fun c4 => ?_)
  · have hj := b2i_0 c4
    refine lv_iconst (v := 0) hx hb dX2_let_14 (by decide) ?_
    exact hret 0 ((ki, va, sp, sg, sk, sv, sc, og, nu, st, le, te, ma, ds, dl, ke)) (rfl) (by unfold dLet; rw [if_neg (by rw [hj, Bool.false_and]; decide)]; exact ⟨rfl, rfl⟩) hP hD hS dX2_let_15
  · have hj := b2i_n c4
    have hix := isR_of (by decide) hj
    have h7 := hix.1
    refine lv_iload_n hx hb dX2_let_7 rfl (lv_at hl 2 rfl) ?_
    refine m_rS (As := [.int y]) (rest := []) ⟨hx, hb, hml, hown, hts⟩ (c_X2_isName l dC dI cI y) (va_cwS 1 hts gX2_let_X2_isName rfl rfl rfl (by decide +kernel) ⟨Nat.le_of_ble_eq_true rfl, Nat.le_of_ble_eq_true rfl⟩) ma_nil hK rfl hl.1 rfl (Nat.le_of_ble_eq_true rfl) dX2_let_8 ⟨Nat.zero_le _, Nat.zero_le _⟩ (fun r hw => ?_)
    subst hw
    refine lv_if_ne (tgt := 16) hx hb dX2_let_11 (by decide) (fun c11 => ?_) (fun c11 => ?_)
    · have hj2 := b2i_n c11
      have hiy := isR_of (by decide) hj2
      have h8 := hiy.1
      refine lv_sipush (v := nI 2366) hx hb dX2_let_16 (by decide) ?_
      refine lv_iload_n hx hb dX2_let_19 rfl (lv_at hl 2 rfl) ?_
      refine lv_iadd hx hb dX2_let_20 ?_
      refine mv_top (v := nI (2366 + rj y)) (by rw [hiy.2, rj_nI (by have := hiy.1; omega)]; exact nI_add 2366 _) ?_
      refine lv_istore (lv' := [(4, .int (nI (2366 + rj y))), (0, .ref g0), (1, .int x), (2, .int y), (3, .int g)]) hx hb dX2_let_21 hl (by decide) rfl (fun ls hl => ?_)
      refine lv_aload_n hx hb dX2_let_23 rfl (lv_at hl 1 rfl) ?_
      refine va_get (D := (dC, dI)) (ci := 2) (v := .ref p0) (C := RX2) (T := TX2) (N := 2) hx hb hts iX2 hown hK hP 0 rfl rfl 1 (by decide) l21 (fun _ h9 => h9) rfl dX2_let_24 ?_
      refine lv_sipush (v := nI 2366) hx hb dX2_let_27 (by decide) ?_
      refine lv_iload_n hx hb dX2_let_30 rfl (lv_at hl 2 rfl) ?_
      refine lv_iadd hx hb dX2_let_31 ?_
      refine mv_top (v := nI (2366 + rj x)) (by rw [hix.2, rj_nI (by have := hix.1; omega)]; exact nI_add 2366 _) ?_
      refine lv_aload_n hx hb dX2_let_32 rfl (lv_at hl 1 rfl) ?_
      refine va_get (D := (dC, dI)) (ci := 2) (v := .ref p0) (C := RX2) (T := TX2) (N := 2) hx hb hts iX2 hown hK hP 0 rfl rfl 1 (by decide) l21 (fun _ h9 => h9) rfl dX2_let_33 ?_
      refine lv_iload hx hb dX2_let_36 (lv_at hl 0 rfl) ?_
      refine m_rV (As := [.int (nI (2366 + rj y))]) (rest := [.int (nI (2366 + rj x)), .ref p0]) ⟨hx, hb, hml, hown, hts⟩ (c_X0_kindAt l dC dI cI r0 p0 p1 p2 p3 p4 p5 p6 ki va sp sg sk sv sc og (nI (2366 + rj y))) (cwV 1 hts gX2_let_X0_kindAt rfl rfl rfl (by decide +kernel) ⟨Nat.le_of_ble_eq_true rfl, Nat.le_of_ble_eq_true rfl⟩) (ma_Pl (ma_P hP)) hK 0 0 rfl rfl rfl hl.1 rfl (Nat.le_of_ble_eq_true rfl) dX2_let_38 ⟨Nat.zero_le _, Nat.zero_le _⟩ (fun r hw => ?_)
      subst hw
      refine mv_top (v := ki (2366 + rj y)) (atP_nI _ (by omega)) ?_
      refine lv_aload_n hx hb dX2_let_41 rfl (lv_at hl 1 rfl) ?_
      refine va_get (D := (dC, dI)) (ci := 2) (v := .ref p0) (C := RX2) (T := TX2) (N := 2) hx hb hts iX2 hown hK hP 0 rfl rfl 1 (by decide) l21 (fun _ h9 => h9) rfl dX2_let_42 ?_
      refine lv_iload hx hb dX2_let_45 (lv_at hl 0 rfl) ?_
      refine m_rV (As := [.int (nI (2366 + rj y))]) (rest := [.int (ki (2366 + rj y)), .int (nI (2366 + rj x)), .ref p0]) ⟨hx, hb, hml, hown, hts⟩ (c_X0_valueAt l dC dI cI r0 p0 p1 p2 p3 p4 p5 p6 ki va sp sg sk sv sc og (nI (2366 + rj y))) (cwV 1 hts gX2_let_X0_valueAt rfl rfl rfl (by decide +kernel) ⟨Nat.le_of_ble_eq_true rfl, Nat.le_of_ble_eq_true rfl⟩) (ma_Pl (ma_P hP)) hK 0 0 rfl rfl rfl hl.1 rfl (Nat.le_of_ble_eq_true rfl) dX2_let_47 ⟨Nat.zero_le _, Nat.zero_le _⟩ (fun r hw => ?_)
      subst hw
      refine mv_top (v := va (2366 + rj y)) (atP_nI _ (by omega)) ?_
      refine lv_iload_n hx hb dX2_let_50 rfl (lv_at hl 4 rfl) ?_
      have hP : va_P (dC, dI) vwCl ((wG g0 r0 p0) ++ (wP cI r0 p0 p1 p2 p3 p4 p5 p6 ki va sp sg sk sv sc og ++ wR cI r0 r1 r2 r3 r4 nu st le te ma ds dl ke)) _ := hP
      have hD : va_D A ((wG g0 r0 p0) ++ (wP cI r0 p0 p1 p2 p3 p4 p5 p6 ki va sp sg sk sv sc og ++ wR cI r0 r1 r2 r3 r4 nu st le te ma ds dl ke)) := hD
      refine m_wVv (As := [.int (nI (2366 + rj x)), .int (ki (2366 + rj y)), .int (va (2366 + rj y)), .int g]) (rest := []) ⟨hx, hb, hml, hown, hts⟩ (c_X0_assign l dC dI cI r0 p0 p1 p2 p3 p4 p5 p6 ki va sp sg sk sv sc og r1 r2 r3 r4 nu st le te ma ds dl ke (2366 + rj x) (ki (2366 + rj y)) (va (2366 + rj y)) g hm (by omega) hsc hog hsg (fun j h => Nat.lt_trans (hsp j h) (by decide))) (cwV 4 hts gX2_let_X0_assign rfl rfl rfl (by decide +kernel) ⟨Nat.le_of_ble_eq_true rfl, Nat.le_of_ble_eq_true rfl⟩) hP hK hD hS hA 0 0 rfl rfl rfl hl.1 rfl (Nat.le_of_ble_eq_true rfl) dX2_let_51 ⟨Nat.zero_le _, Nat.zero_le _⟩ (fun u H locs hw hP hD hS => ?_)
      subst hw
      have hP : va_P (dC, dI) vwCl (wG g0 r0 p0 ++ (wP cI r0 p0 p1 p2 p3 p4 p5 p6 ((assignF ma le (2366 + rj x) (ki (2366 + rj y)) (va (2366 + rj y)) g ki va sp sg sk sv sc og te ke).1) ((assignF ma le (2366 + rj x) (ki (2366 + rj y)) (va (2366 + rj y)) g ki va sp sg sk sv sc og te ke).2.1) ((assignF ma le (2366 + rj x) (ki (2366 + rj y)) (va (2366 + rj y)) g ki va sp sg sk sv sc og te ke).2.2.1) ((assignF ma le (2366 + rj x) (ki (2366 + rj y)) (va (2366 + rj y)) g ki va sp sg sk sv sc og te ke).2.2.2.1) ((assignF ma le (2366 + rj x) (ki (2366 + rj y)) (va (2366 + rj y)) g ki va sp sg sk sv sc og te ke).2.2.2.2.1) ((assignF ma le (2366 + rj x) (ki (2366 + rj y)) (va (2366 + rj y)) g ki va sp sg sk sv sc og te ke).2.2.2.2.2.1) ((assignF ma le (2366 + rj x) (ki (2366 + rj y)) (va (2366 + rj y)) g ki va sp sg sk sv sc og te ke).2.2.2.2.2.2.1) og ++ wR cI r0 r1 r2 r3 r4 nu st le ((assignF ma le (2366 + rj x) (ki (2366 + rj y)) (va (2366 + rj y)) g ki va sp sg sk sv sc og te ke).2.2.2.2.2.2.2.1) ma ds dl ((assignF ma le (2366 + rj x) (ki (2366 + rj y)) (va (2366 + rj y)) g ki va sp sg sk sv sc og te ke).2.2.2.2.2.2.2.2))) _ := hP
      have hD : va_D A (wG g0 r0 p0 ++ (wP cI r0 p0 p1 p2 p3 p4 p5 p6 ((assignF ma le (2366 + rj x) (ki (2366 + rj y)) (va (2366 + rj y)) g ki va sp sg sk sv sc og te ke).1) ((assignF ma le (2366 + rj x) (ki (2366 + rj y)) (va (2366 + rj y)) g ki va sp sg sk sv sc og te ke).2.1) ((assignF ma le (2366 + rj x) (ki (2366 + rj y)) (va (2366 + rj y)) g ki va sp sg sk sv sc og te ke).2.2.1) ((assignF ma le (2366 + rj x) (ki (2366 + rj y)) (va (2366 + rj y)) g ki va sp sg sk sv sc og te ke).2.2.2.1) ((assignF ma le (2366 + rj x) (ki (2366 + rj y)) (va (2366 + rj y)) g ki va sp sg sk sv sc og te ke).2.2.2.2.1) ((assignF ma le (2366 + rj x) (ki (2366 + rj y)) (va (2366 + rj y)) g ki va sp sg sk sv sc og te ke).2.2.2.2.2.1) ((assignF ma le (2366 + rj x) (ki (2366 + rj y)) (va (2366 + rj y)) g ki va sp sg sk sv sc og te ke).2.2.2.2.2.2.1) og ++ wR cI r0 r1 r2 r3 r4 nu st le ((assignF ma le (2366 + rj x) (ki (2366 + rj y)) (va (2366 + rj y)) g ki va sp sg sk sv sc og te ke).2.2.2.2.2.2.2.1) ma ds dl ((assignF ma le (2366 + rj x) (ki (2366 + rj y)) (va (2366 + rj y)) g ki va sp sg sk sv sc og te ke).2.2.2.2.2.2.2.2))) := hD
      refine lv_iconst (v := 1) hx hb dX2_let_54 (by decide) ?_
      exact hret 1 (((assignF ma le (2366 + rj x) (ki (2366 + rj y)) (va (2366 + rj y)) g ki va sp sg sk sv sc og te ke).1, (assignF ma le (2366 + rj x) (ki (2366 + rj y)) (va (2366 + rj y)) g ki va sp sg sk sv sc og te ke).2.1, (assignF ma le (2366 + rj x) (ki (2366 + rj y)) (va (2366 + rj y)) g ki va sp sg sk sv sc og te ke).2.2.1, (assignF ma le (2366 + rj x) (ki (2366 + rj y)) (va (2366 + rj y)) g ki va sp sg sk sv sc og te ke).2.2.2.1, (assignF ma le (2366 + rj x) (ki (2366 + rj y)) (va (2366 + rj y)) g ki va sp sg sk sv sc og te ke).2.2.2.2.1, (assignF ma le (2366 + rj x) (ki (2366 + rj y)) (va (2366 + rj y)) g ki va sp sg sk sv sc og te ke).2.2.2.2.2.1, (assignF ma le (2366 + rj x) (ki (2366 + rj y)) (va (2366 + rj y)) g ki va sp sg sk sv sc og te ke).2.2.2.2.2.2.1, og, nu, st, le, (assignF ma le (2366 + rj x) (ki (2366 + rj y)) (va (2366 + rj y)) g ki va sp sg sk sv sc og te ke).2.2.2.2.2.2.2.1, ma, ds, dl, (assignF ma le (2366 + rj x) (ki (2366 + rj y)) (va (2366 + rj y)) g ki va sp sg sk sv sc og te ke).2.2.2.2.2.2.2.2)) (rfl) (by unfold dLet; rw [if_pos (by rw [hj, hj2]; rfl)]; exact ⟨rfl, rfl⟩) hP hD hS dX2_let_55
    · have hj2 := b2i_0 c11
      refine lv_iconst (v := 0) hx hb dX2_let_14 (by decide) ?_
      exact hret 0 ((ki, va, sp, sg, sk, sv, sc, og, nu, st, le, te, ma, ds, dl, ke)) (rfl) (by unfold dLet; rw [if_neg (by rw [hj2, Bool.and_false]; decide)]; exact ⟨rfl, rfl⟩) hP hD hS dX2_let_15
set_option maxHeartbeats 4000000 in
set_option maxRecDepth 100000 in
theorem c_X2_shape (l : Launch) (dC : Nat → ClassId) (dI : Nat → Nat → Nat) (g0 r0 p0 : Nat) (cI : ClassId) (p1 p2 p3 p4 p5 p6 : Nat) (ki va : Nat → Int32) (sp sg : Nat → Nat) (sk sv : Nat → Int32) (sc og r1 r2 r3 r4 : Nat) (nu : Nat → Int32) (st le : Nat → Nat) (te : Nat → Int32) (ma ds dl : Nat) (ke : Int32) (g : Int32) (hm : ma ≤ 513) (hsc : sc ≤ 512) (hog : og < 2 ^ 31) (hsg : ∀ j, j < sc → sg j < 2 ^ 31) (hsp : ∀ j, j < sc → sp j < 3367) (hd : ds + dl ≤ 512) : mWi l yX2_shape wsX2_shape ({ frames := 5, cells := 0, slots := 0, locals := 111 }) (dC, dI) cI [.ref g0, .int g] (wG g0 r0 p0 ++ (wP cI r0 p0 p1 p2 p3 p4 p5 p6 ki va sp sg sk sv sc og ++ wR cI r0 r1 r2 r3 r4 nu st le te ma ds dl ke)) (fun r u => r = (dShape g (ki, va, sp, sg, sk, sv, sc, og, nu, st, le, te, ma, ds, dl, ke)).1 ∧ u = (dShape g (ki, va, sp, sg, sk, sv, sc, og, nu, st, le, te, ma, ds, dl, ke)).2) (fun u : DS => wG g0 r0 p0 ++ (wP cI r0 p0 p1 p2 p3 p4 p5 p6 u.1 u.2.1 u.2.2.1 u.2.2.2.1 u.2.2.2.2.1 u.2.2.2.2.2.1 u.2.2.2.2.2.2.1 u.2.2.2.2.2.2.2.1 ++ wR cI r0 r1 r2 r3 r4 u.2.2.2.2.2.2.2.2.1 u.2.2.2.2.2.2.2.2.2.1 u.2.2.2.2.2.2.2.2.2.2.1 u.2.2.2.2.2.2.2.2.2.2.2.1 u.2.2.2.2.2.2.2.2.2.2.2.2.1 u.2.2.2.2.2.2.2.2.2.2.2.2.2.1 u.2.2.2.2.2.2.2.2.2.2.2.2.2.2.1 u.2.2.2.2.2.2.2.2.2.2.2.2.2.2.2)) := by
  refine m_ofWi (cc := cX2_shape) (maxL := 3) (by decide) rfl (Nat.le_of_ble_eq_true rfl) ?_
  intro p e s m args below meth c ls A Q hx hb hts hown hml hP hK hD hA hS hl hret
  have hown : s.vm.findClass RX2 = some m.cls := hown
  have hl : lv_has ls 3 [(0, .ref g0), (1, .int g)] := hl
  have l12 := hts (.fieldLink RX2 12 "GroupDesk" "rows" "LGroupDesk$Rows;") (by decide +kernel)
  have l21 := hts (.fieldLink RX2 21 "GroupDesk" "places" "LGroupDesk$Places;") (by decide +kernel)
  have iX2 : ∀ w ∈ u_ws RX2 TX2 2, w ∈ wsX2_shape := by decide +kernel
  refine lv_aload_n hx hb dX2_shape_0 rfl (lv_at hl 0 rfl) ?_
  refine va_get (D := (dC, dI)) (ci := 2) (v := .ref r0) (C := RX2) (T := TX2) (N := 2) hx hb hts iX2 hown hK hP 0 rfl rfl 0 (by decide) l12 (fun _ h9 => h9) rfl dX2_shape_1 ?_
  have hP : va_P (dC, dI) vwCl ((wG g0 r0 p0 ++ wP cI r0 p0 p1 p2 p3 p4 p5 p6 ki va sp sg sk sv sc og) ++ (wR cI r0 r1 r2 r3 r4 nu st le te ma ds dl ke)) _ := hP
  have hD : va_D A ((wG g0 r0 p0 ++ wP cI r0 p0 p1 p2 p3 p4 p5 p6 ki va sp sg sk sv sc og) ++ (wR cI r0 r1 r2 r3 r4 nu st le te ma ds dl ke)) := hD
  refine m_wVi (As := []) (rest := []) ⟨hx, hb, hml, hown, hts⟩ (c_X1_takeDraft l dC dI cI r0 r1 r2 r3 r4 nu st le te ma ds dl ke hm hd) (cwV 0 hts gX2_shape_X1_takeDraft rfl rfl rfl (by decide +kernel) ⟨Nat.le_of_ble_eq_true rfl, Nat.le_of_ble_eq_true rfl⟩) hP hK hD hS hA 1 0 rfl rfl rfl hl.1 rfl (Nat.le_of_ble_eq_true rfl) dX2_shape_4 ⟨Nat.zero_le _, Nat.zero_le _⟩ (fun r u H locs hw hP hD hS => ?_)
  obtain ⟨rfl, rfl⟩ := hw
  have hP : va_P (dC, dI) vwCl (wG g0 r0 p0 ++ (wP cI r0 p0 p1 p2 p3 p4 p5 p6 ki va sp sg sk sv sc og ++ wR cI r0 r1 r2 r3 r4 nu ((takeF st le ma ds dl).2.1) ((takeF st le ma ds dl).2.2.1) te ((takeF st le ma ds dl).2.2.2.1) ((takeF st le ma ds dl).2.2.2.2.1) ((takeF st le ma ds dl).2.2.2.2.2) ke)) _ := hP
  have hD : va_D A (wG g0 r0 p0 ++ (wP cI r0 p0 p1 p2 p3 p4 p5 p6 ki va sp sg sk sv sc og ++ wR cI r0 r1 r2 r3 r4 nu ((takeF st le ma ds dl).2.1) ((takeF st le ma ds dl).2.2.1) te ((takeF st le ma ds dl).2.2.2.1) ((takeF st le ma ds dl).2.2.2.2.1) ((takeF st le ma ds dl).2.2.2.2.2) ke)) := hD
  refine lv_istore_n (lv' := [(2, .int ((takeF st le ma ds dl).1)), (0, .ref g0), (1, .int g)]) hx hb dX2_shape_7 rfl hl (by decide) rfl (fun ls hl => ?_)
  refine lv_aload_n hx hb dX2_shape_8 rfl (lv_at hl 1 rfl) ?_
  refine va_get (D := (dC, dI)) (ci := 2) (v := .ref p0) (C := RX2) (T := TX2) (N := 2) hx hb hts iX2 hown hK hP 0 rfl rfl 1 (by decide) l21 (fun _ h9 => h9) rfl dX2_shape_9 ?_
  refine lv_sipush (v := nI 3366) hx hb dX2_shape_12 (by decide) ?_
  refine lv_iconst (v := 0) hx hb dX2_shape_15 (by decide) ?_
  refine lv_iload_n hx hb dX2_shape_16 rfl (lv_at hl 0 rfl) ?_
  refine lv_iload_n hx hb dX2_shape_17 rfl (lv_at hl 2 rfl) ?_
  have hP : va_P (dC, dI) vwCl ((wG g0 r0 p0) ++ (wP cI r0 p0 p1 p2 p3 p4 p5 p6 ki va sp sg sk sv sc og ++ wR cI r0 r1 r2 r3 r4 nu ((takeF st le ma ds dl).2.1) ((takeF st le ma ds dl).2.2.1) te ((takeF st le ma ds dl).2.2.2.1) ((takeF st le ma ds dl).2.2.2.2.1) ((takeF st le ma ds dl).2.2.2.2.2) ke)) _ := hP
  have hD : va_D A ((wG g0 r0 p0) ++ (wP cI r0 p0 p1 p2 p3 p4 p5 p6 ki va sp sg sk sv sc og ++ wR cI r0 r1 r2 r3 r4 nu ((takeF st le ma ds dl).2.1) ((takeF st le ma ds dl).2.2.1) te ((takeF st le ma ds dl).2.2.2.1) ((takeF st le ma ds dl).2.2.2.2.1) ((takeF st le ma ds dl).2.2.2.2.2) ke)) := hD
  refine m_wVv (As := [.int (nI 3366), .int 0, .int ((takeF st le ma ds dl).1), .int g]) (rest := []) ⟨hx, hb, hml, hown, hts⟩ (c_X0_assign l dC dI cI r0 p0 p1 p2 p3 p4 p5 p6 ki va sp sg sk sv sc og r1 r2 r3 r4 nu ((takeF st le ma ds dl).2.1) ((takeF st le ma ds dl).2.2.1) te ((takeF st le ma ds dl).2.2.2.1) ((takeF st le ma ds dl).2.2.2.2.1) ((takeF st le ma ds dl).2.2.2.2.2) ke 3366 0 ((takeF st le ma ds dl).1) g (takeF_ma hm) (by omega) hsc hog hsg (fun j h => Nat.lt_trans (hsp j h) (by decide))) (cwV 4 hts gX2_shape_X0_assign rfl rfl rfl (by decide +kernel) ⟨Nat.le_of_ble_eq_true rfl, Nat.le_of_ble_eq_true rfl⟩) hP hK hD hS hA 0 0 rfl rfl rfl hl.1 rfl (Nat.le_of_ble_eq_true rfl) dX2_shape_18 ⟨Nat.zero_le _, Nat.zero_le _⟩ (fun u H locs hw hP hD hS => ?_)
  subst hw
  have hP : va_P (dC, dI) vwCl (wG g0 r0 p0 ++ (wP cI r0 p0 p1 p2 p3 p4 p5 p6 ((assignF ((takeF st le ma ds dl).2.2.2.1) ((takeF st le ma ds dl).2.2.1) 3366 0 ((takeF st le ma ds dl).1) g ki va sp sg sk sv sc og te ke).1) ((assignF ((takeF st le ma ds dl).2.2.2.1) ((takeF st le ma ds dl).2.2.1) 3366 0 ((takeF st le ma ds dl).1) g ki va sp sg sk sv sc og te ke).2.1) ((assignF ((takeF st le ma ds dl).2.2.2.1) ((takeF st le ma ds dl).2.2.1) 3366 0 ((takeF st le ma ds dl).1) g ki va sp sg sk sv sc og te ke).2.2.1) ((assignF ((takeF st le ma ds dl).2.2.2.1) ((takeF st le ma ds dl).2.2.1) 3366 0 ((takeF st le ma ds dl).1) g ki va sp sg sk sv sc og te ke).2.2.2.1) ((assignF ((takeF st le ma ds dl).2.2.2.1) ((takeF st le ma ds dl).2.2.1) 3366 0 ((takeF st le ma ds dl).1) g ki va sp sg sk sv sc og te ke).2.2.2.2.1) ((assignF ((takeF st le ma ds dl).2.2.2.1) ((takeF st le ma ds dl).2.2.1) 3366 0 ((takeF st le ma ds dl).1) g ki va sp sg sk sv sc og te ke).2.2.2.2.2.1) ((assignF ((takeF st le ma ds dl).2.2.2.1) ((takeF st le ma ds dl).2.2.1) 3366 0 ((takeF st le ma ds dl).1) g ki va sp sg sk sv sc og te ke).2.2.2.2.2.2.1) og ++ wR cI r0 r1 r2 r3 r4 nu ((takeF st le ma ds dl).2.1) ((takeF st le ma ds dl).2.2.1) ((assignF ((takeF st le ma ds dl).2.2.2.1) ((takeF st le ma ds dl).2.2.1) 3366 0 ((takeF st le ma ds dl).1) g ki va sp sg sk sv sc og te ke).2.2.2.2.2.2.2.1) ((takeF st le ma ds dl).2.2.2.1) ((takeF st le ma ds dl).2.2.2.2.1) ((takeF st le ma ds dl).2.2.2.2.2) ((assignF ((takeF st le ma ds dl).2.2.2.1) ((takeF st le ma ds dl).2.2.1) 3366 0 ((takeF st le ma ds dl).1) g ki va sp sg sk sv sc og te ke).2.2.2.2.2.2.2.2))) _ := hP
  have hD : va_D A (wG g0 r0 p0 ++ (wP cI r0 p0 p1 p2 p3 p4 p5 p6 ((assignF ((takeF st le ma ds dl).2.2.2.1) ((takeF st le ma ds dl).2.2.1) 3366 0 ((takeF st le ma ds dl).1) g ki va sp sg sk sv sc og te ke).1) ((assignF ((takeF st le ma ds dl).2.2.2.1) ((takeF st le ma ds dl).2.2.1) 3366 0 ((takeF st le ma ds dl).1) g ki va sp sg sk sv sc og te ke).2.1) ((assignF ((takeF st le ma ds dl).2.2.2.1) ((takeF st le ma ds dl).2.2.1) 3366 0 ((takeF st le ma ds dl).1) g ki va sp sg sk sv sc og te ke).2.2.1) ((assignF ((takeF st le ma ds dl).2.2.2.1) ((takeF st le ma ds dl).2.2.1) 3366 0 ((takeF st le ma ds dl).1) g ki va sp sg sk sv sc og te ke).2.2.2.1) ((assignF ((takeF st le ma ds dl).2.2.2.1) ((takeF st le ma ds dl).2.2.1) 3366 0 ((takeF st le ma ds dl).1) g ki va sp sg sk sv sc og te ke).2.2.2.2.1) ((assignF ((takeF st le ma ds dl).2.2.2.1) ((takeF st le ma ds dl).2.2.1) 3366 0 ((takeF st le ma ds dl).1) g ki va sp sg sk sv sc og te ke).2.2.2.2.2.1) ((assignF ((takeF st le ma ds dl).2.2.2.1) ((takeF st le ma ds dl).2.2.1) 3366 0 ((takeF st le ma ds dl).1) g ki va sp sg sk sv sc og te ke).2.2.2.2.2.2.1) og ++ wR cI r0 r1 r2 r3 r4 nu ((takeF st le ma ds dl).2.1) ((takeF st le ma ds dl).2.2.1) ((assignF ((takeF st le ma ds dl).2.2.2.1) ((takeF st le ma ds dl).2.2.1) 3366 0 ((takeF st le ma ds dl).1) g ki va sp sg sk sv sc og te ke).2.2.2.2.2.2.2.1) ((takeF st le ma ds dl).2.2.2.1) ((takeF st le ma ds dl).2.2.2.2.1) ((takeF st le ma ds dl).2.2.2.2.2) ((assignF ((takeF st le ma ds dl).2.2.2.1) ((takeF st le ma ds dl).2.2.1) 3366 0 ((takeF st le ma ds dl).1) g ki va sp sg sk sv sc og te ke).2.2.2.2.2.2.2.2))) := hD
  refine lv_aload_n hx hb dX2_shape_21 rfl (lv_at hl 1 rfl) ?_
  refine va_get (D := (dC, dI)) (ci := 2) (v := .ref r0) (C := RX2) (T := TX2) (N := 2) hx hb hts iX2 hown hK hP 0 rfl rfl 0 (by decide) l12 (fun _ h9 => h9) rfl dX2_shape_22 ?_
  refine lv_iload_n hx hb dX2_shape_25 rfl (lv_at hl 0 rfl) ?_
  refine m_rV (As := [.int ((takeF st le ma ds dl).1)]) (rest := []) ⟨hx, hb, hml, hown, hts⟩ (c_X1_lengthOf l dC dI cI r0 r1 r2 r3 r4 nu ((takeF st le ma ds dl).2.1) ((takeF st le ma ds dl).2.2.1) ((assignF ((takeF st le ma ds dl).2.2.2.1) ((takeF st le ma ds dl).2.2.1) 3366 0 ((takeF st le ma ds dl).1) g ki va sp sg sk sv sc og te ke).2.2.2.2.2.2.2.1) ((takeF st le ma ds dl).2.2.2.1) ((takeF st le ma ds dl).2.2.2.2.1) ((takeF st le ma ds dl).2.2.2.2.2) ((assignF ((takeF st le ma ds dl).2.2.2.1) ((takeF st le ma ds dl).2.2.1) 3366 0 ((takeF st le ma ds dl).1) g ki va sp sg sk sv sc og te ke).2.2.2.2.2.2.2.2) ((takeF st le ma ds dl).1) (takeF_ma hm)) (cwV 1 hts gX2_shape_X1_lengthOf rfl rfl rfl (by decide +kernel) ⟨Nat.le_of_ble_eq_true rfl, Nat.le_of_ble_eq_true rfl⟩) (ma_P (ma_P hP)) hK 1 0 rfl rfl rfl hl.1 rfl (Nat.le_of_ble_eq_true rfl) dX2_shape_26 ⟨Nat.zero_le _, Nat.zero_le _⟩ (fun r hw => ?_)
  subst hw
  exact hret (lenR ((takeF st le ma ds dl).2.2.2.1) ((takeF st le ma ds dl).2.2.1) ((takeF st le ma ds dl).1)) (((assignF ((takeF st le ma ds dl).2.2.2.1) ((takeF st le ma ds dl).2.2.1) 3366 0 ((takeF st le ma ds dl).1) g ki va sp sg sk sv sc og te ke).1, (assignF ((takeF st le ma ds dl).2.2.2.1) ((takeF st le ma ds dl).2.2.1) 3366 0 ((takeF st le ma ds dl).1) g ki va sp sg sk sv sc og te ke).2.1, (assignF ((takeF st le ma ds dl).2.2.2.1) ((takeF st le ma ds dl).2.2.1) 3366 0 ((takeF st le ma ds dl).1) g ki va sp sg sk sv sc og te ke).2.2.1, (assignF ((takeF st le ma ds dl).2.2.2.1) ((takeF st le ma ds dl).2.2.1) 3366 0 ((takeF st le ma ds dl).1) g ki va sp sg sk sv sc og te ke).2.2.2.1, (assignF ((takeF st le ma ds dl).2.2.2.1) ((takeF st le ma ds dl).2.2.1) 3366 0 ((takeF st le ma ds dl).1) g ki va sp sg sk sv sc og te ke).2.2.2.2.1, (assignF ((takeF st le ma ds dl).2.2.2.1) ((takeF st le ma ds dl).2.2.1) 3366 0 ((takeF st le ma ds dl).1) g ki va sp sg sk sv sc og te ke).2.2.2.2.2.1, (assignF ((takeF st le ma ds dl).2.2.2.1) ((takeF st le ma ds dl).2.2.1) 3366 0 ((takeF st le ma ds dl).1) g ki va sp sg sk sv sc og te ke).2.2.2.2.2.2.1, og, nu, (takeF st le ma ds dl).2.1, (takeF st le ma ds dl).2.2.1, (assignF ((takeF st le ma ds dl).2.2.2.1) ((takeF st le ma ds dl).2.2.1) 3366 0 ((takeF st le ma ds dl).1) g ki va sp sg sk sv sc og te ke).2.2.2.2.2.2.2.1, (takeF st le ma ds dl).2.2.2.1, (takeF st le ma ds dl).2.2.2.2.1, (takeF st le ma ds dl).2.2.2.2.2, (assignF ((takeF st le ma ds dl).2.2.2.1) ((takeF st le ma ds dl).2.2.1) 3366 0 ((takeF st le ma ds dl).1) g ki va sp sg sk sv sc og te ke).2.2.2.2.2.2.2.2)) (rfl) (⟨rfl, rfl⟩) hP hD hS dX2_shape_29
theorem sw_out {x : Int32} (h0 : ¬ x = 0) (h1 : ¬ x = 1) (h2 : ¬ x = 2) : x.toInt < 0 ∨ 2 < x.toInt := by
  have e0 : ¬ x.toInt = 0 := fun h => h0 (Int32.toInt_inj.mp h)
  have e1 : ¬ x.toInt = 1 := fun h => h1 (Int32.toInt_inj.mp h)
  have e2 : ¬ x.toInt = 2 := fun h => h2 (Int32.toInt_inj.mp h)
  omega
set_option maxHeartbeats 4000000 in
set_option maxRecDepth 100000 in
theorem c_X2_count (l : Launch) (dC : Nat → ClassId) (dI : Nat → Nat → Nat) (g0 r0 p0 : Nat) (cI : ClassId) (p1 p2 p3 p4 p5 p6 : Nat) (ki va : Nat → Int32) (sp sg : Nat → Nat) (sk sv : Nat → Int32) (sc og r1 r2 r3 r4 : Nat) (nu : Nat → Int32) (st le : Nat → Nat) (te : Nat → Int32) (ma ds dl : Nat) (ke : Int32) (x : Int32)  : mRi l yX2_count wsX2_count ({ frames := 1, cells := 0, slots := 0, locals := 20 }) (dC, dI) cI [.ref g0, .int x] (wG g0 r0 p0 ++ (wP cI r0 p0 p1 p2 p3 p4 p5 p6 ki va sp sg sk sv sc og ++ wR cI r0 r1 r2 r3 r4 nu st le te ma ds dl ke)) (fun r => r = dCount x (ki, va, sp, sg, sk, sv, sc, og, nu, st, le, te, ma, ds, dl, ke)) := by
  refine m_ofR (cc := cX2_count) (maxL := 2) (by decide) rfl (Nat.le_of_ble_eq_true rfl) ?_
  intro p e s m args below meth c ls Q hx hb hts hown hml hP hK hl hret
  have hown : s.vm.findClass RX2 = some m.cls := hown
  have hl : lv_has ls 2 [(0, .ref g0), (1, .int x)] := hl
  have l21 := hts (.fieldLink RX2 21 "GroupDesk" "places" "LGroupDesk$Places;") (by decide +kernel)
  have l12 := hts (.fieldLink RX2 12 "GroupDesk" "rows" "LGroupDesk$Rows;") (by decide +kernel)
  have iX2 : ∀ w ∈ u_ws RX2 TX2 2, w ∈ wsX2_count := by decide +kernel
  have hP0 := hP
  refine lv_iload_n hx hb dX2_count_0 rfl (lv_at hl 1 rfl) ?_
  by_cases h0 : x = 0
  · subst h0
    refine lv_tableIn (tgt := 28) hx hb dX2_count_1 (by decide) (by decide) rfl (by decide) ?_
    refine lv_aload_n hx hb dX2_count_28 rfl (lv_at hl 0 rfl) ?_
    refine va_get (D := (dC, dI)) (ci := 2) (v := .ref p0) (C := RX2) (T := TX2) (N := 2) hx hb hts iX2 hown hK hP 0 rfl rfl 1 (by decide) l21 (fun _ h9 => h9) rfl dX2_count_29 ?_
    refine m_rV (As := []) (rest := []) ⟨hx, hb, hml, hown, hts⟩ (c_X0_depth l dC dI cI r0 p0 p1 p2 p3 p4 p5 p6 ki va sp sg sk sv sc og) (cwV 0 hts gX2_count_X0_depth rfl rfl rfl (by decide +kernel) ⟨Nat.le_of_ble_eq_true rfl, Nat.le_of_ble_eq_true rfl⟩) (ma_Pl (ma_P hP)) hK 0 0 rfl rfl rfl hl.1 rfl (Nat.le_of_ble_eq_true rfl) dX2_count_32 ⟨Nat.zero_le _, Nat.zero_le _⟩ (fun r hw => ?_)
    subst hw
    exact hret (nI og) (rfl) (rfl) dX2_count_35
  by_cases h1 : x = 1
  · subst h1
    refine lv_tableIn (tgt := 36) hx hb dX2_count_1 (by decide) (by decide) rfl (by decide) ?_
    refine lv_aload_n hx hb dX2_count_36 rfl (lv_at hl 0 rfl) ?_
    refine va_get (D := (dC, dI)) (ci := 2) (v := .ref r0) (C := RX2) (T := TX2) (N := 2) hx hb hts iX2 hown hK hP 0 rfl rfl 0 (by decide) l12 (fun _ h9 => h9) rfl dX2_count_37 ?_
    refine m_rV (As := []) (rest := []) ⟨hx, hb, hml, hown, hts⟩ (c_X1_drafted l dC dI cI r0 r1 r2 r3 r4 nu st le te ma ds dl ke) (cwV 0 hts gX2_count_X1_drafted rfl rfl rfl (by decide +kernel) ⟨Nat.le_of_ble_eq_true rfl, Nat.le_of_ble_eq_true rfl⟩) (ma_P (ma_P hP)) hK 1 0 rfl rfl rfl hl.1 rfl (Nat.le_of_ble_eq_true rfl) dX2_count_40 ⟨Nat.zero_le _, Nat.zero_le _⟩ (fun r hw => ?_)
    subst hw
    exact hret (nI dl) (rfl) (rfl) dX2_count_43
  by_cases h2 : x = 2
  · subst h2
    refine lv_tableIn (tgt := 44) hx hb dX2_count_1 (by decide) (by decide) rfl (by decide) ?_
    refine lv_aload_n hx hb dX2_count_44 rfl (lv_at hl 0 rfl) ?_
    refine va_get (D := (dC, dI)) (ci := 2) (v := .ref r0) (C := RX2) (T := TX2) (N := 2) hx hb hts iX2 hown hK hP 0 rfl rfl 0 (by decide) l12 (fun _ h9 => h9) rfl dX2_count_45 ?_
    refine m_rV (As := []) (rest := []) ⟨hx, hb, hml, hown, hts⟩ (c_X1_kept l dC dI cI r0 r1 r2 r3 r4 nu st le te ma ds dl ke) (cwV 0 hts gX2_count_X1_kept rfl rfl rfl (by decide +kernel) ⟨Nat.le_of_ble_eq_true rfl, Nat.le_of_ble_eq_true rfl⟩) (ma_P (ma_P hP)) hK 1 0 rfl rfl rfl hl.1 rfl (Nat.le_of_ble_eq_true rfl) dX2_count_48 ⟨Nat.zero_le _, Nat.zero_le _⟩ (fun r hw => ?_)
    rw [hw]
    exact hret ke (rfl) (rfl) dX2_count_51
  refine lv_tableOut (tgt := 52) hx hb dX2_count_1 (sw_out h0 h1 h2) (by decide) ?_
  refine lv_iconst (v := (-1)) hx hb dX2_count_52 (by decide) ?_
  exact hret ((-1)) (rfl) (by unfold dCount; rw [if_neg h0, if_neg h1, if_neg h2]) dX2_count_53
set_option maxHeartbeats 4000000 in
set_option maxRecDepth 100000 in
theorem c_X2_rowOf (l : Launch) (dC : Nat → ClassId) (dI : Nat → Nat → Nat) (g0 r0 p0 : Nat) (cI : ClassId) (p1 p2 p3 p4 p5 p6 : Nat) (ki va : Nat → Int32) (sp sg : Nat → Nat) (sk sv : Nat → Int32) (sc og r1 r2 r3 r4 : Nat) (nu : Nat → Int32) (st le : Nat → Nat) (te : Nat → Int32) (ma ds dl : Nat) (ke : Int32) (x : Int32)  : mRi l yX2_rowOf wsX2_rowOf ({ frames := 2, cells := 0, slots := 0, locals := 41 }) (dC, dI) cI [.ref g0, .int x] (wG g0 r0 p0 ++ (wP cI r0 p0 p1 p2 p3 p4 p5 p6 ki va sp sg sk sv sc og ++ wR cI r0 r1 r2 r3 r4 nu st le te ma ds dl ke)) (fun r => r = dRow x (ki, va, sp, sg, sk, sv, sc, og, nu, st, le, te, ma, ds, dl, ke)) := by
  refine m_ofR (cc := cX2_rowOf) (maxL := 2) (by decide) rfl (Nat.le_of_ble_eq_true rfl) ?_
  intro p e s m args below meth c ls Q hx hb hts hown hml hP hK hl hret
  have hown : s.vm.findClass RX2 = some m.cls := hown
  have hl : lv_has ls 2 [(0, .ref g0), (1, .int x)] := hl
  have l21 := hts (.fieldLink RX2 21 "GroupDesk" "places" "LGroupDesk$Places;") (by decide +kernel)
  have iX2 : ∀ w ∈ u_ws RX2 TX2 2, w ∈ wsX2_rowOf := by decide +kernel
  refine lv_iload_n hx hb dX2_rowOf_0 rfl (lv_at hl 1 rfl) ?_
  refine lv_iconst (v := (-1)) hx hb dX2_rowOf_1 (by decide) ?_
  refine lv_icmp_ne (tgt := 16) hx hb dX2_rowOf_2 (by decide) (fun c2 => ?_) (fun c2 => ?_)
  · refine lv_iload_n hx hb dX2_rowOf_16 rfl (lv_at hl 1 rfl) ?_
    refine m_rS (As := [.int x]) (rest := []) ⟨hx, hb, hml, hown, hts⟩ (c_X2_isName l dC dI cI x) (va_cwS 1 hts gX2_rowOf_X2_isName rfl rfl rfl (by decide +kernel) ⟨Nat.le_of_ble_eq_true rfl, Nat.le_of_ble_eq_true rfl⟩) ma_nil hK rfl hl.1 rfl (Nat.le_of_ble_eq_true rfl) dX2_rowOf_17 ⟨Nat.zero_le _, Nat.zero_le _⟩ (fun r hw => ?_)
    subst hw
    refine lv_if_eq (tgt := 39) hx hb dX2_rowOf_20 (by decide) (fun c20 => ?_) (fun c20 => ?_)
    · have hj := b2i_0 c20
      refine lv_iconst (v := (-1)) hx hb dX2_rowOf_39 (by decide) ?_
      exact hret ((-1)) (rfl) (by unfold dRow; rw [if_neg c2, hj]; rfl) dX2_rowOf_40
    · have hj := b2i_n c20
      have hix := isR_of (by decide) hj
      have h7 := hix.1
      refine lv_aload_n hx hb dX2_rowOf_23 rfl (lv_at hl 0 rfl) ?_
      refine va_get (D := (dC, dI)) (ci := 2) (v := .ref p0) (C := RX2) (T := TX2) (N := 2) hx hb hts iX2 hown hK hP 0 rfl rfl 1 (by decide) l21 (fun _ h9 => h9) rfl dX2_rowOf_24 ?_
      refine lv_sipush (v := nI 2366) hx hb dX2_rowOf_27 (by decide) ?_
      refine lv_iload_n hx hb dX2_rowOf_30 rfl (lv_at hl 1 rfl) ?_
      refine lv_iadd hx hb dX2_rowOf_31 ?_
      refine mv_top (v := nI (2366 + rj x)) (by rw [hix.2, rj_nI (by have := hix.1; omega)]; exact nI_add 2366 _) ?_
      refine m_rV (As := [.int (nI (2366 + rj x))]) (rest := []) ⟨hx, hb, hml, hown, hts⟩ (c_X0_kindAt l dC dI cI r0 p0 p1 p2 p3 p4 p5 p6 ki va sp sg sk sv sc og (nI (2366 + rj x))) (cwV 1 hts gX2_rowOf_X0_kindAt rfl rfl rfl (by decide +kernel) ⟨Nat.le_of_ble_eq_true rfl, Nat.le_of_ble_eq_true rfl⟩) (ma_Pl (ma_P hP)) hK 0 0 rfl rfl rfl hl.1 rfl (Nat.le_of_ble_eq_true rfl) dX2_rowOf_32 ⟨Nat.zero_le _, Nat.zero_le _⟩ (fun r hw => ?_)
      subst hw
      refine mv_top (v := ki (2366 + rj x)) (atP_nI _ (by omega)) ?_
      refine lv_iconst (v := 3) hx hb dX2_rowOf_35 (by decide) ?_
      refine lv_icmp_eq (tgt := 41) hx hb dX2_rowOf_36 (by decide) (fun c36 => ?_) (fun c36 => ?_)
      · refine lv_aload_n hx hb dX2_rowOf_41 rfl (lv_at hl 0 rfl) ?_
        refine va_get (D := (dC, dI)) (ci := 2) (v := .ref p0) (C := RX2) (T := TX2) (N := 2) hx hb hts iX2 hown hK hP 0 rfl rfl 1 (by decide) l21 (fun _ h9 => h9) rfl dX2_rowOf_42 ?_
        refine lv_sipush (v := nI 2366) hx hb dX2_rowOf_45 (by decide) ?_
        refine lv_iload_n hx hb dX2_rowOf_48 rfl (lv_at hl 1 rfl) ?_
        refine lv_iadd hx hb dX2_rowOf_49 ?_
        refine mv_top (v := nI (2366 + rj x)) (by rw [hix.2, rj_nI (by have := hix.1; omega)]; exact nI_add 2366 _) ?_
        refine m_rV (As := [.int (nI (2366 + rj x))]) (rest := []) ⟨hx, hb, hml, hown, hts⟩ (c_X0_valueAt l dC dI cI r0 p0 p1 p2 p3 p4 p5 p6 ki va sp sg sk sv sc og (nI (2366 + rj x))) (cwV 1 hts gX2_rowOf_X0_valueAt rfl rfl rfl (by decide +kernel) ⟨Nat.le_of_ble_eq_true rfl, Nat.le_of_ble_eq_true rfl⟩) (ma_Pl (ma_P hP)) hK 0 0 rfl rfl rfl hl.1 rfl (Nat.le_of_ble_eq_true rfl) dX2_rowOf_50 ⟨Nat.zero_le _, Nat.zero_le _⟩ (fun r hw => ?_)
        subst hw
        refine mv_top (v := va (2366 + rj x)) (atP_nI _ (by omega)) ?_
        exact hret (va (2366 + rj x)) (rfl) (by unfold dRow; rw [if_neg c2, if_pos hj, if_pos c36]) dX2_rowOf_53
      · refine lv_iconst (v := (-1)) hx hb dX2_rowOf_39 (by decide) ?_
        exact hret ((-1)) (rfl) (by unfold dRow; rw [if_neg c2, if_pos hj, if_neg c36]) dX2_rowOf_40
  · refine lv_aload_n hx hb dX2_rowOf_5 rfl (lv_at hl 0 rfl) ?_
    refine va_get (D := (dC, dI)) (ci := 2) (v := .ref p0) (C := RX2) (T := TX2) (N := 2) hx hb hts iX2 hown hK hP 0 rfl rfl 1 (by decide) l21 (fun _ h9 => h9) rfl dX2_rowOf_6 ?_
    refine lv_sipush (v := nI 3366) hx hb dX2_rowOf_9 (by decide) ?_
    refine m_rV (As := [.int (nI 3366)]) (rest := []) ⟨hx, hb, hml, hown, hts⟩ (c_X0_valueAt l dC dI cI r0 p0 p1 p2 p3 p4 p5 p6 ki va sp sg sk sv sc og (nI 3366)) (cwV 1 hts gX2_rowOf_X0_valueAt rfl rfl rfl (by decide +kernel) ⟨Nat.le_of_ble_eq_true rfl, Nat.le_of_ble_eq_true rfl⟩) (ma_Pl (ma_P hP)) hK 0 0 rfl rfl rfl hl.1 rfl (Nat.le_of_ble_eq_true rfl) dX2_rowOf_12 ⟨Nat.zero_le _, Nat.zero_le _⟩ (fun r hw => ?_)
    subst hw
    refine mv_top (v := va (3366)) (atP_nI _ (by omega)) ?_
    exact hret (va (3366)) (rfl) (by unfold dRow; rw [if_pos c2]) dX2_rowOf_15
