/-- leave() -/
def leaveG (ma : Nat) (le : Nat → Nat) (sp sg : Nat → Nat) (sk sv : Nat → Int32) (og sc : Nat) (ki va te : Nat → Int32) (ke : Int32) : Int32 × Nat × Nat × (Nat → Int32) × (Nat → Int32) × (Nat → Int32) × Int32 :=
  if og = 0 then (0, sc, og, ki, va, te, ke) else (1, (leaveF ma le sp sg sk sv og sc ki va te ke).1, og - 1, (leaveF ma le sp sg sk sv og sc ki va te ke).2.1, (leaveF ma le sp sg sk sv og sc ki va te ke).2.2.1, (leaveF ma le sp sg sk sv og sc ki va te ke).2.2.2.1, (leaveF ma le sp sg sk sv og sc ki va te ke).2.2.2.2)
/-- assign(pl, k, v, g) -/
def assignF (ma : Nat) (le : Nat → Nat) (pl : Nat) (k v g : Int32) (ki va : Nat → Int32) (sp sg : Nat → Nat) (sk sv : Nat → Int32) (sc og : Nat) (te : Nat → Int32) (ke : Int32) : (Nat → Int32) × (Nat → Int32) × (Nat → Nat) × (Nat → Nat) × (Nat → Int32) × (Nat → Int32) × Nat × (Nat → Int32) × Int32 :=
  if g = 0 then
    (if mustB sp sg sc og pl then (upd ki pl k, upd va pl v, va_up sp sc pl, va_up sg sc og, upd sk sc (ki pl), upd sv sc (va pl), sc + 1, (tellT ma le k v te ke).1, (tellT ma le k v te ke).2)
     else (upd ki pl k, upd va pl v, sp, sg, sk, sv, sc, (untellT ma le (ki pl) (va pl) (tellT ma le k v te ke).1 (tellT ma le k v te ke).2).1, (untellT ma le (ki pl) (va pl) (tellT ma le k v te ke).1 (tellT ma le k v te ke).2).2))
  else (upd ki pl k, upd va pl v, (forgF ma le pl sc 0 0 sp sg sk sv (tellT ma le k v te ke).1 (tellT ma le k v te ke).2).2.1, (forgF ma le pl sc 0 0 sp sg sk sv (tellT ma le k v te ke).1 (tellT ma le k v te ke).2).2.2.1, (forgF ma le pl sc 0 0 sp sg sk sv (tellT ma le k v te ke).1 (tellT ma le k v te ke).2).2.2.2.1, (forgF ma le pl sc 0 0 sp sg sk sv (tellT ma le k v te ke).1 (tellT ma le k v te ke).2).2.2.2.2.1, (forgF ma le pl sc 0 0 sp sg sk sv (tellT ma le k v te ke).1 (tellT ma le k v te ke).2).1,
    (untellT ma le (ki pl) (va pl) (forgF ma le pl sc 0 0 sp sg sk sv (tellT ma le k v te ke).1 (tellT ma le k v te ke).2).2.2.2.2.2.1 (forgF ma le pl sc 0 0 sp sg sk sv (tellT ma le k v te ke).1 (tellT ma le k v te ke).2).2.2.2.2.2.2).1, (untellT ma le (ki pl) (va pl) (forgF ma le pl sc 0 0 sp sg sk sv (tellT ma le k v te ke).1 (tellT ma le k v te ke).2).2.2.2.2.2.1 (forgF ma le pl sc 0 0 sp sg sk sv (tellT ma le k v te ke).1 (tellT ma le k v te ke).2).2.2.2.2.2.2).2)
set_option maxHeartbeats 4000000 in
set_option maxRecDepth 100000 in
theorem c_X0_leave (l : Launch) (dC : Nat → ClassId) (dI : Nat → Nat → Nat) (cI : ClassId) (r0 p0 p1 p2 p3 p4 p5 p6 : Nat) (ki va : Nat → Int32) (sp sg : Nat → Nat) (sk sv : Nat → Int32) (sc og r1 r2 r3 r4 : Nat) (nu : Nat → Int32) (st le : Nat → Nat) (te : Nat → Int32) (ma ds dl : Nat) (ke : Int32)  (hm : ma ≤ 513) (hsc : sc ≤ 512) (hog : og < 2 ^ 31) (hsg : ∀ j, j < sc → sg j < 2 ^ 31) (hsp : ∀ j, j < sc → sp j < 3367) : mWi l yX0_leave wsX0_leave ({ frames := 4, cells := 0, slots := 0, locals := 86 }) (dC, dI) cI [.ref p0] (wP cI r0 p0 p1 p2 p3 p4 p5 p6 ki va sp sg sk sv sc og ++ wR cI r0 r1 r2 r3 r4 nu st le te ma ds dl ke) (fun r u => r = (leaveG ma le sp sg sk sv og sc ki va te ke).1 ∧ u = (leaveG ma le sp sg sk sv og sc ki va te ke).2) (fun u : Nat × Nat × (Nat → Int32) × (Nat → Int32) × (Nat → Int32) × Int32 => wP cI r0 p0 p1 p2 p3 p4 p5 p6 u.2.2.1 u.2.2.2.1 sp sg sk sv u.1 u.2.1 ++ wR cI r0 r1 r2 r3 r4 nu st le u.2.2.2.2.1 ma ds dl u.2.2.2.2.2) := by
  refine m_ofWi (cc := cX0_leave) (maxL := 2) (by decide) rfl (Nat.le_of_ble_eq_true rfl) ?_
  intro p e s m args below meth c ls A Q hx hb hts hown hml hP hK hD hA hS hl hret
  have hown : s.vm.findClass RX0 = some m.cls := hown
  have hl : lv_has ls 2 [(0, .ref p0)] := hl
  have l34 := hts (.fieldLink RX0 34 "GroupDesk$Places" "openGroups" "I") (by decide +kernel)
  have l30 := hts (.fieldLink RX0 30 "GroupDesk$Places" "savedCount" "I") (by decide +kernel)
  have l21 := hts (.fieldLink RX0 21 "GroupDesk$Places" "savedGroups" "[I") (by decide +kernel)
  have iX0 : ∀ w ∈ u_ws RX0 TX0 9, w ∈ wsX0_leave := by decide +kernel
  have loop : ∀ (n : Nat) (ki' va' te' : Nat → Int32) (ke' : Int32) (H : Heap) (locs : List Loc) (ls : Array Slot), n ≤ sc → leaveF ma le sp sg sk sv og n ki' va' te' ke' = leaveF ma le sp sg sk sv og sc ki va te ke → va_P (dC, dI) vwCl (wP cI r0 p0 p1 p2 p3 p4 p5 p6 ki' va' sp sg sk sv sc og ++ wR cI r0 r1 r2 r3 r4 nu st le te' ma ds dl ke') H → va_D A (wP cI r0 p0 p1 p2 p3 p4 p5 p6 ki' va' sp sg sk sv sc og ++ wR cI r0 r1 r2 r3 r4 nu st le te' ma ds dl ke') → va_S A s.heap H locs → lv_has ls 2 [(0, .ref p0), (1, .int (nI n))] → ¬ og = 0 → W p l e ({ frames := 4, cells := 0, slots := 0, locals := 86 }) s m args below meth c H locs 0 0 Q (F0 m 14 ls []) := by
    intro n
    induction n with
    | zero =>
      intro ki' va' te' ke' H locs ls hn hF hP hD hS hl h0
      refine lv_iload_n hx hb dX0_leave_14 rfl (lv_at hl 1 rfl) ?_
      refine lv_if_le (tgt := 46) hx hb dX0_leave_15 (by decide) (fun c15 => ?_) (fun c15 => ?_)
      · refine lv_aload_n hx hb dX0_leave_46 rfl (lv_at hl 0 rfl) ?_
        refine lv_iload_n hx hb dX0_leave_47 rfl (lv_at hl 1 rfl) ?_
        refine va_put (D := (dC, dI)) (ci := 0) (v := .int (nI 0)) (ty := .int) (C := RX0) (T := TX0) (N := 9) hx hb hts iX0 tyX0 tyX0_ok nmX0 hown hK hP hD hS 0 rfl rfl 7 (by decide) l30 (fun _ h9 => h9) rfl (by decide +kernel) rfl rfl (Nat.le_of_ble_eq_true rfl) dX0_leave_48 (fun H locs hP hD hS => ?_)
        have hP : va_P (dC, dI) vwCl (wP cI r0 p0 p1 p2 p3 p4 p5 p6 ki' va' sp sg sk sv 0 og ++ wR cI r0 r1 r2 r3 r4 nu st le te' ma ds dl ke') _ := hP
        have hD : va_D A (wP cI r0 p0 p1 p2 p3 p4 p5 p6 ki' va' sp sg sk sv 0 og ++ wR cI r0 r1 r2 r3 r4 nu st le te' ma ds dl ke') := hD
        refine lv_aload_n hx hb dX0_leave_51 rfl (lv_at hl 0 rfl) ?_
        refine lv_dup hx hb dX0_leave_52 rfl ?_
        refine va_get (D := (dC, dI)) (ci := 0) (v := .int (nI og)) (C := RX0) (T := TX0) (N := 9) hx hb hts iX0 hown hK hP 0 rfl rfl 8 (by decide) l34 (fun _ h9 => h9) rfl dX0_leave_53 ?_
        refine lv_iconst (v := 1) hx hb dX0_leave_56 (by decide) ?_
        refine lv_isub hx hb dX0_leave_57 ?_
        refine mv_top (v := nI (og - 1)) (by rw [show (1 : Int32) = nI 1 from rfl]; exact pk_sub (by omega)) ?_
        refine va_put (D := (dC, dI)) (ci := 0) (v := .int (nI (og - 1))) (ty := .int) (C := RX0) (T := TX0) (N := 9) hx hb hts iX0 tyX0 tyX0_ok nmX0 hown hK hP hD hS 0 rfl rfl 8 (by decide) l34 (fun _ h9 => h9) rfl (by decide +kernel) rfl rfl (Nat.le_of_ble_eq_true rfl) dX0_leave_58 (fun H locs hP hD hS => ?_)
        have hP : va_P (dC, dI) vwCl (wP cI r0 p0 p1 p2 p3 p4 p5 p6 ki' va' sp sg sk sv 0 (og - 1) ++ wR cI r0 r1 r2 r3 r4 nu st le te' ma ds dl ke') _ := hP
        have hD : va_D A (wP cI r0 p0 p1 p2 p3 p4 p5 p6 ki' va' sp sg sk sv 0 (og - 1) ++ wR cI r0 r1 r2 r3 r4 nu st le te' ma ds dl ke') := hD
        refine lv_iconst (v := 1) hx hb dX0_leave_61 (by decide) ?_
        exact hret 1 ((0, og - 1, ki', va', te', ke')) (rfl) (by unfold leaveG; rw [if_neg h0, ← hF]; exact ⟨rfl, rfl⟩) hP hD hS dX0_leave_62
      · exact absurd (by decide) c15
    | succ n ih =>
      intro ki' va' te' ke' H locs ls hn hF hP hD hS hl h0
      have h3 := hsg n (by omega)
      have h4 := hsp n (by omega)
      refine lv_iload_n hx hb dX0_leave_14 rfl (lv_at hl 1 rfl) ?_
      refine lv_if_le (tgt := 46) hx hb dX0_leave_15 (by decide) (fun c15 => ?_) (fun c15 => ?_)
      · exact absurd c15 (nI_nle (by omega) (by omega))
      · refine lv_aload_n hx hb dX0_leave_18 rfl (lv_at hl 0 rfl) ?_
        refine va_get (D := (dC, dI)) (ci := 0) (v := .ref p4) (C := RX0) (T := TX0) (N := 9) hx hb hts iX0 hown hK hP 0 rfl rfl 4 (by decide) l21 (fun _ h9 => h9) rfl dX0_leave_19 ?_
        refine lv_iload_n hx hb dX0_leave_22 rfl (lv_at hl 1 rfl) ?_
        refine lv_iconst (v := 1) hx hb dX0_leave_23 (by decide) ?_
        refine lv_isub hx hb dX0_leave_24 ?_
        refine mv_top (v := nI n) (nI_pred n) ?_
        refine mv_iald hx hb hK hP 4 0 rfl rfl (k := n) (rfl) (by omega) (by decide) (v := nI (sg n)) rfl dX0_leave_25 ?_
        refine lv_aload_n hx hb dX0_leave_26 rfl (lv_at hl 0 rfl) ?_
        refine va_get (D := (dC, dI)) (ci := 0) (v := .int (nI og)) (C := RX0) (T := TX0) (N := 9) hx hb hts iX0 hown hK hP 0 rfl rfl 8 (by decide) l34 (fun _ h9 => h9) rfl dX0_leave_27 ?_
        refine lv_icmp_ne (tgt := 46) hx hb dX0_leave_30 (by decide) (fun c30 => ?_) (fun c30 => ?_)
        · refine lv_aload_n hx hb dX0_leave_46 rfl (lv_at hl 0 rfl) ?_
          refine lv_iload_n hx hb dX0_leave_47 rfl (lv_at hl 1 rfl) ?_
          refine va_put (D := (dC, dI)) (ci := 0) (v := .int (nI (n + 1))) (ty := .int) (C := RX0) (T := TX0) (N := 9) hx hb hts iX0 tyX0 tyX0_ok nmX0 hown hK hP hD hS 0 rfl rfl 7 (by decide) l30 (fun _ h9 => h9) rfl (by decide +kernel) rfl rfl (Nat.le_of_ble_eq_true rfl) dX0_leave_48 (fun H locs hP hD hS => ?_)
          have hP : va_P (dC, dI) vwCl (wP cI r0 p0 p1 p2 p3 p4 p5 p6 ki' va' sp sg sk sv (n + 1) og ++ wR cI r0 r1 r2 r3 r4 nu st le te' ma ds dl ke') _ := hP
          have hD : va_D A (wP cI r0 p0 p1 p2 p3 p4 p5 p6 ki' va' sp sg sk sv (n + 1) og ++ wR cI r0 r1 r2 r3 r4 nu st le te' ma ds dl ke') := hD
          refine lv_aload_n hx hb dX0_leave_51 rfl (lv_at hl 0 rfl) ?_
          refine lv_dup hx hb dX0_leave_52 rfl ?_
          refine va_get (D := (dC, dI)) (ci := 0) (v := .int (nI og)) (C := RX0) (T := TX0) (N := 9) hx hb hts iX0 hown hK hP 0 rfl rfl 8 (by decide) l34 (fun _ h9 => h9) rfl dX0_leave_53 ?_
          refine lv_iconst (v := 1) hx hb dX0_leave_56 (by decide) ?_
          refine lv_isub hx hb dX0_leave_57 ?_
          refine mv_top (v := nI (og - 1)) (by rw [show (1 : Int32) = nI 1 from rfl]; exact pk_sub (by omega)) ?_
          refine va_put (D := (dC, dI)) (ci := 0) (v := .int (nI (og - 1))) (ty := .int) (C := RX0) (T := TX0) (N := 9) hx hb hts iX0 tyX0 tyX0_ok nmX0 hown hK hP hD hS 0 rfl rfl 8 (by decide) l34 (fun _ h9 => h9) rfl (by decide +kernel) rfl rfl (Nat.le_of_ble_eq_true rfl) dX0_leave_58 (fun H locs hP hD hS => ?_)
          have hP : va_P (dC, dI) vwCl (wP cI r0 p0 p1 p2 p3 p4 p5 p6 ki' va' sp sg sk sv (n + 1) (og - 1) ++ wR cI r0 r1 r2 r3 r4 nu st le te' ma ds dl ke') _ := hP
          have hD : va_D A (wP cI r0 p0 p1 p2 p3 p4 p5 p6 ki' va' sp sg sk sv (n + 1) (og - 1) ++ wR cI r0 r1 r2 r3 r4 nu st le te' ma ds dl ke') := hD
          refine lv_iconst (v := 1) hx hb dX0_leave_61 (by decide) ?_
          exact hret 1 ((n + 1, og - 1, ki', va', te', ke')) (rfl) (by unfold leaveG; rw [if_neg h0, ← hF, leaveF, if_neg (fun h => c30 (by rw [h]))]; exact ⟨rfl, rfl⟩) hP hD hS dX0_leave_62
        · refine lv_aload_n hx hb dX0_leave_33 rfl (lv_at hl 0 rfl) ?_
          refine lv_iload_n hx hb dX0_leave_34 rfl (lv_at hl 1 rfl) ?_
          refine lv_iconst (v := 1) hx hb dX0_leave_35 (by decide) ?_
          refine lv_isub hx hb dX0_leave_36 ?_
          refine mv_top (v := nI n) (nI_pred n) ?_
          have hP : va_P (dC, dI) vwCl ([] ++ (wP cI r0 p0 p1 p2 p3 p4 p5 p6 ki' va' sp sg sk sv sc og ++ wR cI r0 r1 r2 r3 r4 nu st le te' ma ds dl ke')) _ := hP
          have hD : va_D A ([] ++ (wP cI r0 p0 p1 p2 p3 p4 p5 p6 ki' va' sp sg sk sv sc og ++ wR cI r0 r1 r2 r3 r4 nu st le te' ma ds dl ke')) := hD
          refine m_wVv (As := [.int (nI n)]) (rest := []) ⟨hx, hb, hml, hown, hts⟩ (c_X0_putBack l dC dI cI r0 p0 p1 p2 p3 p4 p5 p6 ki' va' sp sg sk sv sc og r1 r2 r3 r4 nu st le te' ma ds dl ke' n hm (by omega) h4) (cwV 1 hts gX0_leave_X0_putBack rfl rfl rfl (by decide +kernel) ⟨Nat.le_of_ble_eq_true rfl, Nat.le_of_ble_eq_true rfl⟩) hP hK hD hS hA 0 0 rfl rfl rfl hl.1 rfl (Nat.le_of_ble_eq_true rfl) dX0_leave_37 ⟨Nat.zero_le _, Nat.zero_le _⟩ (fun u H locs hw hP hD hS => ?_)
          subst hw
          have hP : va_P (dC, dI) vwCl (wP cI r0 p0 p1 p2 p3 p4 p5 p6 (upd ki' (sp n) (sk n)) (upd va' (sp n) (sv n)) sp sg sk sv sc og ++ wR cI r0 r1 r2 r3 r4 nu st le ((untellT ma le (ki' (sp n)) (va' (sp n)) te' ke').1) ma ds dl ((untellT ma le (ki' (sp n)) (va' (sp n)) te' ke').2)) _ := hP
          have hD : va_D A (wP cI r0 p0 p1 p2 p3 p4 p5 p6 (upd ki' (sp n) (sk n)) (upd va' (sp n) (sv n)) sp sg sk sv sc og ++ wR cI r0 r1 r2 r3 r4 nu st le ((untellT ma le (ki' (sp n)) (va' (sp n)) te' ke').1) ma ds dl ((untellT ma le (ki' (sp n)) (va' (sp n)) te' ke').2)) := hD
          refine lv_iinc (v := nI n) (lv' := [(1, .int (nI n)), (0, .ref p0)]) hx hb dX0_leave_40 hl (k := 1) rfl (show (nI (n + 1)) + Int32.ofInt (-1) = nI n from pk_m1 n) (by decide) rfl (fun ls hl => ?_)
          refine lv_goto (tgt := 14) hx hb dX0_leave_43 (by decide) ?_
          exact ih _ _ _ _ _ _ _ (by omega) (by rw [← hF, leaveF, if_pos ((nI_eq (by omega) hog).mp c30)]) hP hD hS (lv_sub hl [1, 0] rfl) h0
  refine lv_aload_n hx hb dX0_leave_0 rfl (lv_at hl 0 rfl) ?_
  refine va_get (D := (dC, dI)) (ci := 0) (v := .int (nI og)) (C := RX0) (T := TX0) (N := 9) hx hb hts iX0 hown hK hP 0 rfl rfl 8 (by decide) l34 (fun _ h9 => h9) rfl dX0_leave_1 ?_
  refine lv_if_ne (tgt := 9) hx hb dX0_leave_4 (by decide) (fun c4 => ?_) (fun c4 => ?_)
  · refine lv_aload_n hx hb dX0_leave_9 rfl (lv_at hl 0 rfl) ?_
    refine va_get (D := (dC, dI)) (ci := 0) (v := .int (nI sc)) (C := RX0) (T := TX0) (N := 9) hx hb hts iX0 hown hK hP 0 rfl rfl 7 (by decide) l30 (fun _ h9 => h9) rfl dX0_leave_10 ?_
    refine lv_istore_n (lv' := [(1, .int (nI sc)), (0, .ref p0)]) hx hb dX0_leave_13 rfl hl (by decide) rfl (fun ls hl => ?_)
    exact loop sc ki va te ke _ _ _ (Nat.le_refl _) rfl hP hD hS (lv_sub hl [1, 0] rfl) (fun h => c4 (by rw [h]; rfl))
  · refine lv_iconst (v := 0) hx hb dX0_leave_7 (by decide) ?_
    exact hret 0 ((sc, og, ki, va, te, ke)) (rfl) (by unfold leaveG; rw [if_pos ((nI_eq hog (by decide)).mp (c4.trans nI_0.symm))]; exact ⟨rfl, rfl⟩) hP hD hS dX0_leave_8
set_option maxHeartbeats 4000000 in
set_option maxRecDepth 100000 in
theorem c_X0_forgetSaved (l : Launch) (dC : Nat → ClassId) (dI : Nat → Nat → Nat) (cI : ClassId) (r0 p0 p1 p2 p3 p4 p5 p6 : Nat) (ki va : Nat → Int32) (sp sg : Nat → Nat) (sk sv : Nat → Int32) (sc og r1 r2 r3 r4 : Nat) (nu : Nat → Int32) (st le : Nat → Nat) (te : Nat → Int32) (ma ds dl : Nat) (ke : Int32) (pl : Nat) (hm : ma ≤ 513) (hpl : pl < 3367) (hsc : sc ≤ 512) (hsp : ∀ j, j < sc → sp j < 2 ^ 31) : mWv l yX0_forgetSaved wsX0_forgetSaved ({ frames := 3, cells := 0, slots := 0, locals := 64 }) (dC, dI) cI [.ref p0, .int (nI pl)] (wP cI r0 p0 p1 p2 p3 p4 p5 p6 ki va sp sg sk sv sc og ++ wR cI r0 r1 r2 r3 r4 nu st le te ma ds dl ke) (fun u => forgF ma le pl sc 0 0 sp sg sk sv te ke = u) (fun u : Nat × (Nat → Nat) × (Nat → Nat) × (Nat → Int32) × (Nat → Int32) × (Nat → Int32) × Int32 => wP cI r0 p0 p1 p2 p3 p4 p5 p6 ki va u.2.1 u.2.2.1 u.2.2.2.1 u.2.2.2.2.1 u.1 og ++ wR cI r0 r1 r2 r3 r4 nu st le u.2.2.2.2.2.1 ma ds dl u.2.2.2.2.2.2) := by
  refine m_ofWv (cc := cX0_forgetSaved) (maxL := 4) (by decide) rfl (Nat.le_of_ble_eq_true rfl) ?_
  intro p e s m args below meth c ls A Q hx hb hts hown hml hP hK hD hA hS hl hret
  have hown : s.vm.findClass RX0 = some m.cls := hown
  have hl : lv_has ls 4 [(0, .ref p0), (1, .int (nI pl))] := hl
  have l30 := hts (.fieldLink RX0 30 "GroupDesk$Places" "savedCount" "I") (by decide +kernel)
  have l18 := hts (.fieldLink RX0 18 "GroupDesk$Places" "savedPlaces" "[I") (by decide +kernel)
  have l24 := hts (.fieldLink RX0 24 "GroupDesk$Places" "savedKinds" "[I") (by decide +kernel)
  have l27 := hts (.fieldLink RX0 27 "GroupDesk$Places" "savedValues" "[I") (by decide +kernel)
  have iX0 : ∀ w ∈ u_ws RX0 TX0 9, w ∈ wsX0_forgetSaved := by decide +kernel
  have loop : ∀ (n i left : Nat) (sp' sg' : Nat → Nat) (sk' sv' te' : Nat → Int32) (ke' : Int32) (H : Heap) (locs : List Loc) (ls : Array Slot), n + i = sc → left ≤ i → (∀ j, i ≤ j → j < sc → sp' j < 2 ^ 31) → forgF ma le pl n i left sp' sg' sk' sv' te' ke' = forgF ma le pl sc 0 0 sp sg sk sv te ke → va_P (dC, dI) vwCl (wP cI r0 p0 p1 p2 p3 p4 p5 p6 ki va sp' sg' sk' sv' sc og ++ wR cI r0 r1 r2 r3 r4 nu st le te' ma ds dl ke') H → va_D A (wP cI r0 p0 p1 p2 p3 p4 p5 p6 ki va sp' sg' sk' sv' sc og ++ wR cI r0 r1 r2 r3 r4 nu st le te' ma ds dl ke') → va_S A s.heap H locs → lv_has ls 4 [(0, .ref p0), (1, .int (nI pl)), (2, .int (nI left)), (3, .int (nI i))] → W p l e ({ frames := 3, cells := 0, slots := 0, locals := 64 }) s m args below meth c H locs 0 0 Q (F0 m 4 ls []) := by
    intro n
    induction n with
    | zero =>
      intro i left sp' sg' sk' sv' te' ke' H locs ls hn hle hsp hF hP hD hS hl
      refine lv_iload_n hx hb dX0_forgetSaved_4 rfl (lv_at hl 3 rfl) ?_
      refine lv_aload_n hx hb dX0_forgetSaved_5 rfl (lv_at hl 0 rfl) ?_
      refine va_get (D := (dC, dI)) (ci := 0) (v := .int (nI sc)) (C := RX0) (T := TX0) (N := 9) hx hb hts iX0 hown hK hP 0 rfl rfl 7 (by decide) l30 (fun _ h9 => h9) rfl dX0_forgetSaved_6 ?_
      refine lv_icmp_ge (tgt := 56) hx hb dX0_forgetSaved_9 (by decide) (fun c9 => ?_) (fun c9 => ?_)
      · refine lv_aload_n hx hb dX0_forgetSaved_56 rfl (lv_at hl 0 rfl) ?_
        refine lv_iload_n hx hb dX0_forgetSaved_57 rfl (lv_at hl 2 rfl) ?_
        refine va_put (D := (dC, dI)) (ci := 0) (v := .int (nI left)) (ty := .int) (C := RX0) (T := TX0) (N := 9) hx hb hts iX0 tyX0 tyX0_ok nmX0 hown hK hP hD hS 0 rfl rfl 7 (by decide) l30 (fun _ h9 => h9) rfl (by decide +kernel) rfl rfl (Nat.le_of_ble_eq_true rfl) dX0_forgetSaved_58 (fun H locs hP hD hS => ?_)
        have hP : va_P (dC, dI) vwCl (wP cI r0 p0 p1 p2 p3 p4 p5 p6 ki va sp' sg' sk' sv' left og ++ wR cI r0 r1 r2 r3 r4 nu st le te' ma ds dl ke') _ := hP
        have hD : va_D A (wP cI r0 p0 p1 p2 p3 p4 p5 p6 ki va sp' sg' sk' sv' left og ++ wR cI r0 r1 r2 r3 r4 nu st le te' ma ds dl ke') := hD
        exact hret ((left, sp', sg', sk', sv', te', ke')) (by rw [← hF]; rfl) hP hD hS dX0_forgetSaved_61
      · exact absurd (nI_le (by omega) (by omega)) c9
    | succ n ih =>
      intro i left sp' sg' sk' sv' te' ke' H locs ls hn hle hsp hF hP hD hS hl
      have h4 := hsp i (Nat.le_refl _) (by omega)
      refine lv_iload_n hx hb dX0_forgetSaved_4 rfl (lv_at hl 3 rfl) ?_
      refine lv_aload_n hx hb dX0_forgetSaved_5 rfl (lv_at hl 0 rfl) ?_
      refine va_get (D := (dC, dI)) (ci := 0) (v := .int (nI sc)) (C := RX0) (T := TX0) (N := 9) hx hb hts iX0 hown hK hP 0 rfl rfl 7 (by decide) l30 (fun _ h9 => h9) rfl dX0_forgetSaved_6 ?_
      refine lv_icmp_ge (tgt := 56) hx hb dX0_forgetSaved_9 (by decide) (fun c9 => ?_) (fun c9 => ?_)
      · exact absurd c9 (nI_ge (by omega) (by omega))
      · refine lv_aload_n hx hb dX0_forgetSaved_12 rfl (lv_at hl 0 rfl) ?_
        refine va_get (D := (dC, dI)) (ci := 0) (v := .ref p3) (C := RX0) (T := TX0) (N := 9) hx hb hts iX0 hown hK hP 0 rfl rfl 3 (by decide) l18 (fun _ h9 => h9) rfl dX0_forgetSaved_13 ?_
        refine lv_iload_n hx hb dX0_forgetSaved_16 rfl (lv_at hl 3 rfl) ?_
        refine mv_iald hx hb hK hP 3 0 rfl rfl (k := i) (rfl) (by omega) (by decide) (v := nI (sp' i)) rfl dX0_forgetSaved_17 ?_
        refine lv_iload_n hx hb dX0_forgetSaved_18 rfl (lv_at hl 1 rfl) ?_
        refine lv_icmp_ne (tgt := 41) hx hb dX0_forgetSaved_19 (by decide) (fun c19 => ?_) (fun c19 => ?_)
        · refine lv_aload_n hx hb dX0_forgetSaved_41 rfl (lv_at hl 0 rfl) ?_
          refine lv_iload_n hx hb dX0_forgetSaved_42 rfl (lv_at hl 3 rfl) ?_
          refine lv_iload_n hx hb dX0_forgetSaved_43 rfl (lv_at hl 2 rfl) ?_
          have hP : va_P (dC, dI) vwCl ([] ++ (wP cI r0 p0 p1 p2 p3 p4 p5 p6 ki va sp' sg' sk' sv' sc og ++ wR cI r0 r1 r2 r3 r4 nu st le te' ma ds dl ke')) _ := hP
          have hD : va_D A ([] ++ (wP cI r0 p0 p1 p2 p3 p4 p5 p6 ki va sp' sg' sk' sv' sc og ++ wR cI r0 r1 r2 r3 r4 nu st le te' ma ds dl ke')) := hD
          refine m_wVv (As := [.int (nI i), .int (nI left)]) (rest := []) ⟨hx, hb, hml, hown, hts⟩ (c_X0_moveSaved l dC dI cI r0 p0 p1 p2 p3 p4 p5 p6 ki va sp' sg' sk' sv' sc og r1 r2 r3 r4 nu st le te' ma ds dl ke' i left (by omega) (by omega)) (cwV 2 hts gX0_forgetSaved_X0_moveSaved rfl rfl rfl (by decide +kernel) ⟨Nat.le_of_ble_eq_true rfl, Nat.le_of_ble_eq_true rfl⟩) hP hK hD hS hA 0 0 rfl rfl rfl hl.1 rfl (Nat.le_of_ble_eq_true rfl) dX0_forgetSaved_44 ⟨Nat.zero_le _, Nat.zero_le _⟩ (fun u H locs hw hP hD hS => ?_)
          subst hw
          have hP : va_P (dC, dI) vwCl (wP cI r0 p0 p1 p2 p3 p4 p5 p6 ki va (va_up sp' left (sp' i)) (va_up sg' left (sg' i)) (upd sk' left (sk' i)) (upd sv' left (sv' i)) sc og ++ wR cI r0 r1 r2 r3 r4 nu st le te' ma ds dl ke') _ := hP
          have hD : va_D A (wP cI r0 p0 p1 p2 p3 p4 p5 p6 ki va (va_up sp' left (sp' i)) (va_up sg' left (sg' i)) (upd sk' left (sk' i)) (upd sv' left (sv' i)) sc og ++ wR cI r0 r1 r2 r3 r4 nu st le te' ma ds dl ke') := hD
          refine lv_iinc (v := nI (left + 1)) (lv' := [(2, .int (nI (left + 1))), (0, .ref p0), (1, .int (nI pl)), (3, .int (nI i))]) hx hb dX0_forgetSaved_47 hl (k := 2) rfl (show (nI left) + Int32.ofInt (1) = nI (left + 1) from nI_1 left) (by decide) rfl (fun ls hl => ?_)
          refine lv_iinc (v := nI (i + 1)) (lv' := [(3, .int (nI (i + 1))), (2, .int (nI (left + 1))), (0, .ref p0), (1, .int (nI pl))]) hx hb dX0_forgetSaved_50 hl (k := 3) rfl (show (nI i) + Int32.ofInt (1) = nI (i + 1) from nI_1 i) (by decide) rfl (fun ls hl => ?_)
          refine lv_goto (tgt := 4) hx hb dX0_forgetSaved_53 (by decide) ?_
          exact ih _ _ _ _ _ _ _ _ _ _ _ (by omega) (by omega) (fun j h1 h2 => by rw [va_up_ne _ _ (by omega)]; exact hsp j (by omega) h2) (by rw [← hF, forgF, if_neg (fun h => c19 (by rw [h]))]) hP hD hS (lv_sub hl [2, 3, 1, 0] rfl)
        · refine lv_aload_n hx hb dX0_forgetSaved_22 rfl (lv_at hl 0 rfl) ?_
          refine lv_aload_n hx hb dX0_forgetSaved_23 rfl (lv_at hl 0 rfl) ?_
          refine va_get (D := (dC, dI)) (ci := 0) (v := .ref p5) (C := RX0) (T := TX0) (N := 9) hx hb hts iX0 hown hK hP 0 rfl rfl 5 (by decide) l24 (fun _ h9 => h9) rfl dX0_forgetSaved_24 ?_
          refine lv_iload_n hx hb dX0_forgetSaved_27 rfl (lv_at hl 3 rfl) ?_
          refine mv_iald hx hb hK hP 5 0 rfl rfl (k := i) (rfl) (by omega) (by decide) (v := sk' i) rfl dX0_forgetSaved_28 ?_
          refine lv_aload_n hx hb dX0_forgetSaved_29 rfl (lv_at hl 0 rfl) ?_
          refine va_get (D := (dC, dI)) (ci := 0) (v := .ref p6) (C := RX0) (T := TX0) (N := 9) hx hb hts iX0 hown hK hP 0 rfl rfl 6 (by decide) l27 (fun _ h9 => h9) rfl dX0_forgetSaved_30 ?_
          refine lv_iload_n hx hb dX0_forgetSaved_33 rfl (lv_at hl 3 rfl) ?_
          refine mv_iald hx hb hK hP 6 0 rfl rfl (k := i) (rfl) (by omega) (by decide) (v := sv' i) rfl dX0_forgetSaved_34 ?_
          have hP : va_P (dC, dI) vwCl ([] ++ (wP cI r0 p0 p1 p2 p3 p4 p5 p6 ki va sp' sg' sk' sv' sc og ++ wR cI r0 r1 r2 r3 r4 nu st le te' ma ds dl ke')) _ := hP
          have hD : va_D A ([] ++ (wP cI r0 p0 p1 p2 p3 p4 p5 p6 ki va sp' sg' sk' sv' sc og ++ wR cI r0 r1 r2 r3 r4 nu st le te' ma ds dl ke')) := hD
          refine m_wVv (As := [.int (sk' i), .int (sv' i)]) (rest := []) ⟨hx, hb, hml, hown, hts⟩ (c_X0_untell l dC dI cI r0 p0 p1 p2 p3 p4 p5 p6 ki va sp' sg' sk' sv' sc og r1 r2 r3 r4 nu st le te' ma ds dl ke' (sk' i) (sv' i) hm) (cwV 2 hts gX0_forgetSaved_X0_untell rfl rfl rfl (by decide +kernel) ⟨Nat.le_of_ble_eq_true rfl, Nat.le_of_ble_eq_true rfl⟩) hP hK hD hS hA 0 0 rfl rfl rfl hl.1 rfl (Nat.le_of_ble_eq_true rfl) dX0_forgetSaved_35 ⟨Nat.zero_le _, Nat.zero_le _⟩ (fun u H locs hw hP hD hS => ?_)
          subst hw
          have hP : va_P (dC, dI) vwCl (wP cI r0 p0 p1 p2 p3 p4 p5 p6 ki va sp' sg' sk' sv' sc og ++ wR cI r0 r1 r2 r3 r4 nu st le ((untellT ma le (sk' i) (sv' i) te' ke').1) ma ds dl ((untellT ma le (sk' i) (sv' i) te' ke').2)) _ := hP
          have hD : va_D A (wP cI r0 p0 p1 p2 p3 p4 p5 p6 ki va sp' sg' sk' sv' sc og ++ wR cI r0 r1 r2 r3 r4 nu st le ((untellT ma le (sk' i) (sv' i) te' ke').1) ma ds dl ((untellT ma le (sk' i) (sv' i) te' ke').2)) := hD
          refine lv_goto (tgt := 50) hx hb dX0_forgetSaved_38 (by decide) ?_
          refine lv_iinc (v := nI (i + 1)) (lv' := [(3, .int (nI (i + 1))), (0, .ref p0), (1, .int (nI pl)), (2, .int (nI left))]) hx hb dX0_forgetSaved_50 hl (k := 3) rfl (show (nI i) + Int32.ofInt (1) = nI (i + 1) from nI_1 i) (by decide) rfl (fun ls hl => ?_)
          refine lv_goto (tgt := 4) hx hb dX0_forgetSaved_53 (by decide) ?_
          exact ih _ _ _ _ _ _ _ _ _ _ _ (by omega) (by omega) (fun j h1 h2 => hsp j (by omega) h2) (by rw [← hF, forgF, if_pos ((nI_eq h4 (by omega)).mp c19)]) hP hD hS (lv_sub hl [1, 2, 3, 0] rfl)
  refine lv_iconst (v := 0) hx hb dX0_forgetSaved_0 (by decide) ?_
  refine lv_istore_n (lv' := [(2, .int 0), (0, .ref p0), (1, .int (nI pl))]) hx hb dX0_forgetSaved_1 rfl hl (by decide) rfl (fun ls hl => ?_)
  refine lv_iconst (v := 0) hx hb dX0_forgetSaved_2 (by decide) ?_
  refine lv_istore_n (lv' := [(3, .int 0), (2, .int 0), (0, .ref p0), (1, .int (nI pl))]) hx hb dX0_forgetSaved_3 rfl hl (by decide) rfl (fun ls hl => ?_)
  exact loop sc 0 0 sp sg sk sv te ke _ _ _ rfl (Nat.le_refl _) (fun j _ h => hsp j h) rfl hP hD hS (lv_sub hl [2, 3, 1, 0] rfl)
theorem mustB_lt {sp sg : Nat → Nat} {sc og pl : Nat} (h : mustB sp sg sc og pl = true) : sc < 512 := by
  unfold mustB at h
  by_cases h0 : og = 0
  · rw [if_pos h0] at h; cases h
  · by_cases h5 : 512 ≤ sc
    · rw [if_neg h0, if_pos h5] at h; cases h
    · omega
set_option maxHeartbeats 4000000 in
set_option maxRecDepth 100000 in
theorem c_X0_assign (l : Launch) (dC : Nat → ClassId) (dI : Nat → Nat → Nat) (cI : ClassId) (r0 p0 p1 p2 p3 p4 p5 p6 : Nat) (ki va : Nat → Int32) (sp sg : Nat → Nat) (sk sv : Nat → Int32) (sc og r1 r2 r3 r4 : Nat) (nu : Nat → Int32) (st le : Nat → Nat) (te : Nat → Int32) (ma ds dl : Nat) (ke : Int32) (pl : Nat) (k v g : Int32) (hm : ma ≤ 513) (hpl : pl < 3367) (hsc : sc ≤ 512) (hog : og < 2 ^ 31) (hsg : ∀ j, j < sc → sg j < 2 ^ 31) (hsp : ∀ j, j < sc → sp j < 2 ^ 31) : mWv l yX0_assign wsX0_assign ({ frames := 4, cells := 0, slots := 0, locals := 87 }) (dC, dI) cI [.ref p0, .int (nI pl), .int k, .int v, .int g] (wP cI r0 p0 p1 p2 p3 p4 p5 p6 ki va sp sg sk sv sc og ++ wR cI r0 r1 r2 r3 r4 nu st le te ma ds dl ke) (fun u => u = assignF ma le pl k v g ki va sp sg sk sv sc og te ke) (fun u : (Nat → Int32) × (Nat → Int32) × (Nat → Nat) × (Nat → Nat) × (Nat → Int32) × (Nat → Int32) × Nat × (Nat → Int32) × Int32 => wP cI r0 p0 p1 p2 p3 p4 p5 p6 u.1 u.2.1 u.2.2.1 u.2.2.2.1 u.2.2.2.2.1 u.2.2.2.2.2.1 u.2.2.2.2.2.2.1 og ++ wR cI r0 r1 r2 r3 r4 nu st le u.2.2.2.2.2.2.2.1 ma ds dl u.2.2.2.2.2.2.2.2) := by
  refine m_ofWv (cc := cX0_assign) (maxL := 5) (by decide) rfl (Nat.le_of_ble_eq_true rfl) ?_
  intro p e s m args below meth c ls A Q hx hb hts hown hml hP hK hD hA hS hl hret
  have hown : s.vm.findClass RX0 = some m.cls := hown
  have hl : lv_has ls 5 [(0, .ref p0), (1, .int (nI pl)), (2, .int k), (3, .int v), (4, .int g)] := hl
  have l9 := hts (.fieldLink RX0 9 "GroupDesk$Places" "kinds" "[I") (by decide +kernel)
  have l15 := hts (.fieldLink RX0 15 "GroupDesk$Places" "values" "[I") (by decide +kernel)
  have iX0 : ∀ w ∈ u_ws RX0 TX0 9, w ∈ wsX0_assign := by decide +kernel
  refine lv_iload_n hx hb dX0_assign_0 rfl (lv_at hl 1 rfl) ?_
  refine m_rS (As := [.int (nI pl)]) (rest := []) ⟨hx, hb, hml, hown, hts⟩ (c_X0_isPlace l dC dI cI (nI pl)) (va_cwS 1 hts gX0_assign_X0_isPlace rfl rfl rfl (by decide +kernel) ⟨Nat.le_of_ble_eq_true rfl, Nat.le_of_ble_eq_true rfl⟩) ma_nil hK rfl hl.1 rfl (Nat.le_of_ble_eq_true rfl) dX0_assign_1 ⟨Nat.zero_le _, Nat.zero_le _⟩ (fun r hw => ?_)
  subst hw
  refine lv_if_ne (tgt := 8) hx hb dX0_assign_4 (by decide) (fun c4 => ?_) (fun c4 => ?_)
  · refine lv_aload_n hx hb dX0_assign_8 rfl (lv_at hl 0 rfl) ?_
    refine lv_iload_n hx hb dX0_assign_9 rfl (lv_at hl 2 rfl) ?_
    refine lv_iload_n hx hb dX0_assign_10 rfl (lv_at hl 3 rfl) ?_
    have hP : va_P (dC, dI) vwCl ([] ++ (wP cI r0 p0 p1 p2 p3 p4 p5 p6 ki va sp sg sk sv sc og ++ wR cI r0 r1 r2 r3 r4 nu st le te ma ds dl ke)) _ := hP
    have hD : va_D A ([] ++ (wP cI r0 p0 p1 p2 p3 p4 p5 p6 ki va sp sg sk sv sc og ++ wR cI r0 r1 r2 r3 r4 nu st le te ma ds dl ke)) := hD
    refine m_wVv (As := [.int k, .int v]) (rest := []) ⟨hx, hb, hml, hown, hts⟩ (c_X0_tell l dC dI cI r0 p0 p1 p2 p3 p4 p5 p6 ki va sp sg sk sv sc og r1 r2 r3 r4 nu st le te ma ds dl ke k v hm) (cwV 2 hts gX0_assign_X0_tell rfl rfl rfl (by decide +kernel) ⟨Nat.le_of_ble_eq_true rfl, Nat.le_of_ble_eq_true rfl⟩) hP hK hD hS hA 0 0 rfl rfl rfl hl.1 rfl (Nat.le_of_ble_eq_true rfl) dX0_assign_11 ⟨Nat.zero_le _, Nat.zero_le _⟩ (fun u H locs hw hP hD hS => ?_)
    subst hw
    have hP : va_P (dC, dI) vwCl (wP cI r0 p0 p1 p2 p3 p4 p5 p6 ki va sp sg sk sv sc og ++ wR cI r0 r1 r2 r3 r4 nu st le ((tellT ma le k v te ke).1) ma ds dl ((tellT ma le k v te ke).2)) _ := hP
    have hD : va_D A (wP cI r0 p0 p1 p2 p3 p4 p5 p6 ki va sp sg sk sv sc og ++ wR cI r0 r1 r2 r3 r4 nu st le ((tellT ma le k v te ke).1) ma ds dl ((tellT ma le k v te ke).2)) := hD
    refine lv_iload hx hb dX0_assign_14 (lv_at hl 4 rfl) ?_
    refine lv_if_eq (tgt := 24) hx hb dX0_assign_16 (by decide) (fun c16 => ?_) (fun c16 => ?_)
    · refine lv_iload hx hb dX0_assign_24 (lv_at hl 4 rfl) ?_
      refine lv_if_ne (tgt := 45) hx hb dX0_assign_26 (by decide) (fun c26 => ?_) (fun c26 => ?_)
      · exact absurd c16 c26
      · have h26 := c26
        refine lv_aload_n hx hb dX0_assign_29 rfl (lv_at hl 0 rfl) ?_
        refine lv_iload_n hx hb dX0_assign_30 rfl (lv_at hl 1 rfl) ?_
        refine m_rV (As := [.int (nI pl)]) (rest := []) ⟨hx, hb, hml, hown, hts⟩ (c_X0_mustSave l dC dI cI r0 p0 p1 p2 p3 p4 p5 p6 ki va sp sg sk sv sc og pl hpl hsc hog hsg hsp) (cwV 1 hts gX0_assign_X0_mustSave rfl rfl rfl (by decide +kernel) ⟨Nat.le_of_ble_eq_true rfl, Nat.le_of_ble_eq_true rfl⟩) (ma_Pl hP) hK 0 0 rfl rfl rfl hl.1 rfl (Nat.le_of_ble_eq_true rfl) dX0_assign_31 ⟨Nat.zero_le _, Nat.zero_le _⟩ (fun r hw => ?_)
        subst hw
        refine lv_if_eq (tgt := 45) hx hb dX0_assign_34 (by decide) (fun c34 => ?_) (fun c34 => ?_)
        · have hj := b2i_0 c34
          refine lv_aload_n hx hb dX0_assign_45 rfl (lv_at hl 0 rfl) ?_
          refine lv_aload_n hx hb dX0_assign_46 rfl (lv_at hl 0 rfl) ?_
          refine va_get (D := (dC, dI)) (ci := 0) (v := .ref p1) (C := RX0) (T := TX0) (N := 9) hx hb hts iX0 hown hK hP 0 rfl rfl 1 (by decide) l9 (fun _ h9 => h9) rfl dX0_assign_47 ?_
          refine lv_iload_n hx hb dX0_assign_50 rfl (lv_at hl 1 rfl) ?_
          refine mv_iald hx hb hK hP 1 0 rfl rfl (k := pl) (rfl) (hpl) (by decide) (v := ki pl) rfl dX0_assign_51 ?_
          refine lv_aload_n hx hb dX0_assign_52 rfl (lv_at hl 0 rfl) ?_
          refine va_get (D := (dC, dI)) (ci := 0) (v := .ref p2) (C := RX0) (T := TX0) (N := 9) hx hb hts iX0 hown hK hP 0 rfl rfl 2 (by decide) l15 (fun _ h9 => h9) rfl dX0_assign_53 ?_
          refine lv_iload_n hx hb dX0_assign_56 rfl (lv_at hl 1 rfl) ?_
          refine mv_iald hx hb hK hP 2 0 rfl rfl (k := pl) (rfl) (hpl) (by decide) (v := va pl) rfl dX0_assign_57 ?_
          have hP : va_P (dC, dI) vwCl ([] ++ (wP cI r0 p0 p1 p2 p3 p4 p5 p6 ki va sp sg sk sv sc og ++ wR cI r0 r1 r2 r3 r4 nu st le ((tellT ma le k v te ke).1) ma ds dl ((tellT ma le k v te ke).2))) _ := hP
          have hD : va_D A ([] ++ (wP cI r0 p0 p1 p2 p3 p4 p5 p6 ki va sp sg sk sv sc og ++ wR cI r0 r1 r2 r3 r4 nu st le ((tellT ma le k v te ke).1) ma ds dl ((tellT ma le k v te ke).2))) := hD
          refine m_wVv (As := [.int (ki pl), .int (va pl)]) (rest := []) ⟨hx, hb, hml, hown, hts⟩ (c_X0_untell l dC dI cI r0 p0 p1 p2 p3 p4 p5 p6 ki va sp sg sk sv sc og r1 r2 r3 r4 nu st le ((tellT ma le k v te ke).1) ma ds dl ((tellT ma le k v te ke).2) (ki pl) (va pl) hm) (cwV 2 hts gX0_assign_X0_untell rfl rfl rfl (by decide +kernel) ⟨Nat.le_of_ble_eq_true rfl, Nat.le_of_ble_eq_true rfl⟩) hP hK hD hS hA 0 0 rfl rfl rfl hl.1 rfl (Nat.le_of_ble_eq_true rfl) dX0_assign_58 ⟨Nat.zero_le _, Nat.zero_le _⟩ (fun u H locs hw hP hD hS => ?_)
          subst hw
          have hP : va_P (dC, dI) vwCl (wP cI r0 p0 p1 p2 p3 p4 p5 p6 ki va sp sg sk sv sc og ++ wR cI r0 r1 r2 r3 r4 nu st le ((untellT ma le (ki pl) (va pl) ((tellT ma le k v te ke).1) ((tellT ma le k v te ke).2)).1) ma ds dl ((untellT ma le (ki pl) (va pl) ((tellT ma le k v te ke).1) ((tellT ma le k v te ke).2)).2)) _ := hP
          have hD : va_D A (wP cI r0 p0 p1 p2 p3 p4 p5 p6 ki va sp sg sk sv sc og ++ wR cI r0 r1 r2 r3 r4 nu st le ((untellT ma le (ki pl) (va pl) ((tellT ma le k v te ke).1) ((tellT ma le k v te ke).2)).1) ma ds dl ((untellT ma le (ki pl) (va pl) ((tellT ma le k v te ke).1) ((tellT ma le k v te ke).2)).2)) := hD
          refine lv_aload_n hx hb dX0_assign_61 rfl (lv_at hl 0 rfl) ?_
          refine va_get (D := (dC, dI)) (ci := 0) (v := .ref p1) (C := RX0) (T := TX0) (N := 9) hx hb hts iX0 hown hK hP 0 rfl rfl 1 (by decide) l9 (fun _ h9 => h9) rfl dX0_assign_62 ?_
          refine lv_iload_n hx hb dX0_assign_65 rfl (lv_at hl 1 rfl) ?_
          refine lv_iload_n hx hb dX0_assign_66 rfl (lv_at hl 2 rfl) ?_
          refine mv_iast hx hb hK hP hD hS 1 0 rfl rfl (k := pl) (rfl) (hpl) (by decide) (f' := upd ki pl k) (rfl) dX0_assign_67 (fun H locs hP hD hS => ?_)
          have hP : va_P (dC, dI) vwCl (wP cI r0 p0 p1 p2 p3 p4 p5 p6 (upd ki pl k) va sp sg sk sv sc og ++ wR cI r0 r1 r2 r3 r4 nu st le ((untellT ma le (ki pl) (va pl) ((tellT ma le k v te ke).1) ((tellT ma le k v te ke).2)).1) ma ds dl ((untellT ma le (ki pl) (va pl) ((tellT ma le k v te ke).1) ((tellT ma le k v te ke).2)).2)) _ := hP
          have hD : va_D A (wP cI r0 p0 p1 p2 p3 p4 p5 p6 (upd ki pl k) va sp sg sk sv sc og ++ wR cI r0 r1 r2 r3 r4 nu st le ((untellT ma le (ki pl) (va pl) ((tellT ma le k v te ke).1) ((tellT ma le k v te ke).2)).1) ma ds dl ((untellT ma le (ki pl) (va pl) ((tellT ma le k v te ke).1) ((tellT ma le k v te ke).2)).2)) := hD
          refine lv_aload_n hx hb dX0_assign_68 rfl (lv_at hl 0 rfl) ?_
          refine va_get (D := (dC, dI)) (ci := 0) (v := .ref p2) (C := RX0) (T := TX0) (N := 9) hx hb hts iX0 hown hK hP 0 rfl rfl 2 (by decide) l15 (fun _ h9 => h9) rfl dX0_assign_69 ?_
          refine lv_iload_n hx hb dX0_assign_72 rfl (lv_at hl 1 rfl) ?_
          refine lv_iload_n hx hb dX0_assign_73 rfl (lv_at hl 3 rfl) ?_
          refine mv_iast hx hb hK hP hD hS 2 0 rfl rfl (k := pl) (rfl) (hpl) (by decide) (f' := upd va pl v) (rfl) dX0_assign_74 (fun H locs hP hD hS => ?_)
          have hP : va_P (dC, dI) vwCl (wP cI r0 p0 p1 p2 p3 p4 p5 p6 (upd ki pl k) (upd va pl v) sp sg sk sv sc og ++ wR cI r0 r1 r2 r3 r4 nu st le ((untellT ma le (ki pl) (va pl) ((tellT ma le k v te ke).1) ((tellT ma le k v te ke).2)).1) ma ds dl ((untellT ma le (ki pl) (va pl) ((tellT ma le k v te ke).1) ((tellT ma le k v te ke).2)).2)) _ := hP
          have hD : va_D A (wP cI r0 p0 p1 p2 p3 p4 p5 p6 (upd ki pl k) (upd va pl v) sp sg sk sv sc og ++ wR cI r0 r1 r2 r3 r4 nu st le ((untellT ma le (ki pl) (va pl) ((tellT ma le k v te ke).1) ((tellT ma le k v te ke).2)).1) ma ds dl ((untellT ma le (ki pl) (va pl) ((tellT ma le k v te ke).1) ((tellT ma le k v te ke).2)).2)) := hD
          exact hret ((upd ki pl k, upd va pl v, sp, sg, sk, sv, sc, (untellT ma le (ki pl) (va pl) ((tellT ma le k v te ke).1) ((tellT ma le k v te ke).2)).1, (untellT ma le (ki pl) (va pl) ((tellT ma le k v te ke).1) ((tellT ma le k v te ke).2)).2)) (by unfold assignF; rw [if_pos c16, hj]; rfl) hP hD hS dX0_assign_75
        · have hj := b2i_n c34
          refine lv_aload_n hx hb dX0_assign_37 rfl (lv_at hl 0 rfl) ?_
          refine lv_iload_n hx hb dX0_assign_38 rfl (lv_at hl 1 rfl) ?_
          have hP : va_P (dC, dI) vwCl ([] ++ (wP cI r0 p0 p1 p2 p3 p4 p5 p6 ki va sp sg sk sv sc og ++ wR cI r0 r1 r2 r3 r4 nu st le ((tellT ma le k v te ke).1) ma ds dl ((tellT ma le k v te ke).2))) _ := hP
          have hD : va_D A ([] ++ (wP cI r0 p0 p1 p2 p3 p4 p5 p6 ki va sp sg sk sv sc og ++ wR cI r0 r1 r2 r3 r4 nu st le ((tellT ma le k v te ke).1) ma ds dl ((tellT ma le k v te ke).2))) := hD
          refine m_wVv (As := [.int (nI pl)]) (rest := []) ⟨hx, hb, hml, hown, hts⟩ (c_X0_save l dC dI cI r0 p0 p1 p2 p3 p4 p5 p6 ki va sp sg sk sv sc og r1 r2 r3 r4 nu st le ((tellT ma le k v te ke).1) ma ds dl ((tellT ma le k v te ke).2) pl hpl (mustB_lt hj)) (cwV 1 hts gX0_assign_X0_save rfl rfl rfl (by decide +kernel) ⟨Nat.le_of_ble_eq_true rfl, Nat.le_of_ble_eq_true rfl⟩) hP hK hD hS hA 0 0 rfl rfl rfl hl.1 rfl (Nat.le_of_ble_eq_true rfl) dX0_assign_39 ⟨Nat.zero_le _, Nat.zero_le _⟩ (fun u H locs hw hP hD hS => ?_)
          subst hw
          have hP : va_P (dC, dI) vwCl (wP cI r0 p0 p1 p2 p3 p4 p5 p6 ki va (va_up sp sc pl) (va_up sg sc og) (upd sk sc (ki pl)) (upd sv sc (va pl)) (sc + 1) og ++ wR cI r0 r1 r2 r3 r4 nu st le ((tellT ma le k v te ke).1) ma ds dl ((tellT ma le k v te ke).2)) _ := hP
          have hD : va_D A (wP cI r0 p0 p1 p2 p3 p4 p5 p6 ki va (va_up sp sc pl) (va_up sg sc og) (upd sk sc (ki pl)) (upd sv sc (va pl)) (sc + 1) og ++ wR cI r0 r1 r2 r3 r4 nu st le ((tellT ma le k v te ke).1) ma ds dl ((tellT ma le k v te ke).2)) := hD
          refine lv_goto (tgt := 61) hx hb dX0_assign_42 (by decide) ?_
          refine lv_aload_n hx hb dX0_assign_61 rfl (lv_at hl 0 rfl) ?_
          refine va_get (D := (dC, dI)) (ci := 0) (v := .ref p1) (C := RX0) (T := TX0) (N := 9) hx hb hts iX0 hown hK hP 0 rfl rfl 1 (by decide) l9 (fun _ h9 => h9) rfl dX0_assign_62 ?_
          refine lv_iload_n hx hb dX0_assign_65 rfl (lv_at hl 1 rfl) ?_
          refine lv_iload_n hx hb dX0_assign_66 rfl (lv_at hl 2 rfl) ?_
          refine mv_iast hx hb hK hP hD hS 1 0 rfl rfl (k := pl) (rfl) (hpl) (by decide) (f' := upd ki pl k) (rfl) dX0_assign_67 (fun H locs hP hD hS => ?_)
          have hP : va_P (dC, dI) vwCl (wP cI r0 p0 p1 p2 p3 p4 p5 p6 (upd ki pl k) va (va_up sp sc pl) (va_up sg sc og) (upd sk sc (ki pl)) (upd sv sc (va pl)) (sc + 1) og ++ wR cI r0 r1 r2 r3 r4 nu st le ((tellT ma le k v te ke).1) ma ds dl ((tellT ma le k v te ke).2)) _ := hP
          have hD : va_D A (wP cI r0 p0 p1 p2 p3 p4 p5 p6 (upd ki pl k) va (va_up sp sc pl) (va_up sg sc og) (upd sk sc (ki pl)) (upd sv sc (va pl)) (sc + 1) og ++ wR cI r0 r1 r2 r3 r4 nu st le ((tellT ma le k v te ke).1) ma ds dl ((tellT ma le k v te ke).2)) := hD
          refine lv_aload_n hx hb dX0_assign_68 rfl (lv_at hl 0 rfl) ?_
          refine va_get (D := (dC, dI)) (ci := 0) (v := .ref p2) (C := RX0) (T := TX0) (N := 9) hx hb hts iX0 hown hK hP 0 rfl rfl 2 (by decide) l15 (fun _ h9 => h9) rfl dX0_assign_69 ?_
          refine lv_iload_n hx hb dX0_assign_72 rfl (lv_at hl 1 rfl) ?_
          refine lv_iload_n hx hb dX0_assign_73 rfl (lv_at hl 3 rfl) ?_
          refine mv_iast hx hb hK hP hD hS 2 0 rfl rfl (k := pl) (rfl) (hpl) (by decide) (f' := upd va pl v) (rfl) dX0_assign_74 (fun H locs hP hD hS => ?_)
          have hP : va_P (dC, dI) vwCl (wP cI r0 p0 p1 p2 p3 p4 p5 p6 (upd ki pl k) (upd va pl v) (va_up sp sc pl) (va_up sg sc og) (upd sk sc (ki pl)) (upd sv sc (va pl)) (sc + 1) og ++ wR cI r0 r1 r2 r3 r4 nu st le ((tellT ma le k v te ke).1) ma ds dl ((tellT ma le k v te ke).2)) _ := hP
          have hD : va_D A (wP cI r0 p0 p1 p2 p3 p4 p5 p6 (upd ki pl k) (upd va pl v) (va_up sp sc pl) (va_up sg sc og) (upd sk sc (ki pl)) (upd sv sc (va pl)) (sc + 1) og ++ wR cI r0 r1 r2 r3 r4 nu st le ((tellT ma le k v te ke).1) ma ds dl ((tellT ma le k v te ke).2)) := hD
          exact hret ((upd ki pl k, upd va pl v, va_up sp sc pl, va_up sg sc og, upd sk sc (ki pl), upd sv sc (va pl), sc + 1, (tellT ma le k v te ke).1, (tellT ma le k v te ke).2)) (by unfold assignF; rw [if_pos c16, hj]; rfl) hP hD hS dX0_assign_75
    · refine lv_aload_n hx hb dX0_assign_19 rfl (lv_at hl 0 rfl) ?_
      refine lv_iload_n hx hb dX0_assign_20 rfl (lv_at hl 1 rfl) ?_
      have hP : va_P (dC, dI) vwCl ([] ++ (wP cI r0 p0 p1 p2 p3 p4 p5 p6 ki va sp sg sk sv sc og ++ wR cI r0 r1 r2 r3 r4 nu st le ((tellT ma le k v te ke).1) ma ds dl ((tellT ma le k v te ke).2))) _ := hP
      have hD : va_D A ([] ++ (wP cI r0 p0 p1 p2 p3 p4 p5 p6 ki va sp sg sk sv sc og ++ wR cI r0 r1 r2 r3 r4 nu st le ((tellT ma le k v te ke).1) ma ds dl ((tellT ma le k v te ke).2))) := hD
      refine m_wVv (As := [.int (nI pl)]) (rest := []) ⟨hx, hb, hml, hown, hts⟩ (c_X0_forgetSaved l dC dI cI r0 p0 p1 p2 p3 p4 p5 p6 ki va sp sg sk sv sc og r1 r2 r3 r4 nu st le ((tellT ma le k v te ke).1) ma ds dl ((tellT ma le k v te ke).2) pl hm hpl hsc hsp) (cwV 1 hts gX0_assign_X0_forgetSaved rfl rfl rfl (by decide +kernel) ⟨Nat.le_of_ble_eq_true rfl, Nat.le_of_ble_eq_true rfl⟩) hP hK hD hS hA 0 0 rfl rfl rfl hl.1 rfl (Nat.le_of_ble_eq_true rfl) dX0_assign_21 ⟨Nat.zero_le _, Nat.zero_le _⟩ (fun u H locs hw hP hD hS => ?_)
      subst hw
      have hP : va_P (dC, dI) vwCl (wP cI r0 p0 p1 p2 p3 p4 p5 p6 ki va ((forgF ma le pl sc 0 0 sp sg sk sv ((tellT ma le k v te ke).1) ((tellT ma le k v te ke).2)).2.1) ((forgF ma le pl sc 0 0 sp sg sk sv ((tellT ma le k v te ke).1) ((tellT ma le k v te ke).2)).2.2.1) ((forgF ma le pl sc 0 0 sp sg sk sv ((tellT ma le k v te ke).1) ((tellT ma le k v te ke).2)).2.2.2.1) ((forgF ma le pl sc 0 0 sp sg sk sv ((tellT ma le k v te ke).1) ((tellT ma le k v te ke).2)).2.2.2.2.1) ((forgF ma le pl sc 0 0 sp sg sk sv ((tellT ma le k v te ke).1) ((tellT ma le k v te ke).2)).1) og ++ wR cI r0 r1 r2 r3 r4 nu st le ((forgF ma le pl sc 0 0 sp sg sk sv ((tellT ma le k v te ke).1) ((tellT ma le k v te ke).2)).2.2.2.2.2.1) ma ds dl ((forgF ma le pl sc 0 0 sp sg sk sv ((tellT ma le k v te ke).1) ((tellT ma le k v te ke).2)).2.2.2.2.2.2)) _ := hP
      have hD : va_D A (wP cI r0 p0 p1 p2 p3 p4 p5 p6 ki va ((forgF ma le pl sc 0 0 sp sg sk sv ((tellT ma le k v te ke).1) ((tellT ma le k v te ke).2)).2.1) ((forgF ma le pl sc 0 0 sp sg sk sv ((tellT ma le k v te ke).1) ((tellT ma le k v te ke).2)).2.2.1) ((forgF ma le pl sc 0 0 sp sg sk sv ((tellT ma le k v te ke).1) ((tellT ma le k v te ke).2)).2.2.2.1) ((forgF ma le pl sc 0 0 sp sg sk sv ((tellT ma le k v te ke).1) ((tellT ma le k v te ke).2)).2.2.2.2.1) ((forgF ma le pl sc 0 0 sp sg sk sv ((tellT ma le k v te ke).1) ((tellT ma le k v te ke).2)).1) og ++ wR cI r0 r1 r2 r3 r4 nu st le ((forgF ma le pl sc 0 0 sp sg sk sv ((tellT ma le k v te ke).1) ((tellT ma le k v te ke).2)).2.2.2.2.2.1) ma ds dl ((forgF ma le pl sc 0 0 sp sg sk sv ((tellT ma le k v te ke).1) ((tellT ma le k v te ke).2)).2.2.2.2.2.2)) := hD
      refine lv_iload hx hb dX0_assign_24 (lv_at hl 4 rfl) ?_
      refine lv_if_ne (tgt := 45) hx hb dX0_assign_26 (by decide) (fun c26 => ?_) (fun c26 => ?_)
      · have h26 := c26
        refine lv_aload_n hx hb dX0_assign_45 rfl (lv_at hl 0 rfl) ?_
        refine lv_aload_n hx hb dX0_assign_46 rfl (lv_at hl 0 rfl) ?_
        refine va_get (D := (dC, dI)) (ci := 0) (v := .ref p1) (C := RX0) (T := TX0) (N := 9) hx hb hts iX0 hown hK hP 0 rfl rfl 1 (by decide) l9 (fun _ h9 => h9) rfl dX0_assign_47 ?_
        refine lv_iload_n hx hb dX0_assign_50 rfl (lv_at hl 1 rfl) ?_
        refine mv_iald hx hb hK hP 1 0 rfl rfl (k := pl) (rfl) (hpl) (by decide) (v := ki pl) rfl dX0_assign_51 ?_
        refine lv_aload_n hx hb dX0_assign_52 rfl (lv_at hl 0 rfl) ?_
        refine va_get (D := (dC, dI)) (ci := 0) (v := .ref p2) (C := RX0) (T := TX0) (N := 9) hx hb hts iX0 hown hK hP 0 rfl rfl 2 (by decide) l15 (fun _ h9 => h9) rfl dX0_assign_53 ?_
        refine lv_iload_n hx hb dX0_assign_56 rfl (lv_at hl 1 rfl) ?_
        refine mv_iald hx hb hK hP 2 0 rfl rfl (k := pl) (rfl) (hpl) (by decide) (v := va pl) rfl dX0_assign_57 ?_
        have hP : va_P (dC, dI) vwCl ([] ++ (wP cI r0 p0 p1 p2 p3 p4 p5 p6 ki va ((forgF ma le pl sc 0 0 sp sg sk sv ((tellT ma le k v te ke).1) ((tellT ma le k v te ke).2)).2.1) ((forgF ma le pl sc 0 0 sp sg sk sv ((tellT ma le k v te ke).1) ((tellT ma le k v te ke).2)).2.2.1) ((forgF ma le pl sc 0 0 sp sg sk sv ((tellT ma le k v te ke).1) ((tellT ma le k v te ke).2)).2.2.2.1) ((forgF ma le pl sc 0 0 sp sg sk sv ((tellT ma le k v te ke).1) ((tellT ma le k v te ke).2)).2.2.2.2.1) ((forgF ma le pl sc 0 0 sp sg sk sv ((tellT ma le k v te ke).1) ((tellT ma le k v te ke).2)).1) og ++ wR cI r0 r1 r2 r3 r4 nu st le ((forgF ma le pl sc 0 0 sp sg sk sv ((tellT ma le k v te ke).1) ((tellT ma le k v te ke).2)).2.2.2.2.2.1) ma ds dl ((forgF ma le pl sc 0 0 sp sg sk sv ((tellT ma le k v te ke).1) ((tellT ma le k v te ke).2)).2.2.2.2.2.2))) _ := hP
        have hD : va_D A ([] ++ (wP cI r0 p0 p1 p2 p3 p4 p5 p6 ki va ((forgF ma le pl sc 0 0 sp sg sk sv ((tellT ma le k v te ke).1) ((tellT ma le k v te ke).2)).2.1) ((forgF ma le pl sc 0 0 sp sg sk sv ((tellT ma le k v te ke).1) ((tellT ma le k v te ke).2)).2.2.1) ((forgF ma le pl sc 0 0 sp sg sk sv ((tellT ma le k v te ke).1) ((tellT ma le k v te ke).2)).2.2.2.1) ((forgF ma le pl sc 0 0 sp sg sk sv ((tellT ma le k v te ke).1) ((tellT ma le k v te ke).2)).2.2.2.2.1) ((forgF ma le pl sc 0 0 sp sg sk sv ((tellT ma le k v te ke).1) ((tellT ma le k v te ke).2)).1) og ++ wR cI r0 r1 r2 r3 r4 nu st le ((forgF ma le pl sc 0 0 sp sg sk sv ((tellT ma le k v te ke).1) ((tellT ma le k v te ke).2)).2.2.2.2.2.1) ma ds dl ((forgF ma le pl sc 0 0 sp sg sk sv ((tellT ma le k v te ke).1) ((tellT ma le k v te ke).2)).2.2.2.2.2.2))) := hD
        refine m_wVv (As := [.int (ki pl), .int (va pl)]) (rest := []) ⟨hx, hb, hml, hown, hts⟩ (c_X0_untell l dC dI cI r0 p0 p1 p2 p3 p4 p5 p6 ki va ((forgF ma le pl sc 0 0 sp sg sk sv ((tellT ma le k v te ke).1) ((tellT ma le k v te ke).2)).2.1) ((forgF ma le pl sc 0 0 sp sg sk sv ((tellT ma le k v te ke).1) ((tellT ma le k v te ke).2)).2.2.1) ((forgF ma le pl sc 0 0 sp sg sk sv ((tellT ma le k v te ke).1) ((tellT ma le k v te ke).2)).2.2.2.1) ((forgF ma le pl sc 0 0 sp sg sk sv ((tellT ma le k v te ke).1) ((tellT ma le k v te ke).2)).2.2.2.2.1) ((forgF ma le pl sc 0 0 sp sg sk sv ((tellT ma le k v te ke).1) ((tellT ma le k v te ke).2)).1) og r1 r2 r3 r4 nu st le ((forgF ma le pl sc 0 0 sp sg sk sv ((tellT ma le k v te ke).1) ((tellT ma le k v te ke).2)).2.2.2.2.2.1) ma ds dl ((forgF ma le pl sc 0 0 sp sg sk sv ((tellT ma le k v te ke).1) ((tellT ma le k v te ke).2)).2.2.2.2.2.2) (ki pl) (va pl) hm) (cwV 2 hts gX0_assign_X0_untell rfl rfl rfl (by decide +kernel) ⟨Nat.le_of_ble_eq_true rfl, Nat.le_of_ble_eq_true rfl⟩) hP hK hD hS hA 0 0 rfl rfl rfl hl.1 rfl (Nat.le_of_ble_eq_true rfl) dX0_assign_58 ⟨Nat.zero_le _, Nat.zero_le _⟩ (fun u H locs hw hP hD hS => ?_)
        subst hw
        have hP : va_P (dC, dI) vwCl (wP cI r0 p0 p1 p2 p3 p4 p5 p6 ki va ((forgF ma le pl sc 0 0 sp sg sk sv ((tellT ma le k v te ke).1) ((tellT ma le k v te ke).2)).2.1) ((forgF ma le pl sc 0 0 sp sg sk sv ((tellT ma le k v te ke).1) ((tellT ma le k v te ke).2)).2.2.1) ((forgF ma le pl sc 0 0 sp sg sk sv ((tellT ma le k v te ke).1) ((tellT ma le k v te ke).2)).2.2.2.1) ((forgF ma le pl sc 0 0 sp sg sk sv ((tellT ma le k v te ke).1) ((tellT ma le k v te ke).2)).2.2.2.2.1) ((forgF ma le pl sc 0 0 sp sg sk sv ((tellT ma le k v te ke).1) ((tellT ma le k v te ke).2)).1) og ++ wR cI r0 r1 r2 r3 r4 nu st le ((untellT ma le (ki pl) (va pl) ((forgF ma le pl sc 0 0 sp sg sk sv ((tellT ma le k v te ke).1) ((tellT ma le k v te ke).2)).2.2.2.2.2.1) ((forgF ma le pl sc 0 0 sp sg sk sv ((tellT ma le k v te ke).1) ((tellT ma le k v te ke).2)).2.2.2.2.2.2)).1) ma ds dl ((untellT ma le (ki pl) (va pl) ((forgF ma le pl sc 0 0 sp sg sk sv ((tellT ma le k v te ke).1) ((tellT ma le k v te ke).2)).2.2.2.2.2.1) ((forgF ma le pl sc 0 0 sp sg sk sv ((tellT ma le k v te ke).1) ((tellT ma le k v te ke).2)).2.2.2.2.2.2)).2)) _ := hP
        have hD : va_D A (wP cI r0 p0 p1 p2 p3 p4 p5 p6 ki va ((forgF ma le pl sc 0 0 sp sg sk sv ((tellT ma le k v te ke).1) ((tellT ma le k v te ke).2)).2.1) ((forgF ma le pl sc 0 0 sp sg sk sv ((tellT ma le k v te ke).1) ((tellT ma le k v te ke).2)).2.2.1) ((forgF ma le pl sc 0 0 sp sg sk sv ((tellT ma le k v te ke).1) ((tellT ma le k v te ke).2)).2.2.2.1) ((forgF ma le pl sc 0 0 sp sg sk sv ((tellT ma le k v te ke).1) ((tellT ma le k v te ke).2)).2.2.2.2.1) ((forgF ma le pl sc 0 0 sp sg sk sv ((tellT ma le k v te ke).1) ((tellT ma le k v te ke).2)).1) og ++ wR cI r0 r1 r2 r3 r4 nu st le ((untellT ma le (ki pl) (va pl) ((forgF ma le pl sc 0 0 sp sg sk sv ((tellT ma le k v te ke).1) ((tellT ma le k v te ke).2)).2.2.2.2.2.1) ((forgF ma le pl sc 0 0 sp sg sk sv ((tellT ma le k v te ke).1) ((tellT ma le k v te ke).2)).2.2.2.2.2.2)).1) ma ds dl ((untellT ma le (ki pl) (va pl) ((forgF ma le pl sc 0 0 sp sg sk sv ((tellT ma le k v te ke).1) ((tellT ma le k v te ke).2)).2.2.2.2.2.1) ((forgF ma le pl sc 0 0 sp sg sk sv ((tellT ma le k v te ke).1) ((tellT ma le k v te ke).2)).2.2.2.2.2.2)).2)) := hD
        refine lv_aload_n hx hb dX0_assign_61 rfl (lv_at hl 0 rfl) ?_
        refine va_get (D := (dC, dI)) (ci := 0) (v := .ref p1) (C := RX0) (T := TX0) (N := 9) hx hb hts iX0 hown hK hP 0 rfl rfl 1 (by decide) l9 (fun _ h9 => h9) rfl dX0_assign_62 ?_
        refine lv_iload_n hx hb dX0_assign_65 rfl (lv_at hl 1 rfl) ?_
        refine lv_iload_n hx hb dX0_assign_66 rfl (lv_at hl 2 rfl) ?_
        refine mv_iast hx hb hK hP hD hS 1 0 rfl rfl (k := pl) (rfl) (hpl) (by decide) (f' := upd ki pl k) (rfl) dX0_assign_67 (fun H locs hP hD hS => ?_)
        have hP : va_P (dC, dI) vwCl (wP cI r0 p0 p1 p2 p3 p4 p5 p6 (upd ki pl k) va ((forgF ma le pl sc 0 0 sp sg sk sv ((tellT ma le k v te ke).1) ((tellT ma le k v te ke).2)).2.1) ((forgF ma le pl sc 0 0 sp sg sk sv ((tellT ma le k v te ke).1) ((tellT ma le k v te ke).2)).2.2.1) ((forgF ma le pl sc 0 0 sp sg sk sv ((tellT ma le k v te ke).1) ((tellT ma le k v te ke).2)).2.2.2.1) ((forgF ma le pl sc 0 0 sp sg sk sv ((tellT ma le k v te ke).1) ((tellT ma le k v te ke).2)).2.2.2.2.1) ((forgF ma le pl sc 0 0 sp sg sk sv ((tellT ma le k v te ke).1) ((tellT ma le k v te ke).2)).1) og ++ wR cI r0 r1 r2 r3 r4 nu st le ((untellT ma le (ki pl) (va pl) ((forgF ma le pl sc 0 0 sp sg sk sv ((tellT ma le k v te ke).1) ((tellT ma le k v te ke).2)).2.2.2.2.2.1) ((forgF ma le pl sc 0 0 sp sg sk sv ((tellT ma le k v te ke).1) ((tellT ma le k v te ke).2)).2.2.2.2.2.2)).1) ma ds dl ((untellT ma le (ki pl) (va pl) ((forgF ma le pl sc 0 0 sp sg sk sv ((tellT ma le k v te ke).1) ((tellT ma le k v te ke).2)).2.2.2.2.2.1) ((forgF ma le pl sc 0 0 sp sg sk sv ((tellT ma le k v te ke).1) ((tellT ma le k v te ke).2)).2.2.2.2.2.2)).2)) _ := hP
        have hD : va_D A (wP cI r0 p0 p1 p2 p3 p4 p5 p6 (upd ki pl k) va ((forgF ma le pl sc 0 0 sp sg sk sv ((tellT ma le k v te ke).1) ((tellT ma le k v te ke).2)).2.1) ((forgF ma le pl sc 0 0 sp sg sk sv ((tellT ma le k v te ke).1) ((tellT ma le k v te ke).2)).2.2.1) ((forgF ma le pl sc 0 0 sp sg sk sv ((tellT ma le k v te ke).1) ((tellT ma le k v te ke).2)).2.2.2.1) ((forgF ma le pl sc 0 0 sp sg sk sv ((tellT ma le k v te ke).1) ((tellT ma le k v te ke).2)).2.2.2.2.1) ((forgF ma le pl sc 0 0 sp sg sk sv ((tellT ma le k v te ke).1) ((tellT ma le k v te ke).2)).1) og ++ wR cI r0 r1 r2 r3 r4 nu st le ((untellT ma le (ki pl) (va pl) ((forgF ma le pl sc 0 0 sp sg sk sv ((tellT ma le k v te ke).1) ((tellT ma le k v te ke).2)).2.2.2.2.2.1) ((forgF ma le pl sc 0 0 sp sg sk sv ((tellT ma le k v te ke).1) ((tellT ma le k v te ke).2)).2.2.2.2.2.2)).1) ma ds dl ((untellT ma le (ki pl) (va pl) ((forgF ma le pl sc 0 0 sp sg sk sv ((tellT ma le k v te ke).1) ((tellT ma le k v te ke).2)).2.2.2.2.2.1) ((forgF ma le pl sc 0 0 sp sg sk sv ((tellT ma le k v te ke).1) ((tellT ma le k v te ke).2)).2.2.2.2.2.2)).2)) := hD
        refine lv_aload_n hx hb dX0_assign_68 rfl (lv_at hl 0 rfl) ?_
        refine va_get (D := (dC, dI)) (ci := 0) (v := .ref p2) (C := RX0) (T := TX0) (N := 9) hx hb hts iX0 hown hK hP 0 rfl rfl 2 (by decide) l15 (fun _ h9 => h9) rfl dX0_assign_69 ?_
        refine lv_iload_n hx hb dX0_assign_72 rfl (lv_at hl 1 rfl) ?_
        refine lv_iload_n hx hb dX0_assign_73 rfl (lv_at hl 3 rfl) ?_
        refine mv_iast hx hb hK hP hD hS 2 0 rfl rfl (k := pl) (rfl) (hpl) (by decide) (f' := upd va pl v) (rfl) dX0_assign_74 (fun H locs hP hD hS => ?_)
        have hP : va_P (dC, dI) vwCl (wP cI r0 p0 p1 p2 p3 p4 p5 p6 (upd ki pl k) (upd va pl v) ((forgF ma le pl sc 0 0 sp sg sk sv ((tellT ma le k v te ke).1) ((tellT ma le k v te ke).2)).2.1) ((forgF ma le pl sc 0 0 sp sg sk sv ((tellT ma le k v te ke).1) ((tellT ma le k v te ke).2)).2.2.1) ((forgF ma le pl sc 0 0 sp sg sk sv ((tellT ma le k v te ke).1) ((tellT ma le k v te ke).2)).2.2.2.1) ((forgF ma le pl sc 0 0 sp sg sk sv ((tellT ma le k v te ke).1) ((tellT ma le k v te ke).2)).2.2.2.2.1) ((forgF ma le pl sc 0 0 sp sg sk sv ((tellT ma le k v te ke).1) ((tellT ma le k v te ke).2)).1) og ++ wR cI r0 r1 r2 r3 r4 nu st le ((untellT ma le (ki pl) (va pl) ((forgF ma le pl sc 0 0 sp sg sk sv ((tellT ma le k v te ke).1) ((tellT ma le k v te ke).2)).2.2.2.2.2.1) ((forgF ma le pl sc 0 0 sp sg sk sv ((tellT ma le k v te ke).1) ((tellT ma le k v te ke).2)).2.2.2.2.2.2)).1) ma ds dl ((untellT ma le (ki pl) (va pl) ((forgF ma le pl sc 0 0 sp sg sk sv ((tellT ma le k v te ke).1) ((tellT ma le k v te ke).2)).2.2.2.2.2.1) ((forgF ma le pl sc 0 0 sp sg sk sv ((tellT ma le k v te ke).1) ((tellT ma le k v te ke).2)).2.2.2.2.2.2)).2)) _ := hP
        have hD : va_D A (wP cI r0 p0 p1 p2 p3 p4 p5 p6 (upd ki pl k) (upd va pl v) ((forgF ma le pl sc 0 0 sp sg sk sv ((tellT ma le k v te ke).1) ((tellT ma le k v te ke).2)).2.1) ((forgF ma le pl sc 0 0 sp sg sk sv ((tellT ma le k v te ke).1) ((tellT ma le k v te ke).2)).2.2.1) ((forgF ma le pl sc 0 0 sp sg sk sv ((tellT ma le k v te ke).1) ((tellT ma le k v te ke).2)).2.2.2.1) ((forgF ma le pl sc 0 0 sp sg sk sv ((tellT ma le k v te ke).1) ((tellT ma le k v te ke).2)).2.2.2.2.1) ((forgF ma le pl sc 0 0 sp sg sk sv ((tellT ma le k v te ke).1) ((tellT ma le k v te ke).2)).1) og ++ wR cI r0 r1 r2 r3 r4 nu st le ((untellT ma le (ki pl) (va pl) ((forgF ma le pl sc 0 0 sp sg sk sv ((tellT ma le k v te ke).1) ((tellT ma le k v te ke).2)).2.2.2.2.2.1) ((forgF ma le pl sc 0 0 sp sg sk sv ((tellT ma le k v te ke).1) ((tellT ma le k v te ke).2)).2.2.2.2.2.2)).1) ma ds dl ((untellT ma le (ki pl) (va pl) ((forgF ma le pl sc 0 0 sp sg sk sv ((tellT ma le k v te ke).1) ((tellT ma le k v te ke).2)).2.2.2.2.2.1) ((forgF ma le pl sc 0 0 sp sg sk sv ((tellT ma le k v te ke).1) ((tellT ma le k v te ke).2)).2.2.2.2.2.2)).2)) := hD
        exact hret ((upd ki pl k, upd va pl v, (forgF ma le pl sc 0 0 sp sg sk sv ((tellT ma le k v te ke).1) ((tellT ma le k v te ke).2)).2.1, (forgF ma le pl sc 0 0 sp sg sk sv ((tellT ma le k v te ke).1) ((tellT ma le k v te ke).2)).2.2.1, (forgF ma le pl sc 0 0 sp sg sk sv ((tellT ma le k v te ke).1) ((tellT ma le k v te ke).2)).2.2.2.1, (forgF ma le pl sc 0 0 sp sg sk sv ((tellT ma le k v te ke).1) ((tellT ma le k v te ke).2)).2.2.2.2.1, (forgF ma le pl sc 0 0 sp sg sk sv ((tellT ma le k v te ke).1) ((tellT ma le k v te ke).2)).1, (untellT ma le (ki pl) (va pl) ((forgF ma le pl sc 0 0 sp sg sk sv ((tellT ma le k v te ke).1) ((tellT ma le k v te ke).2)).2.2.2.2.2.1) ((forgF ma le pl sc 0 0 sp sg sk sv ((tellT ma le k v te ke).1) ((tellT ma le k v te ke).2)).2.2.2.2.2.2)).1, (untellT ma le (ki pl) (va pl) ((forgF ma le pl sc 0 0 sp sg sk sv ((tellT ma le k v te ke).1) ((tellT ma le k v te ke).2)).2.2.2.2.2.1) ((forgF ma le pl sc 0 0 sp sg sk sv ((tellT ma le k v te ke).1) ((tellT ma le k v te ke).2)).2.2.2.2.2.2)).2)) (by unfold assignF; rw [if_neg c16]) hP hD hS dX0_assign_75
      · exact absurd c26 c16
  · exact absurd (b2i_0 c4) (by rw [isR_nI (by decide) hpl]; decide)
