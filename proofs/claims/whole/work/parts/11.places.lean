set_option maxHeartbeats 4000000 in
set_option maxRecDepth 100000 in
theorem c_X0_isPlace (l : Launch) (dC : Nat → ClassId) (dI : Nat → Nat → Nat) (cI : ClassId) (x : Int32)  : mRi l yX0_isPlace wsX0_isPlace ({ frames := 0, cells := 0, slots := 0, locals := 0 }) (dC, dI) cI [.int x] ([]) (fun r => r = b2i (isR 3367 x)) := by
  refine m_ofR (cc := cX0_isPlace) (maxL := 1) (by decide) rfl (Nat.le_of_ble_eq_true rfl) ?_
  intro p e s m args below meth c ls Q hx hb hts hown hml hP hK hl hret
  have hown : s.vm.findClass RX0 = some m.cls := hown
  have hl : lv_has ls 1 [(0, .int x)] := hl
  refine lv_iload_n hx hb dX0_isPlace_0 rfl (lv_at hl 0 rfl) ?_
  refine lv_if_lt (tgt := 15) hx hb dX0_isPlace_1 (by decide) (fun c1 => ?_) (fun c1 => ?_)
  · refine lv_iconst (v := 0) hx hb dX0_isPlace_15 (by decide) ?_
    exact hret 0 (rfl) (by rw [isR_f1 c1]; rfl) dX0_isPlace_16
  · refine lv_iload_n hx hb dX0_isPlace_4 rfl (lv_at hl 0 rfl) ?_
    refine lv_sipush (v := nI 3367) hx hb dX0_isPlace_5 (by decide) ?_
    refine lv_icmp_ge (tgt := 15) hx hb dX0_isPlace_8 (by decide) (fun c8 => ?_) (fun c8 => ?_)
    · refine lv_iconst (v := 0) hx hb dX0_isPlace_15 (by decide) ?_
      exact hret 0 (rfl) (by rw [isR_f2 c8]; rfl) dX0_isPlace_16
    · refine lv_iconst (v := 1) hx hb dX0_isPlace_11 (by decide) ?_
      refine lv_goto (tgt := 16) hx hb dX0_isPlace_12 (by decide) ?_
      exact hret 1 (rfl) (by rw [isR_t c1 c8]; rfl) dX0_isPlace_16
set_option maxHeartbeats 4000000 in
set_option maxRecDepth 100000 in
theorem c_X0_depth (l : Launch) (dC : Nat → ClassId) (dI : Nat → Nat → Nat) (cI : ClassId) (r0 p0 p1 p2 p3 p4 p5 p6 : Nat) (ki va : Nat → Int32) (sp sg : Nat → Nat) (sk sv : Nat → Int32) (sc og : Nat)   : mRi l yX0_depth wsX0_depth ({ frames := 0, cells := 0, slots := 0, locals := 0 }) (dC, dI) cI [.ref p0] (wP cI r0 p0 p1 p2 p3 p4 p5 p6 ki va sp sg sk sv sc og) (fun r => r = nI og) := by
  refine m_ofR (cc := cX0_depth) (maxL := 1) (by decide) rfl (Nat.le_of_ble_eq_true rfl) ?_
  intro p e s m args below meth c ls Q hx hb hts hown hml hP hK hl hret
  have hown : s.vm.findClass RX0 = some m.cls := hown
  have hl : lv_has ls 1 [(0, .ref p0)] := hl
  have l34 := hts (.fieldLink RX0 34 "GroupDesk$Places" "openGroups" "I") (by decide +kernel)
  have iX0 : ∀ w ∈ u_ws RX0 TX0 9, w ∈ wsX0_depth := by decide +kernel
  refine lv_aload_n hx hb dX0_depth_0 rfl (lv_at hl 0 rfl) ?_
  refine va_get (D := (dC, dI)) (ci := 0) (v := .int (nI og)) (C := RX0) (T := TX0) (N := 9) hx hb hts iX0 hown hK hP 0 rfl rfl 8 (by decide) l34 (fun _ h9 => h9) rfl dX0_depth_1 ?_
  exact hret (nI og) (rfl) (rfl) dX0_depth_4
set_option maxHeartbeats 4000000 in
set_option maxRecDepth 100000 in
theorem c_X0_kindAt (l : Launch) (dC : Nat → ClassId) (dI : Nat → Nat → Nat) (cI : ClassId) (r0 p0 p1 p2 p3 p4 p5 p6 : Nat) (ki va : Nat → Int32) (sp sg : Nat → Nat) (sk sv : Nat → Int32) (sc og : Nat) (x : Int32)  : mRi l yX0_kindAt wsX0_kindAt ({ frames := 1, cells := 0, slots := 0, locals := 20 }) (dC, dI) cI [.ref p0, .int x] (wP cI r0 p0 p1 p2 p3 p4 p5 p6 ki va sp sg sk sv sc og) (fun r => r = atP ki x) := by
  refine m_ofR (cc := cX0_kindAt) (maxL := 2) (by decide) rfl (Nat.le_of_ble_eq_true rfl) ?_
  intro p e s m args below meth c ls Q hx hb hts hown hml hP hK hl hret
  have hown : s.vm.findClass RX0 = some m.cls := hown
  have hl : lv_has ls 2 [(0, .ref p0), (1, .int x)] := hl
  have l9 := hts (.fieldLink RX0 9 "GroupDesk$Places" "kinds" "[I") (by decide +kernel)
  have iX0 : ∀ w ∈ u_ws RX0 TX0 9, w ∈ wsX0_kindAt := by decide +kernel
  refine lv_iload_n hx hb dX0_kindAt_0 rfl (lv_at hl 1 rfl) ?_
  refine m_rS (As := [.int x]) (rest := []) ⟨hx, hb, hml, hown, hts⟩ (c_X0_isPlace l dC dI cI x) (va_cwS 1 hts gX0_kindAt_X0_isPlace rfl rfl rfl (by decide +kernel) ⟨Nat.le_of_ble_eq_true rfl, Nat.le_of_ble_eq_true rfl⟩) ma_nil hK rfl hl.1 rfl (Nat.le_of_ble_eq_true rfl) dX0_kindAt_1 ⟨Nat.zero_le _, Nat.zero_le _⟩ (fun r hw => ?_)
  subst hw
  refine lv_if_eq (tgt := 16) hx hb dX0_kindAt_4 (by decide) (fun c4 => ?_) (fun c4 => ?_)
  · have hj := b2i_0 c4
    refine lv_iconst (v := 0) hx hb dX0_kindAt_16 (by decide) ?_
    exact hret 0 (rfl) (by unfold atP; rw [hj]; rfl) dX0_kindAt_17
  · have hj := b2i_n c4
    have hi := isR_of (by decide) hj
    refine lv_aload_n hx hb dX0_kindAt_7 rfl (lv_at hl 0 rfl) ?_
    refine va_get (D := (dC, dI)) (ci := 0) (v := .ref p1) (C := RX0) (T := TX0) (N := 9) hx hb hts iX0 hown hK hP 0 rfl rfl 1 (by decide) l9 (fun _ h9 => h9) rfl dX0_kindAt_8 ?_
    refine lv_iload_n hx hb dX0_kindAt_11 rfl (lv_at hl 1 rfl) ?_
    refine mv_iald hx hb hK hP 1 0 rfl rfl (k := rj x) (hi.2) (hi.1) (by decide) (v := ki (rj x)) rfl dX0_kindAt_12 ?_
    refine lv_goto (tgt := 17) hx hb dX0_kindAt_13 (by decide) ?_
    exact hret (ki (rj x)) (rfl) (by unfold atP; rw [hj]; rfl) dX0_kindAt_17
set_option maxHeartbeats 4000000 in
set_option maxRecDepth 100000 in
theorem c_X0_valueAt (l : Launch) (dC : Nat → ClassId) (dI : Nat → Nat → Nat) (cI : ClassId) (r0 p0 p1 p2 p3 p4 p5 p6 : Nat) (ki va : Nat → Int32) (sp sg : Nat → Nat) (sk sv : Nat → Int32) (sc og : Nat) (x : Int32)  : mRi l yX0_valueAt wsX0_valueAt ({ frames := 1, cells := 0, slots := 0, locals := 20 }) (dC, dI) cI [.ref p0, .int x] (wP cI r0 p0 p1 p2 p3 p4 p5 p6 ki va sp sg sk sv sc og) (fun r => r = atP va x) := by
  refine m_ofR (cc := cX0_valueAt) (maxL := 2) (by decide) rfl (Nat.le_of_ble_eq_true rfl) ?_
  intro p e s m args below meth c ls Q hx hb hts hown hml hP hK hl hret
  have hown : s.vm.findClass RX0 = some m.cls := hown
  have hl : lv_has ls 2 [(0, .ref p0), (1, .int x)] := hl
  have l15 := hts (.fieldLink RX0 15 "GroupDesk$Places" "values" "[I") (by decide +kernel)
  have iX0 : ∀ w ∈ u_ws RX0 TX0 9, w ∈ wsX0_valueAt := by decide +kernel
  refine lv_iload_n hx hb dX0_valueAt_0 rfl (lv_at hl 1 rfl) ?_
  refine m_rS (As := [.int x]) (rest := []) ⟨hx, hb, hml, hown, hts⟩ (c_X0_isPlace l dC dI cI x) (va_cwS 1 hts gX0_valueAt_X0_isPlace rfl rfl rfl (by decide +kernel) ⟨Nat.le_of_ble_eq_true rfl, Nat.le_of_ble_eq_true rfl⟩) ma_nil hK rfl hl.1 rfl (Nat.le_of_ble_eq_true rfl) dX0_valueAt_1 ⟨Nat.zero_le _, Nat.zero_le _⟩ (fun r hw => ?_)
  subst hw
  refine lv_if_eq (tgt := 16) hx hb dX0_valueAt_4 (by decide) (fun c4 => ?_) (fun c4 => ?_)
  · have hj := b2i_0 c4
    refine lv_iconst (v := 0) hx hb dX0_valueAt_16 (by decide) ?_
    exact hret 0 (rfl) (by unfold atP; rw [hj]; rfl) dX0_valueAt_17
  · have hj := b2i_n c4
    have hi := isR_of (by decide) hj
    refine lv_aload_n hx hb dX0_valueAt_7 rfl (lv_at hl 0 rfl) ?_
    refine va_get (D := (dC, dI)) (ci := 0) (v := .ref p2) (C := RX0) (T := TX0) (N := 9) hx hb hts iX0 hown hK hP 0 rfl rfl 2 (by decide) l15 (fun _ h9 => h9) rfl dX0_valueAt_8 ?_
    refine lv_iload_n hx hb dX0_valueAt_11 rfl (lv_at hl 1 rfl) ?_
    refine mv_iald hx hb hK hP 2 0 rfl rfl (k := rj x) (hi.2) (hi.1) (by decide) (v := va (rj x)) rfl dX0_valueAt_12 ?_
    refine lv_goto (tgt := 17) hx hb dX0_valueAt_13 (by decide) ?_
    exact hret (va (rj x)) (rfl) (by unfold atP; rw [hj]; rfl) dX0_valueAt_17
set_option maxHeartbeats 4000000 in
set_option maxRecDepth 100000 in
theorem c_X0_mustSave (l : Launch) (dC : Nat → ClassId) (dI : Nat → Nat → Nat) (cI : ClassId) (r0 p0 p1 p2 p3 p4 p5 p6 : Nat) (ki va : Nat → Int32) (sp sg : Nat → Nat) (sk sv : Nat → Int32) (sc og : Nat) (pl : Nat) (hpl : pl < 3367) (hsc : sc ≤ 512) (hog : og < 2 ^ 31) (hsg : ∀ j, j < sc → sg j < 2 ^ 31) (hsp : ∀ j, j < sc → sp j < 2 ^ 31) : mRi l yX0_mustSave wsX0_mustSave ({ frames := 0, cells := 0, slots := 0, locals := 0 }) (dC, dI) cI [.ref p0, .int (nI pl)] (wP cI r0 p0 p1 p2 p3 p4 p5 p6 ki va sp sg sk sv sc og) (fun r => r = b2i (mustB sp sg sc og pl)) := by
  refine m_ofR (cc := cX0_mustSave) (maxL := 3) (by decide) rfl (Nat.le_of_ble_eq_true rfl) ?_
  intro p e s m args below meth c ls Q hx hb hts hown hml hP hK hl hret
  have hown : s.vm.findClass RX0 = some m.cls := hown
  have hl : lv_has ls 3 [(0, .ref p0), (1, .int (nI pl))] := hl
  have l34 := hts (.fieldLink RX0 34 "GroupDesk$Places" "openGroups" "I") (by decide +kernel)
  have l30 := hts (.fieldLink RX0 30 "GroupDesk$Places" "savedCount" "I") (by decide +kernel)
  have l18 := hts (.fieldLink RX0 18 "GroupDesk$Places" "savedPlaces" "[I") (by decide +kernel)
  have l21 := hts (.fieldLink RX0 21 "GroupDesk$Places" "savedGroups" "[I") (by decide +kernel)
  have iX0 : ∀ w ∈ u_ws RX0 TX0 9, w ∈ wsX0_mustSave := by decide +kernel
  have loop : ∀ (n : Nat) (ls : Array Slot), n ≤ sc → srch sp sg og pl n = srch sp sg og pl sc → lv_has ls 3 [(0, .ref p0), (1, .int (nI pl)), (2, .int (nI n - 1))] → ¬ og = 0 → ¬ 512 ≤ sc → W p l e ({ frames := 0, cells := 0, slots := 0, locals := 0 }) s m args below meth c s.heap [] 0 0 Q (F0 m 28 ls []) := by
    intro n
    induction n with
    | zero =>
      intro ls hn hF hl ho h5
      refine lv_iload_n hx hb dX0_mustSave_28 rfl (lv_at hl 2 rfl) ?_
      refine lv_if_lt (tgt := 63) hx hb dX0_mustSave_29 (by decide) (fun c29 => ?_) (fun c29 => ?_)
      · refine lv_iconst (v := 1) hx hb dX0_mustSave_63 (by decide) ?_
        exact hret 1 (rfl) (by unfold mustB; rw [if_neg ho, if_neg h5, ← hF]; rfl) dX0_mustSave_64
      · exact absurd (by decide) c29
    | succ n ih =>
      intro ls hn hF hl ho h5
      rw [nI_pred] at hl
      have h3 := hsg n (by omega)
      have h4 := hsp n (by omega)
      refine lv_iload_n hx hb dX0_mustSave_28 rfl (lv_at hl 2 rfl) ?_
      refine lv_if_lt (tgt := 63) hx hb dX0_mustSave_29 (by decide) (fun c29 => ?_) (fun c29 => ?_)
      · exact absurd c29 (nI_pos (by omega))
      · refine lv_aload_n hx hb dX0_mustSave_32 rfl (lv_at hl 0 rfl) ?_
        refine va_get (D := (dC, dI)) (ci := 0) (v := .ref p4) (C := RX0) (T := TX0) (N := 9) hx hb hts iX0 hown hK hP 0 rfl rfl 4 (by decide) l21 (fun _ h9 => h9) rfl dX0_mustSave_33 ?_
        refine lv_iload_n hx hb dX0_mustSave_36 rfl (lv_at hl 2 rfl) ?_
        refine mv_iald hx hb hK hP 4 0 rfl rfl (k := n) (rfl) (by omega) (by decide) (v := nI (sg n)) rfl dX0_mustSave_37 ?_
        refine lv_aload_n hx hb dX0_mustSave_38 rfl (lv_at hl 0 rfl) ?_
        refine va_get (D := (dC, dI)) (ci := 0) (v := .int (nI og)) (C := RX0) (T := TX0) (N := 9) hx hb hts iX0 hown hK hP 0 rfl rfl 8 (by decide) l34 (fun _ h9 => h9) rfl dX0_mustSave_39 ?_
        refine lv_icmp_ne (tgt := 63) hx hb dX0_mustSave_42 (by decide) (fun c42 => ?_) (fun c42 => ?_)
        · refine lv_iconst (v := 1) hx hb dX0_mustSave_63 (by decide) ?_
          exact hret 1 (rfl) (by unfold mustB; rw [if_neg ho, if_neg h5, ← hF, srch, if_neg (fun h => c42 (by rw [h]))]; rfl) dX0_mustSave_64
        · refine lv_aload_n hx hb dX0_mustSave_45 rfl (lv_at hl 0 rfl) ?_
          refine va_get (D := (dC, dI)) (ci := 0) (v := .ref p3) (C := RX0) (T := TX0) (N := 9) hx hb hts iX0 hown hK hP 0 rfl rfl 3 (by decide) l18 (fun _ h9 => h9) rfl dX0_mustSave_46 ?_
          refine lv_iload_n hx hb dX0_mustSave_49 rfl (lv_at hl 2 rfl) ?_
          refine mv_iald hx hb hK hP 3 0 rfl rfl (k := n) (rfl) (by omega) (by decide) (v := nI (sp n)) rfl dX0_mustSave_50 ?_
          refine lv_iload_n hx hb dX0_mustSave_51 rfl (lv_at hl 1 rfl) ?_
          refine lv_icmp_ne (tgt := 57) hx hb dX0_mustSave_52 (by decide) (fun c52 => ?_) (fun c52 => ?_)
          · refine lv_iinc (v := nI n - 1) (lv' := [(2, .int (nI n - 1)), (0, .ref p0), (1, .int (nI pl))]) hx hb dX0_mustSave_57 hl (k := 2) rfl (show (nI n) + Int32.ofInt (-1) = nI n - 1 from (Int32.sub_eq_add_neg (nI n) 1).symm) (by decide) rfl (fun ls hl => ?_)
            refine lv_goto (tgt := 28) hx hb dX0_mustSave_60 (by decide) ?_
            exact ih ls (by omega) (by rw [← hF, srch, if_pos ((nI_eq h3 hog).mp c42), if_neg (fun h => c52 (by rw [h]))]) (lv_sub hl [1, 2, 0] rfl) ho h5
          · refine lv_iconst (v := 0) hx hb dX0_mustSave_55 (by decide) ?_
            exact hret 0 (rfl) (by unfold mustB; rw [if_neg ho, if_neg h5, ← hF, srch, if_pos ((nI_eq h3 hog).mp c42), if_pos ((nI_eq h4 (by omega)).mp c52)]; rfl) dX0_mustSave_56
  refine lv_aload_n hx hb dX0_mustSave_0 rfl (lv_at hl 0 rfl) ?_
  refine va_get (D := (dC, dI)) (ci := 0) (v := .int (nI og)) (C := RX0) (T := TX0) (N := 9) hx hb hts iX0 hown hK hP 0 rfl rfl 8 (by decide) l34 (fun _ h9 => h9) rfl dX0_mustSave_1 ?_
  refine lv_if_eq (tgt := 19) hx hb dX0_mustSave_4 (by decide) (fun c4 => ?_) (fun c4 => ?_)
  · refine lv_iconst (v := 0) hx hb dX0_mustSave_19 (by decide) ?_
    exact hret 0 (rfl) (by unfold mustB; rw [if_pos ((nI_eq hog (by decide)).mp (c4.trans nI_0.symm))]; rfl) dX0_mustSave_20
  · refine lv_aload_n hx hb dX0_mustSave_7 rfl (lv_at hl 0 rfl) ?_
    refine va_get (D := (dC, dI)) (ci := 0) (v := .int (nI sc)) (C := RX0) (T := TX0) (N := 9) hx hb hts iX0 hown hK hP 0 rfl rfl 7 (by decide) l30 (fun _ h9 => h9) rfl dX0_mustSave_8 ?_
    refine lv_aload_n hx hb dX0_mustSave_11 rfl (lv_at hl 0 rfl) ?_
    refine va_get (D := (dC, dI)) (ci := 0) (v := .ref p3) (C := RX0) (T := TX0) (N := 9) hx hb hts iX0 hown hK hP 0 rfl rfl 3 (by decide) l18 (fun _ h9 => h9) rfl dX0_mustSave_12 ?_
    refine va_alen hx hb hK hP 3 0 rfl rfl (v := nI 512) rfl dX0_mustSave_15 ?_
    refine lv_icmp_lt (tgt := 21) hx hb dX0_mustSave_16 (by decide) (fun c16 => ?_) (fun c16 => ?_)
    · refine lv_aload_n hx hb dX0_mustSave_21 rfl (lv_at hl 0 rfl) ?_
      refine va_get (D := (dC, dI)) (ci := 0) (v := .int (nI sc)) (C := RX0) (T := TX0) (N := 9) hx hb hts iX0 hown hK hP 0 rfl rfl 7 (by decide) l30 (fun _ h9 => h9) rfl dX0_mustSave_22 ?_
      refine lv_iconst (v := 1) hx hb dX0_mustSave_25 (by decide) ?_
      refine lv_isub hx hb dX0_mustSave_26 ?_
      refine lv_istore_n (lv' := [(2, .int ((nI sc) - 1)), (0, .ref p0), (1, .int (nI pl))]) hx hb dX0_mustSave_27 rfl hl (by decide) rfl (fun ls hl => ?_)
      exact loop sc ls (Nat.le_refl _) rfl (lv_sub hl [1, 2, 0] rfl) (fun h => c4 (by rw [h]; rfl)) (fun h => absurd ((nI_ltI (by omega) (by omega)).mp c16) (by omega))
    · refine lv_iconst (v := 0) hx hb dX0_mustSave_19 (by decide) ?_
      exact hret 0 (rfl) (by unfold mustB; rw [if_neg (fun h => c4 (by rw [h]; rfl)), if_pos (Nat.le_of_not_lt fun h => c16 ((nI_ltI (by omega) (by omega)).mpr h))]; rfl) dX0_mustSave_20
set_option maxHeartbeats 4000000 in
set_option maxRecDepth 100000 in
theorem c_X0_enter (l : Launch) (dC : Nat → ClassId) (dI : Nat → Nat → Nat) (cI : ClassId) (r0 p0 p1 p2 p3 p4 p5 p6 : Nat) (ki va : Nat → Int32) (sp sg : Nat → Nat) (sk sv : Nat → Int32) (sc og r1 r2 r3 r4 : Nat) (nu : Nat → Int32) (st le : Nat → Nat) (te : Nat → Int32) (ma ds dl : Nat) (ke : Int32)  (hog : og < 2 ^ 31) : mWi l yX0_enter wsX0_enter ({ frames := 0, cells := 0, slots := 0, locals := 0 }) (dC, dI) cI [.ref p0] (wP cI r0 p0 p1 p2 p3 p4 p5 p6 ki va sp sg sk sv sc og ++ wR cI r0 r1 r2 r3 r4 nu st le te ma ds dl ke) (fun r u => r = (if og < 200 then ((1 : Int32), og + 1) else (0, og)).1 ∧ u = (if og < 200 then ((1 : Int32), og + 1) else (0, og)).2) (fun u : Nat => wP cI r0 p0 p1 p2 p3 p4 p5 p6 ki va sp sg sk sv sc u ++ wR cI r0 r1 r2 r3 r4 nu st le te ma ds dl ke) := by
  refine m_ofWi (cc := cX0_enter) (maxL := 1) (by decide) rfl (Nat.le_of_ble_eq_true rfl) ?_
  intro p e s m args below meth c ls A Q hx hb hts hown hml hP hK hD hA hS hl hret
  have hown : s.vm.findClass RX0 = some m.cls := hown
  have hl : lv_has ls 1 [(0, .ref p0)] := hl
  have l34 := hts (.fieldLink RX0 34 "GroupDesk$Places" "openGroups" "I") (by decide +kernel)
  have iX0 : ∀ w ∈ u_ws RX0 TX0 9, w ∈ wsX0_enter := by decide +kernel
  refine lv_aload_n hx hb dX0_enter_0 rfl (lv_at hl 0 rfl) ?_
  refine va_get (D := (dC, dI)) (ci := 0) (v := .int (nI og)) (C := RX0) (T := TX0) (N := 9) hx hb hts iX0 hown hK hP 0 rfl rfl 8 (by decide) l34 (fun _ h9 => h9) rfl dX0_enter_1 ?_
  refine lv_sipush (v := nI 200) hx hb dX0_enter_4 (by decide) ?_
  refine lv_icmp_lt (tgt := 12) hx hb dX0_enter_7 (by decide) (fun c7 => ?_) (fun c7 => ?_)
  · refine lv_aload_n hx hb dX0_enter_12 rfl (lv_at hl 0 rfl) ?_
    refine lv_dup hx hb dX0_enter_13 rfl ?_
    refine va_get (D := (dC, dI)) (ci := 0) (v := .int (nI og)) (C := RX0) (T := TX0) (N := 9) hx hb hts iX0 hown hK hP 0 rfl rfl 8 (by decide) l34 (fun _ h9 => h9) rfl dX0_enter_14 ?_
    refine lv_iconst (v := 1) hx hb dX0_enter_17 (by decide) ?_
    refine lv_iadd hx hb dX0_enter_18 ?_
    refine mv_top (v := nI (og + 1)) (nI_1 og) ?_
    refine va_put (D := (dC, dI)) (ci := 0) (v := .int (nI (og + 1))) (ty := .int) (C := RX0) (T := TX0) (N := 9) hx hb hts iX0 tyX0 tyX0_ok nmX0 hown hK hP hD hS 0 rfl rfl 8 (by decide) l34 (fun _ h9 => h9) rfl (by decide +kernel) rfl rfl (Nat.le_of_ble_eq_true rfl) dX0_enter_19 (fun H locs hP hD hS => ?_)
    have hP : va_P (dC, dI) vwCl (wP cI r0 p0 p1 p2 p3 p4 p5 p6 ki va sp sg sk sv sc (og + 1) ++ wR cI r0 r1 r2 r3 r4 nu st le te ma ds dl ke) _ := hP
    have hD : va_D A (wP cI r0 p0 p1 p2 p3 p4 p5 p6 ki va sp sg sk sv sc (og + 1) ++ wR cI r0 r1 r2 r3 r4 nu st le te ma ds dl ke) := hD
    refine lv_iconst (v := 1) hx hb dX0_enter_22 (by decide) ?_
    exact hret 1 (og + 1) (rfl) (by rw [if_pos ((nI_ltI hog (by decide)).mp c7)]; exact ⟨rfl, rfl⟩) hP hD hS dX0_enter_23
  · refine lv_iconst (v := 0) hx hb dX0_enter_10 (by decide) ?_
    exact hret 0 og (rfl) (by rw [if_neg (fun h => c7 ((nI_ltI hog (by decide)).mpr h))]; exact ⟨rfl, rfl⟩) hP hD hS dX0_enter_11
set_option maxHeartbeats 4000000 in
set_option maxRecDepth 100000 in
theorem c_X0_tell (l : Launch) (dC : Nat → ClassId) (dI : Nat → Nat → Nat) (cI : ClassId) (r0 p0 p1 p2 p3 p4 p5 p6 : Nat) (ki va : Nat → Int32) (sp sg : Nat → Nat) (sk sv : Nat → Int32) (sc og r1 r2 r3 r4 : Nat) (nu : Nat → Int32) (st le : Nat → Nat) (te : Nat → Int32) (ma ds dl : Nat) (ke : Int32) (k x : Int32) (hm : ma ≤ 513) : mWv l yX0_tell wsX0_tell ({ frames := 2, cells := 0, slots := 0, locals := 42 }) (dC, dI) cI [.ref p0, .int k, .int x] (wP cI r0 p0 p1 p2 p3 p4 p5 p6 ki va sp sg sk sv sc og ++ wR cI r0 r1 r2 r3 r4 nu st le te ma ds dl ke) (fun u => u = tellT ma le k x te ke) (fun u : (Nat → Int32) × Int32 => wP cI r0 p0 p1 p2 p3 p4 p5 p6 ki va sp sg sk sv sc og ++ wR cI r0 r1 r2 r3 r4 nu st le u.1 ma ds dl u.2) := by
  refine m_ofWv (cc := cX0_tell) (maxL := 3) (by decide) rfl (Nat.le_of_ble_eq_true rfl) ?_
  intro p e s m args below meth c ls A Q hx hb hts hown hml hP hK hD hA hS hl hret
  have hown : s.vm.findClass RX0 = some m.cls := hown
  have hl : lv_has ls 3 [(0, .ref p0), (1, .int k), (2, .int x)] := hl
  have l37 := hts (.fieldLink RX0 37 "GroupDesk$Places" "rows" "LGroupDesk$Rows;") (by decide +kernel)
  have iX0 : ∀ w ∈ u_ws RX0 TX0 9, w ∈ wsX0_tell := by decide +kernel
  refine lv_iload_n hx hb dX0_tell_0 rfl (lv_at hl 1 rfl) ?_
  refine lv_iconst (v := 3) hx hb dX0_tell_1 (by decide) ?_
  refine lv_icmp_ne (tgt := 13) hx hb dX0_tell_2 (by decide) (fun c2 => ?_) (fun c2 => ?_)
  · exact hret ((te, ke)) (by unfold tellT; rw [if_neg c2]) hP hD hS dX0_tell_13
  · refine lv_aload_n hx hb dX0_tell_5 rfl (lv_at hl 0 rfl) ?_
    refine va_get (D := (dC, dI)) (ci := 0) (v := .ref r0) (C := RX0) (T := TX0) (N := 9) hx hb hts iX0 hown hK hP 0 rfl rfl 0 (by decide) l37 (fun _ h9 => h9) rfl dX0_tell_6 ?_
    refine lv_iload_n hx hb dX0_tell_9 rfl (lv_at hl 2 rfl) ?_
    have hP : va_P (dC, dI) vwCl ((wP cI r0 p0 p1 p2 p3 p4 p5 p6 ki va sp sg sk sv sc og) ++ (wR cI r0 r1 r2 r3 r4 nu st le te ma ds dl ke)) _ := hP
    have hD : va_D A ((wP cI r0 p0 p1 p2 p3 p4 p5 p6 ki va sp sg sk sv sc og) ++ (wR cI r0 r1 r2 r3 r4 nu st le te ma ds dl ke)) := hD
    refine m_wVv (As := [.int x]) (rest := []) ⟨hx, hb, hml, hown, hts⟩ (c_X1_addTeller l dC dI cI r0 r1 r2 r3 r4 nu st le te ma ds dl ke x hm) (cwV 1 hts gX0_tell_X1_addTeller rfl rfl rfl (by decide +kernel) ⟨Nat.le_of_ble_eq_true rfl, Nat.le_of_ble_eq_true rfl⟩) hP hK hD hS hA 1 0 rfl rfl rfl hl.1 rfl (Nat.le_of_ble_eq_true rfl) dX0_tell_10 ⟨Nat.zero_le _, Nat.zero_le _⟩ (fun u H locs hw hP hD hS => ?_)
    subst hw
    have hP : va_P (dC, dI) vwCl (wP cI r0 p0 p1 p2 p3 p4 p5 p6 ki va sp sg sk sv sc og ++ wR cI r0 r1 r2 r3 r4 nu st le ((addT ma le x te ke).1) ma ds dl ((addT ma le x te ke).2)) _ := hP
    have hD : va_D A (wP cI r0 p0 p1 p2 p3 p4 p5 p6 ki va sp sg sk sv sc og ++ wR cI r0 r1 r2 r3 r4 nu st le ((addT ma le x te ke).1) ma ds dl ((addT ma le x te ke).2)) := hD
    exact hret (((addT ma le x te ke).1, (addT ma le x te ke).2)) (by unfold tellT; rw [if_pos c2]) hP hD hS dX0_tell_13
set_option maxHeartbeats 4000000 in
set_option maxRecDepth 100000 in
theorem c_X0_untell (l : Launch) (dC : Nat → ClassId) (dI : Nat → Nat → Nat) (cI : ClassId) (r0 p0 p1 p2 p3 p4 p5 p6 : Nat) (ki va : Nat → Int32) (sp sg : Nat → Nat) (sk sv : Nat → Int32) (sc og r1 r2 r3 r4 : Nat) (nu : Nat → Int32) (st le : Nat → Nat) (te : Nat → Int32) (ma ds dl : Nat) (ke : Int32) (k x : Int32) (hm : ma ≤ 513) : mWv l yX0_untell wsX0_untell ({ frames := 2, cells := 0, slots := 0, locals := 42 }) (dC, dI) cI [.ref p0, .int k, .int x] (wP cI r0 p0 p1 p2 p3 p4 p5 p6 ki va sp sg sk sv sc og ++ wR cI r0 r1 r2 r3 r4 nu st le te ma ds dl ke) (fun u => u = untellT ma le k x te ke) (fun u : (Nat → Int32) × Int32 => wP cI r0 p0 p1 p2 p3 p4 p5 p6 ki va sp sg sk sv sc og ++ wR cI r0 r1 r2 r3 r4 nu st le u.1 ma ds dl u.2) := by
  refine m_ofWv (cc := cX0_untell) (maxL := 3) (by decide) rfl (Nat.le_of_ble_eq_true rfl) ?_
  intro p e s m args below meth c ls A Q hx hb hts hown hml hP hK hD hA hS hl hret
  have hown : s.vm.findClass RX0 = some m.cls := hown
  have hl : lv_has ls 3 [(0, .ref p0), (1, .int k), (2, .int x)] := hl
  have l37 := hts (.fieldLink RX0 37 "GroupDesk$Places" "rows" "LGroupDesk$Rows;") (by decide +kernel)
  have iX0 : ∀ w ∈ u_ws RX0 TX0 9, w ∈ wsX0_untell := by decide +kernel
  refine lv_iload_n hx hb dX0_untell_0 rfl (lv_at hl 1 rfl) ?_
  refine lv_iconst (v := 3) hx hb dX0_untell_1 (by decide) ?_
  refine lv_icmp_ne (tgt := 13) hx hb dX0_untell_2 (by decide) (fun c2 => ?_) (fun c2 => ?_)
  · exact hret ((te, ke)) (by unfold untellT; rw [if_neg c2]) hP hD hS dX0_untell_13
  · refine lv_aload_n hx hb dX0_untell_5 rfl (lv_at hl 0 rfl) ?_
    refine va_get (D := (dC, dI)) (ci := 0) (v := .ref r0) (C := RX0) (T := TX0) (N := 9) hx hb hts iX0 hown hK hP 0 rfl rfl 0 (by decide) l37 (fun _ h9 => h9) rfl dX0_untell_6 ?_
    refine lv_iload_n hx hb dX0_untell_9 rfl (lv_at hl 2 rfl) ?_
    have hP : va_P (dC, dI) vwCl ((wP cI r0 p0 p1 p2 p3 p4 p5 p6 ki va sp sg sk sv sc og) ++ (wR cI r0 r1 r2 r3 r4 nu st le te ma ds dl ke)) _ := hP
    have hD : va_D A ((wP cI r0 p0 p1 p2 p3 p4 p5 p6 ki va sp sg sk sv sc og) ++ (wR cI r0 r1 r2 r3 r4 nu st le te ma ds dl ke)) := hD
    refine m_wVv (As := [.int x]) (rest := []) ⟨hx, hb, hml, hown, hts⟩ (c_X1_dropTeller l dC dI cI r0 r1 r2 r3 r4 nu st le te ma ds dl ke x hm) (cwV 1 hts gX0_untell_X1_dropTeller rfl rfl rfl (by decide +kernel) ⟨Nat.le_of_ble_eq_true rfl, Nat.le_of_ble_eq_true rfl⟩) hP hK hD hS hA 1 0 rfl rfl rfl hl.1 rfl (Nat.le_of_ble_eq_true rfl) dX0_untell_10 ⟨Nat.zero_le _, Nat.zero_le _⟩ (fun u H locs hw hP hD hS => ?_)
    subst hw
    have hP : va_P (dC, dI) vwCl (wP cI r0 p0 p1 p2 p3 p4 p5 p6 ki va sp sg sk sv sc og ++ wR cI r0 r1 r2 r3 r4 nu st le ((dropT ma le x te ke).1) ma ds dl ((dropT ma le x te ke).2)) _ := hP
    have hD : va_D A (wP cI r0 p0 p1 p2 p3 p4 p5 p6 ki va sp sg sk sv sc og ++ wR cI r0 r1 r2 r3 r4 nu st le ((dropT ma le x te ke).1) ma ds dl ((dropT ma le x te ke).2)) := hD
    exact hret (((dropT ma le x te ke).1, (dropT ma le x te ke).2)) (by unfold untellT; rw [if_pos c2]) hP hD hS dX0_untell_13
set_option maxHeartbeats 4000000 in
set_option maxRecDepth 100000 in
theorem c_X0_save (l : Launch) (dC : Nat → ClassId) (dI : Nat → Nat → Nat) (cI : ClassId) (r0 p0 p1 p2 p3 p4 p5 p6 : Nat) (ki va : Nat → Int32) (sp sg : Nat → Nat) (sk sv : Nat → Int32) (sc og r1 r2 r3 r4 : Nat) (nu : Nat → Int32) (st le : Nat → Nat) (te : Nat → Int32) (ma ds dl : Nat) (ke : Int32) (pl : Nat) (hpl : pl < 3367) (hsc : sc < 512) : mWv l yX0_save wsX0_save ({ frames := 0, cells := 0, slots := 0, locals := 0 }) (dC, dI) cI [.ref p0, .int (nI pl)] (wP cI r0 p0 p1 p2 p3 p4 p5 p6 ki va sp sg sk sv sc og ++ wR cI r0 r1 r2 r3 r4 nu st le te ma ds dl ke) (fun u => u = (va_up sp sc pl, va_up sg sc og, upd sk sc (ki pl), upd sv sc (va pl), sc + 1)) (fun u : (Nat → Nat) × (Nat → Nat) × (Nat → Int32) × (Nat → Int32) × Nat => wP cI r0 p0 p1 p2 p3 p4 p5 p6 ki va u.1 u.2.1 u.2.2.1 u.2.2.2.1 u.2.2.2.2 og ++ wR cI r0 r1 r2 r3 r4 nu st le te ma ds dl ke) := by
  refine m_ofWv (cc := cX0_save) (maxL := 2) (by decide) rfl (Nat.le_of_ble_eq_true rfl) ?_
  intro p e s m args below meth c ls A Q hx hb hts hown hml hP hK hD hA hS hl hret
  have hown : s.vm.findClass RX0 = some m.cls := hown
  have hl : lv_has ls 2 [(0, .ref p0), (1, .int (nI pl))] := hl
  have l18 := hts (.fieldLink RX0 18 "GroupDesk$Places" "savedPlaces" "[I") (by decide +kernel)
  have l30 := hts (.fieldLink RX0 30 "GroupDesk$Places" "savedCount" "I") (by decide +kernel)
  have l21 := hts (.fieldLink RX0 21 "GroupDesk$Places" "savedGroups" "[I") (by decide +kernel)
  have l34 := hts (.fieldLink RX0 34 "GroupDesk$Places" "openGroups" "I") (by decide +kernel)
  have l24 := hts (.fieldLink RX0 24 "GroupDesk$Places" "savedKinds" "[I") (by decide +kernel)
  have l9 := hts (.fieldLink RX0 9 "GroupDesk$Places" "kinds" "[I") (by decide +kernel)
  have l27 := hts (.fieldLink RX0 27 "GroupDesk$Places" "savedValues" "[I") (by decide +kernel)
  have l15 := hts (.fieldLink RX0 15 "GroupDesk$Places" "values" "[I") (by decide +kernel)
  have iX0 : ∀ w ∈ u_ws RX0 TX0 9, w ∈ wsX0_save := by decide +kernel
  refine lv_aload_n hx hb dX0_save_0 rfl (lv_at hl 0 rfl) ?_
  refine va_get (D := (dC, dI)) (ci := 0) (v := .ref p3) (C := RX0) (T := TX0) (N := 9) hx hb hts iX0 hown hK hP 0 rfl rfl 3 (by decide) l18 (fun _ h9 => h9) rfl dX0_save_1 ?_
  refine lv_aload_n hx hb dX0_save_4 rfl (lv_at hl 0 rfl) ?_
  refine va_get (D := (dC, dI)) (ci := 0) (v := .int (nI sc)) (C := RX0) (T := TX0) (N := 9) hx hb hts iX0 hown hK hP 0 rfl rfl 7 (by decide) l30 (fun _ h9 => h9) rfl dX0_save_5 ?_
  refine lv_iload_n hx hb dX0_save_8 rfl (lv_at hl 1 rfl) ?_
  refine mv_iast hx hb hK hP hD hS 3 0 rfl rfl (k := sc) (rfl) (by omega) (by decide) (f' := nF (va_up sp sc pl)) (nF_up _ _ _) dX0_save_9 (fun H locs hP hD hS => ?_)
  have hP : va_P (dC, dI) vwCl (wP cI r0 p0 p1 p2 p3 p4 p5 p6 ki va (va_up sp sc pl) sg sk sv sc og ++ wR cI r0 r1 r2 r3 r4 nu st le te ma ds dl ke) _ := hP
  have hD : va_D A (wP cI r0 p0 p1 p2 p3 p4 p5 p6 ki va (va_up sp sc pl) sg sk sv sc og ++ wR cI r0 r1 r2 r3 r4 nu st le te ma ds dl ke) := hD
  refine lv_aload_n hx hb dX0_save_10 rfl (lv_at hl 0 rfl) ?_
  refine va_get (D := (dC, dI)) (ci := 0) (v := .ref p4) (C := RX0) (T := TX0) (N := 9) hx hb hts iX0 hown hK hP 0 rfl rfl 4 (by decide) l21 (fun _ h9 => h9) rfl dX0_save_11 ?_
  refine lv_aload_n hx hb dX0_save_14 rfl (lv_at hl 0 rfl) ?_
  refine va_get (D := (dC, dI)) (ci := 0) (v := .int (nI sc)) (C := RX0) (T := TX0) (N := 9) hx hb hts iX0 hown hK hP 0 rfl rfl 7 (by decide) l30 (fun _ h9 => h9) rfl dX0_save_15 ?_
  refine lv_aload_n hx hb dX0_save_18 rfl (lv_at hl 0 rfl) ?_
  refine va_get (D := (dC, dI)) (ci := 0) (v := .int (nI og)) (C := RX0) (T := TX0) (N := 9) hx hb hts iX0 hown hK hP 0 rfl rfl 8 (by decide) l34 (fun _ h9 => h9) rfl dX0_save_19 ?_
  refine mv_iast hx hb hK hP hD hS 4 0 rfl rfl (k := sc) (rfl) (by omega) (by decide) (f' := nF (va_up sg sc og)) (nF_up _ _ _) dX0_save_22 (fun H locs hP hD hS => ?_)
  have hP : va_P (dC, dI) vwCl (wP cI r0 p0 p1 p2 p3 p4 p5 p6 ki va (va_up sp sc pl) (va_up sg sc og) sk sv sc og ++ wR cI r0 r1 r2 r3 r4 nu st le te ma ds dl ke) _ := hP
  have hD : va_D A (wP cI r0 p0 p1 p2 p3 p4 p5 p6 ki va (va_up sp sc pl) (va_up sg sc og) sk sv sc og ++ wR cI r0 r1 r2 r3 r4 nu st le te ma ds dl ke) := hD
  refine lv_aload_n hx hb dX0_save_23 rfl (lv_at hl 0 rfl) ?_
  refine va_get (D := (dC, dI)) (ci := 0) (v := .ref p5) (C := RX0) (T := TX0) (N := 9) hx hb hts iX0 hown hK hP 0 rfl rfl 5 (by decide) l24 (fun _ h9 => h9) rfl dX0_save_24 ?_
  refine lv_aload_n hx hb dX0_save_27 rfl (lv_at hl 0 rfl) ?_
  refine va_get (D := (dC, dI)) (ci := 0) (v := .int (nI sc)) (C := RX0) (T := TX0) (N := 9) hx hb hts iX0 hown hK hP 0 rfl rfl 7 (by decide) l30 (fun _ h9 => h9) rfl dX0_save_28 ?_
  refine lv_aload_n hx hb dX0_save_31 rfl (lv_at hl 0 rfl) ?_
  refine va_get (D := (dC, dI)) (ci := 0) (v := .ref p1) (C := RX0) (T := TX0) (N := 9) hx hb hts iX0 hown hK hP 0 rfl rfl 1 (by decide) l9 (fun _ h9 => h9) rfl dX0_save_32 ?_
  refine lv_iload_n hx hb dX0_save_35 rfl (lv_at hl 1 rfl) ?_
  refine mv_iald hx hb hK hP 1 0 rfl rfl (k := pl) (rfl) (by omega) (by decide) (v := ki pl) rfl dX0_save_36 ?_
  refine mv_iast hx hb hK hP hD hS 5 0 rfl rfl (k := sc) (rfl) (by omega) (by decide) (f' := upd sk sc (ki pl)) (rfl) dX0_save_37 (fun H locs hP hD hS => ?_)
  have hP : va_P (dC, dI) vwCl (wP cI r0 p0 p1 p2 p3 p4 p5 p6 ki va (va_up sp sc pl) (va_up sg sc og) (upd sk sc (ki pl)) sv sc og ++ wR cI r0 r1 r2 r3 r4 nu st le te ma ds dl ke) _ := hP
  have hD : va_D A (wP cI r0 p0 p1 p2 p3 p4 p5 p6 ki va (va_up sp sc pl) (va_up sg sc og) (upd sk sc (ki pl)) sv sc og ++ wR cI r0 r1 r2 r3 r4 nu st le te ma ds dl ke) := hD
  refine lv_aload_n hx hb dX0_save_38 rfl (lv_at hl 0 rfl) ?_
  refine va_get (D := (dC, dI)) (ci := 0) (v := .ref p6) (C := RX0) (T := TX0) (N := 9) hx hb hts iX0 hown hK hP 0 rfl rfl 6 (by decide) l27 (fun _ h9 => h9) rfl dX0_save_39 ?_
  refine lv_aload_n hx hb dX0_save_42 rfl (lv_at hl 0 rfl) ?_
  refine va_get (D := (dC, dI)) (ci := 0) (v := .int (nI sc)) (C := RX0) (T := TX0) (N := 9) hx hb hts iX0 hown hK hP 0 rfl rfl 7 (by decide) l30 (fun _ h9 => h9) rfl dX0_save_43 ?_
  refine lv_aload_n hx hb dX0_save_46 rfl (lv_at hl 0 rfl) ?_
  refine va_get (D := (dC, dI)) (ci := 0) (v := .ref p2) (C := RX0) (T := TX0) (N := 9) hx hb hts iX0 hown hK hP 0 rfl rfl 2 (by decide) l15 (fun _ h9 => h9) rfl dX0_save_47 ?_
  refine lv_iload_n hx hb dX0_save_50 rfl (lv_at hl 1 rfl) ?_
  refine mv_iald hx hb hK hP 2 0 rfl rfl (k := pl) (rfl) (by omega) (by decide) (v := va pl) rfl dX0_save_51 ?_
  refine mv_iast hx hb hK hP hD hS 6 0 rfl rfl (k := sc) (rfl) (by omega) (by decide) (f' := upd sv sc (va pl)) (rfl) dX0_save_52 (fun H locs hP hD hS => ?_)
  have hP : va_P (dC, dI) vwCl (wP cI r0 p0 p1 p2 p3 p4 p5 p6 ki va (va_up sp sc pl) (va_up sg sc og) (upd sk sc (ki pl)) (upd sv sc (va pl)) sc og ++ wR cI r0 r1 r2 r3 r4 nu st le te ma ds dl ke) _ := hP
  have hD : va_D A (wP cI r0 p0 p1 p2 p3 p4 p5 p6 ki va (va_up sp sc pl) (va_up sg sc og) (upd sk sc (ki pl)) (upd sv sc (va pl)) sc og ++ wR cI r0 r1 r2 r3 r4 nu st le te ma ds dl ke) := hD
  refine lv_aload_n hx hb dX0_save_53 rfl (lv_at hl 0 rfl) ?_
  refine lv_dup hx hb dX0_save_54 rfl ?_
  refine va_get (D := (dC, dI)) (ci := 0) (v := .int (nI sc)) (C := RX0) (T := TX0) (N := 9) hx hb hts iX0 hown hK hP 0 rfl rfl 7 (by decide) l30 (fun _ h9 => h9) rfl dX0_save_55 ?_
  refine lv_iconst (v := 1) hx hb dX0_save_58 (by decide) ?_
  refine lv_iadd hx hb dX0_save_59 ?_
  refine mv_top (v := nI (sc + 1)) (nI_1 sc) ?_
  refine va_put (D := (dC, dI)) (ci := 0) (v := .int (nI (sc + 1))) (ty := .int) (C := RX0) (T := TX0) (N := 9) hx hb hts iX0 tyX0 tyX0_ok nmX0 hown hK hP hD hS 0 rfl rfl 7 (by decide) l30 (fun _ h9 => h9) rfl (by decide +kernel) rfl rfl (Nat.le_of_ble_eq_true rfl) dX0_save_60 (fun H locs hP hD hS => ?_)
  have hP : va_P (dC, dI) vwCl (wP cI r0 p0 p1 p2 p3 p4 p5 p6 ki va (va_up sp sc pl) (va_up sg sc og) (upd sk sc (ki pl)) (upd sv sc (va pl)) (sc + 1) og ++ wR cI r0 r1 r2 r3 r4 nu st le te ma ds dl ke) _ := hP
  have hD : va_D A (wP cI r0 p0 p1 p2 p3 p4 p5 p6 ki va (va_up sp sc pl) (va_up sg sc og) (upd sk sc (ki pl)) (upd sv sc (va pl)) (sc + 1) og ++ wR cI r0 r1 r2 r3 r4 nu st le te ma ds dl ke) := hD
  exact hret ((va_up sp sc pl, va_up sg sc og, upd sk sc (ki pl), upd sv sc (va pl), sc + 1)) (rfl) hP hD hS dX0_save_63
set_option maxHeartbeats 4000000 in
set_option maxRecDepth 100000 in
theorem c_X0_moveSaved (l : Launch) (dC : Nat → ClassId) (dI : Nat → Nat → Nat) (cI : ClassId) (r0 p0 p1 p2 p3 p4 p5 p6 : Nat) (ki va : Nat → Int32) (sp sg : Nat → Nat) (sk sv : Nat → Int32) (sc og r1 r2 r3 r4 : Nat) (nu : Nat → Int32) (st le : Nat → Nat) (te : Nat → Int32) (ma ds dl : Nat) (ke : Int32) (a b : Nat) (ha : a < 512) (hb9 : b < 512) : mWv l yX0_moveSaved wsX0_moveSaved ({ frames := 0, cells := 0, slots := 0, locals := 0 }) (dC, dI) cI [.ref p0, .int (nI a), .int (nI b)] (wP cI r0 p0 p1 p2 p3 p4 p5 p6 ki va sp sg sk sv sc og ++ wR cI r0 r1 r2 r3 r4 nu st le te ma ds dl ke) (fun u => u = (va_up sp b (sp a), va_up sg b (sg a), upd sk b (sk a), upd sv b (sv a))) (fun u : (Nat → Nat) × (Nat → Nat) × (Nat → Int32) × (Nat → Int32) => wP cI r0 p0 p1 p2 p3 p4 p5 p6 ki va u.1 u.2.1 u.2.2.1 u.2.2.2 sc og ++ wR cI r0 r1 r2 r3 r4 nu st le te ma ds dl ke) := by
  refine m_ofWv (cc := cX0_moveSaved) (maxL := 3) (by decide) rfl (Nat.le_of_ble_eq_true rfl) ?_
  intro p e s m args below meth c ls A Q hx hb hts hown hml hP hK hD hA hS hl hret
  have hown : s.vm.findClass RX0 = some m.cls := hown
  have hl : lv_has ls 3 [(0, .ref p0), (1, .int (nI a)), (2, .int (nI b))] := hl
  have l18 := hts (.fieldLink RX0 18 "GroupDesk$Places" "savedPlaces" "[I") (by decide +kernel)
  have l21 := hts (.fieldLink RX0 21 "GroupDesk$Places" "savedGroups" "[I") (by decide +kernel)
  have l24 := hts (.fieldLink RX0 24 "GroupDesk$Places" "savedKinds" "[I") (by decide +kernel)
  have l27 := hts (.fieldLink RX0 27 "GroupDesk$Places" "savedValues" "[I") (by decide +kernel)
  have iX0 : ∀ w ∈ u_ws RX0 TX0 9, w ∈ wsX0_moveSaved := by decide +kernel
  refine lv_aload_n hx hb dX0_moveSaved_0 rfl (lv_at hl 0 rfl) ?_
  refine va_get (D := (dC, dI)) (ci := 0) (v := .ref p3) (C := RX0) (T := TX0) (N := 9) hx hb hts iX0 hown hK hP 0 rfl rfl 3 (by decide) l18 (fun _ h9 => h9) rfl dX0_moveSaved_1 ?_
  refine lv_iload_n hx hb dX0_moveSaved_4 rfl (lv_at hl 2 rfl) ?_
  refine lv_aload_n hx hb dX0_moveSaved_5 rfl (lv_at hl 0 rfl) ?_
  refine va_get (D := (dC, dI)) (ci := 0) (v := .ref p3) (C := RX0) (T := TX0) (N := 9) hx hb hts iX0 hown hK hP 0 rfl rfl 3 (by decide) l18 (fun _ h9 => h9) rfl dX0_moveSaved_6 ?_
  refine lv_iload_n hx hb dX0_moveSaved_9 rfl (lv_at hl 1 rfl) ?_
  refine mv_iald hx hb hK hP 3 0 rfl rfl (k := a) (rfl) (by omega) (by decide) (v := nI (sp a)) rfl dX0_moveSaved_10 ?_
  refine mv_iast hx hb hK hP hD hS 3 0 rfl rfl (k := b) (rfl) (by omega) (by decide) (f' := nF (va_up sp b (sp a))) (nF_up _ _ _) dX0_moveSaved_11 (fun H locs hP hD hS => ?_)
  have hP : va_P (dC, dI) vwCl (wP cI r0 p0 p1 p2 p3 p4 p5 p6 ki va (va_up sp b (sp a)) sg sk sv sc og ++ wR cI r0 r1 r2 r3 r4 nu st le te ma ds dl ke) _ := hP
  have hD : va_D A (wP cI r0 p0 p1 p2 p3 p4 p5 p6 ki va (va_up sp b (sp a)) sg sk sv sc og ++ wR cI r0 r1 r2 r3 r4 nu st le te ma ds dl ke) := hD
  refine lv_aload_n hx hb dX0_moveSaved_12 rfl (lv_at hl 0 rfl) ?_
  refine va_get (D := (dC, dI)) (ci := 0) (v := .ref p4) (C := RX0) (T := TX0) (N := 9) hx hb hts iX0 hown hK hP 0 rfl rfl 4 (by decide) l21 (fun _ h9 => h9) rfl dX0_moveSaved_13 ?_
  refine lv_iload_n hx hb dX0_moveSaved_16 rfl (lv_at hl 2 rfl) ?_
  refine lv_aload_n hx hb dX0_moveSaved_17 rfl (lv_at hl 0 rfl) ?_
  refine va_get (D := (dC, dI)) (ci := 0) (v := .ref p4) (C := RX0) (T := TX0) (N := 9) hx hb hts iX0 hown hK hP 0 rfl rfl 4 (by decide) l21 (fun _ h9 => h9) rfl dX0_moveSaved_18 ?_
  refine lv_iload_n hx hb dX0_moveSaved_21 rfl (lv_at hl 1 rfl) ?_
  refine mv_iald hx hb hK hP 4 0 rfl rfl (k := a) (rfl) (by omega) (by decide) (v := nI (sg a)) rfl dX0_moveSaved_22 ?_
  refine mv_iast hx hb hK hP hD hS 4 0 rfl rfl (k := b) (rfl) (by omega) (by decide) (f' := nF (va_up sg b (sg a))) (nF_up _ _ _) dX0_moveSaved_23 (fun H locs hP hD hS => ?_)
  have hP : va_P (dC, dI) vwCl (wP cI r0 p0 p1 p2 p3 p4 p5 p6 ki va (va_up sp b (sp a)) (va_up sg b (sg a)) sk sv sc og ++ wR cI r0 r1 r2 r3 r4 nu st le te ma ds dl ke) _ := hP
  have hD : va_D A (wP cI r0 p0 p1 p2 p3 p4 p5 p6 ki va (va_up sp b (sp a)) (va_up sg b (sg a)) sk sv sc og ++ wR cI r0 r1 r2 r3 r4 nu st le te ma ds dl ke) := hD
  refine lv_aload_n hx hb dX0_moveSaved_24 rfl (lv_at hl 0 rfl) ?_
  refine va_get (D := (dC, dI)) (ci := 0) (v := .ref p5) (C := RX0) (T := TX0) (N := 9) hx hb hts iX0 hown hK hP 0 rfl rfl 5 (by decide) l24 (fun _ h9 => h9) rfl dX0_moveSaved_25 ?_
  refine lv_iload_n hx hb dX0_moveSaved_28 rfl (lv_at hl 2 rfl) ?_
  refine lv_aload_n hx hb dX0_moveSaved_29 rfl (lv_at hl 0 rfl) ?_
  refine va_get (D := (dC, dI)) (ci := 0) (v := .ref p5) (C := RX0) (T := TX0) (N := 9) hx hb hts iX0 hown hK hP 0 rfl rfl 5 (by decide) l24 (fun _ h9 => h9) rfl dX0_moveSaved_30 ?_
  refine lv_iload_n hx hb dX0_moveSaved_33 rfl (lv_at hl 1 rfl) ?_
  refine mv_iald hx hb hK hP 5 0 rfl rfl (k := a) (rfl) (by omega) (by decide) (v := sk a) rfl dX0_moveSaved_34 ?_
  refine mv_iast hx hb hK hP hD hS 5 0 rfl rfl (k := b) (rfl) (by omega) (by decide) (f' := upd sk b (sk a)) (rfl) dX0_moveSaved_35 (fun H locs hP hD hS => ?_)
  have hP : va_P (dC, dI) vwCl (wP cI r0 p0 p1 p2 p3 p4 p5 p6 ki va (va_up sp b (sp a)) (va_up sg b (sg a)) (upd sk b (sk a)) sv sc og ++ wR cI r0 r1 r2 r3 r4 nu st le te ma ds dl ke) _ := hP
  have hD : va_D A (wP cI r0 p0 p1 p2 p3 p4 p5 p6 ki va (va_up sp b (sp a)) (va_up sg b (sg a)) (upd sk b (sk a)) sv sc og ++ wR cI r0 r1 r2 r3 r4 nu st le te ma ds dl ke) := hD
  refine lv_aload_n hx hb dX0_moveSaved_36 rfl (lv_at hl 0 rfl) ?_
  refine va_get (D := (dC, dI)) (ci := 0) (v := .ref p6) (C := RX0) (T := TX0) (N := 9) hx hb hts iX0 hown hK hP 0 rfl rfl 6 (by decide) l27 (fun _ h9 => h9) rfl dX0_moveSaved_37 ?_
  refine lv_iload_n hx hb dX0_moveSaved_40 rfl (lv_at hl 2 rfl) ?_
  refine lv_aload_n hx hb dX0_moveSaved_41 rfl (lv_at hl 0 rfl) ?_
  refine va_get (D := (dC, dI)) (ci := 0) (v := .ref p6) (C := RX0) (T := TX0) (N := 9) hx hb hts iX0 hown hK hP 0 rfl rfl 6 (by decide) l27 (fun _ h9 => h9) rfl dX0_moveSaved_42 ?_
  refine lv_iload_n hx hb dX0_moveSaved_45 rfl (lv_at hl 1 rfl) ?_
  refine mv_iald hx hb hK hP 6 0 rfl rfl (k := a) (rfl) (by omega) (by decide) (v := sv a) rfl dX0_moveSaved_46 ?_
  refine mv_iast hx hb hK hP hD hS 6 0 rfl rfl (k := b) (rfl) (by omega) (by decide) (f' := upd sv b (sv a)) (rfl) dX0_moveSaved_47 (fun H locs hP hD hS => ?_)
  have hP : va_P (dC, dI) vwCl (wP cI r0 p0 p1 p2 p3 p4 p5 p6 ki va (va_up sp b (sp a)) (va_up sg b (sg a)) (upd sk b (sk a)) (upd sv b (sv a)) sc og ++ wR cI r0 r1 r2 r3 r4 nu st le te ma ds dl ke) _ := hP
  have hD : va_D A (wP cI r0 p0 p1 p2 p3 p4 p5 p6 ki va (va_up sp b (sp a)) (va_up sg b (sg a)) (upd sk b (sk a)) (upd sv b (sv a)) sc og ++ wR cI r0 r1 r2 r3 r4 nu st le te ma ds dl ke) := hD
  exact hret ((va_up sp b (sp a), va_up sg b (sg a), upd sk b (sk a), upd sv b (sv a))) (rfl) hP hD hS dX0_moveSaved_48
set_option maxHeartbeats 4000000 in
set_option maxRecDepth 100000 in
theorem c_X0_putBack (l : Launch) (dC : Nat → ClassId) (dI : Nat → Nat → Nat) (cI : ClassId) (r0 p0 p1 p2 p3 p4 p5 p6 : Nat) (ki va : Nat → Int32) (sp sg : Nat → Nat) (sk sv : Nat → Int32) (sc og r1 r2 r3 r4 : Nat) (nu : Nat → Int32) (st le : Nat → Nat) (te : Nat → Int32) (ma ds dl : Nat) (ke : Int32) (i : Nat) (hm : ma ≤ 513) (hi : i < 512) (hsp : sp i < 3367) : mWv l yX0_putBack wsX0_putBack ({ frames := 3, cells := 0, slots := 0, locals := 64 }) (dC, dI) cI [.ref p0, .int (nI i)] (wP cI r0 p0 p1 p2 p3 p4 p5 p6 ki va sp sg sk sv sc og ++ wR cI r0 r1 r2 r3 r4 nu st le te ma ds dl ke) (fun u => u = (upd ki (sp i) (sk i), upd va (sp i) (sv i), (untellT ma le (ki (sp i)) (va (sp i)) te ke).1, (untellT ma le (ki (sp i)) (va (sp i)) te ke).2)) (fun u : (Nat → Int32) × (Nat → Int32) × (Nat → Int32) × Int32 => wP cI r0 p0 p1 p2 p3 p4 p5 p6 u.1 u.2.1 sp sg sk sv sc og ++ wR cI r0 r1 r2 r3 r4 nu st le u.2.2.1 ma ds dl u.2.2.2) := by
  refine m_ofWv (cc := cX0_putBack) (maxL := 3) (by decide) rfl (Nat.le_of_ble_eq_true rfl) ?_
  intro p e s m args below meth c ls A Q hx hb hts hown hml hP hK hD hA hS hl hret
  have hown : s.vm.findClass RX0 = some m.cls := hown
  have hl : lv_has ls 3 [(0, .ref p0), (1, .int (nI i))] := hl
  have l18 := hts (.fieldLink RX0 18 "GroupDesk$Places" "savedPlaces" "[I") (by decide +kernel)
  have l9 := hts (.fieldLink RX0 9 "GroupDesk$Places" "kinds" "[I") (by decide +kernel)
  have l15 := hts (.fieldLink RX0 15 "GroupDesk$Places" "values" "[I") (by decide +kernel)
  have l24 := hts (.fieldLink RX0 24 "GroupDesk$Places" "savedKinds" "[I") (by decide +kernel)
  have l27 := hts (.fieldLink RX0 27 "GroupDesk$Places" "savedValues" "[I") (by decide +kernel)
  have iX0 : ∀ w ∈ u_ws RX0 TX0 9, w ∈ wsX0_putBack := by decide +kernel
  refine lv_aload_n hx hb dX0_putBack_0 rfl (lv_at hl 0 rfl) ?_
  refine va_get (D := (dC, dI)) (ci := 0) (v := .ref p3) (C := RX0) (T := TX0) (N := 9) hx hb hts iX0 hown hK hP 0 rfl rfl 3 (by decide) l18 (fun _ h9 => h9) rfl dX0_putBack_1 ?_
  refine lv_iload_n hx hb dX0_putBack_4 rfl (lv_at hl 1 rfl) ?_
  refine mv_iald hx hb hK hP 3 0 rfl rfl (k := i) (rfl) (by omega) (by decide) (v := nI (sp i)) rfl dX0_putBack_5 ?_
  refine lv_istore_n (lv' := [(2, .int (nI (sp i))), (0, .ref p0), (1, .int (nI i))]) hx hb dX0_putBack_6 rfl hl (by decide) rfl (fun ls hl => ?_)
  refine lv_iload_n hx hb dX0_putBack_7 rfl (lv_at hl 0 rfl) ?_
  refine m_rS (As := [.int (nI (sp i))]) (rest := []) ⟨hx, hb, hml, hown, hts⟩ (c_X0_isPlace l dC dI cI (nI (sp i))) (va_cwS 1 hts gX0_putBack_X0_isPlace rfl rfl rfl (by decide +kernel) ⟨Nat.le_of_ble_eq_true rfl, Nat.le_of_ble_eq_true rfl⟩) ma_nil hK rfl hl.1 rfl (Nat.le_of_ble_eq_true rfl) dX0_putBack_8 ⟨Nat.zero_le _, Nat.zero_le _⟩ (fun r hw => ?_)
  subst hw
  refine lv_if_ne (tgt := 15) hx hb dX0_putBack_11 (by decide) (fun c11 => ?_) (fun c11 => ?_)
  · refine lv_aload_n hx hb dX0_putBack_15 rfl (lv_at hl 1 rfl) ?_
    refine lv_aload_n hx hb dX0_putBack_16 rfl (lv_at hl 1 rfl) ?_
    refine va_get (D := (dC, dI)) (ci := 0) (v := .ref p1) (C := RX0) (T := TX0) (N := 9) hx hb hts iX0 hown hK hP 0 rfl rfl 1 (by decide) l9 (fun _ h9 => h9) rfl dX0_putBack_17 ?_
    refine lv_iload_n hx hb dX0_putBack_20 rfl (lv_at hl 0 rfl) ?_
    refine mv_iald hx hb hK hP 1 0 rfl rfl (k := sp i) (rfl) (by omega) (by decide) (v := ki (sp i)) rfl dX0_putBack_21 ?_
    refine lv_aload_n hx hb dX0_putBack_22 rfl (lv_at hl 1 rfl) ?_
    refine va_get (D := (dC, dI)) (ci := 0) (v := .ref p2) (C := RX0) (T := TX0) (N := 9) hx hb hts iX0 hown hK hP 0 rfl rfl 2 (by decide) l15 (fun _ h9 => h9) rfl dX0_putBack_23 ?_
    refine lv_iload_n hx hb dX0_putBack_26 rfl (lv_at hl 0 rfl) ?_
    refine mv_iald hx hb hK hP 2 0 rfl rfl (k := sp i) (rfl) (by omega) (by decide) (v := va (sp i)) rfl dX0_putBack_27 ?_
    have hP : va_P (dC, dI) vwCl ([] ++ (wP cI r0 p0 p1 p2 p3 p4 p5 p6 ki va sp sg sk sv sc og ++ wR cI r0 r1 r2 r3 r4 nu st le te ma ds dl ke)) _ := hP
    have hD : va_D A ([] ++ (wP cI r0 p0 p1 p2 p3 p4 p5 p6 ki va sp sg sk sv sc og ++ wR cI r0 r1 r2 r3 r4 nu st le te ma ds dl ke)) := hD
    refine m_wVv (As := [.int (ki (sp i)), .int (va (sp i))]) (rest := []) ⟨hx, hb, hml, hown, hts⟩ (c_X0_untell l dC dI cI r0 p0 p1 p2 p3 p4 p5 p6 ki va sp sg sk sv sc og r1 r2 r3 r4 nu st le te ma ds dl ke (ki (sp i)) (va (sp i)) hm) (cwV 2 hts gX0_putBack_X0_untell rfl rfl rfl (by decide +kernel) ⟨Nat.le_of_ble_eq_true rfl, Nat.le_of_ble_eq_true rfl⟩) hP hK hD hS hA 0 0 rfl rfl rfl hl.1 rfl (Nat.le_of_ble_eq_true rfl) dX0_putBack_28 ⟨Nat.zero_le _, Nat.zero_le _⟩ (fun u H locs hw hP hD hS => ?_)
    subst hw
    have hP : va_P (dC, dI) vwCl (wP cI r0 p0 p1 p2 p3 p4 p5 p6 ki va sp sg sk sv sc og ++ wR cI r0 r1 r2 r3 r4 nu st le ((untellT ma le (ki (sp i)) (va (sp i)) te ke).1) ma ds dl ((untellT ma le (ki (sp i)) (va (sp i)) te ke).2)) _ := hP
    have hD : va_D A (wP cI r0 p0 p1 p2 p3 p4 p5 p6 ki va sp sg sk sv sc og ++ wR cI r0 r1 r2 r3 r4 nu st le ((untellT ma le (ki (sp i)) (va (sp i)) te ke).1) ma ds dl ((untellT ma le (ki (sp i)) (va (sp i)) te ke).2)) := hD
    refine lv_aload_n hx hb dX0_putBack_31 rfl (lv_at hl 1 rfl) ?_
    refine va_get (D := (dC, dI)) (ci := 0) (v := .ref p1) (C := RX0) (T := TX0) (N := 9) hx hb hts iX0 hown hK hP 0 rfl rfl 1 (by decide) l9 (fun _ h9 => h9) rfl dX0_putBack_32 ?_
    refine lv_iload_n hx hb dX0_putBack_35 rfl (lv_at hl 0 rfl) ?_
    refine lv_aload_n hx hb dX0_putBack_36 rfl (lv_at hl 1 rfl) ?_
    refine va_get (D := (dC, dI)) (ci := 0) (v := .ref p5) (C := RX0) (T := TX0) (N := 9) hx hb hts iX0 hown hK hP 0 rfl rfl 5 (by decide) l24 (fun _ h9 => h9) rfl dX0_putBack_37 ?_
    refine lv_iload_n hx hb dX0_putBack_40 rfl (lv_at hl 2 rfl) ?_
    refine mv_iald hx hb hK hP 5 0 rfl rfl (k := i) (rfl) (by omega) (by decide) (v := sk i) rfl dX0_putBack_41 ?_
    refine mv_iast hx hb hK hP hD hS 1 0 rfl rfl (k := sp i) (rfl) (by omega) (by decide) (f' := upd ki (sp i) (sk i)) (rfl) dX0_putBack_42 (fun H locs hP hD hS => ?_)
    have hP : va_P (dC, dI) vwCl (wP cI r0 p0 p1 p2 p3 p4 p5 p6 (upd ki (sp i) (sk i)) va sp sg sk sv sc og ++ wR cI r0 r1 r2 r3 r4 nu st le ((untellT ma le (ki (sp i)) (va (sp i)) te ke).1) ma ds dl ((untellT ma le (ki (sp i)) (va (sp i)) te ke).2)) _ := hP
    have hD : va_D A (wP cI r0 p0 p1 p2 p3 p4 p5 p6 (upd ki (sp i) (sk i)) va sp sg sk sv sc og ++ wR cI r0 r1 r2 r3 r4 nu st le ((untellT ma le (ki (sp i)) (va (sp i)) te ke).1) ma ds dl ((untellT ma le (ki (sp i)) (va (sp i)) te ke).2)) := hD
    refine lv_aload_n hx hb dX0_putBack_43 rfl (lv_at hl 1 rfl) ?_
    refine va_get (D := (dC, dI)) (ci := 0) (v := .ref p2) (C := RX0) (T := TX0) (N := 9) hx hb hts iX0 hown hK hP 0 rfl rfl 2 (by decide) l15 (fun _ h9 => h9) rfl dX0_putBack_44 ?_
    refine lv_iload_n hx hb dX0_putBack_47 rfl (lv_at hl 0 rfl) ?_
    refine lv_aload_n hx hb dX0_putBack_48 rfl (lv_at hl 1 rfl) ?_
    refine va_get (D := (dC, dI)) (ci := 0) (v := .ref p6) (C := RX0) (T := TX0) (N := 9) hx hb hts iX0 hown hK hP 0 rfl rfl 6 (by decide) l27 (fun _ h9 => h9) rfl dX0_putBack_49 ?_
    refine lv_iload_n hx hb dX0_putBack_52 rfl (lv_at hl 2 rfl) ?_
    refine mv_iald hx hb hK hP 6 0 rfl rfl (k := i) (rfl) (by omega) (by decide) (v := sv i) rfl dX0_putBack_53 ?_
    refine mv_iast hx hb hK hP hD hS 2 0 rfl rfl (k := sp i) (rfl) (by omega) (by decide) (f' := upd va (sp i) (sv i)) (rfl) dX0_putBack_54 (fun H locs hP hD hS => ?_)
    have hP : va_P (dC, dI) vwCl (wP cI r0 p0 p1 p2 p3 p4 p5 p6 (upd ki (sp i) (sk i)) (upd va (sp i) (sv i)) sp sg sk sv sc og ++ wR cI r0 r1 r2 r3 r4 nu st le ((untellT ma le (ki (sp i)) (va (sp i)) te ke).1) ma ds dl ((untellT ma le (ki (sp i)) (va (sp i)) te ke).2)) _ := hP
    have hD : va_D A (wP cI r0 p0 p1 p2 p3 p4 p5 p6 (upd ki (sp i) (sk i)) (upd va (sp i) (sv i)) sp sg sk sv sc og ++ wR cI r0 r1 r2 r3 r4 nu st le ((untellT ma le (ki (sp i)) (va (sp i)) te ke).1) ma ds dl ((untellT ma le (ki (sp i)) (va (sp i)) te ke).2)) := hD
    exact hret ((upd ki (sp i) (sk i), upd va (sp i) (sv i), (untellT ma le (ki (sp i)) (va (sp i)) te ke).1, (untellT ma le (ki (sp i)) (va (sp i)) te ke).2)) (rfl) hP hD hS dX0_putBack_55
  · exact absurd (b2i_0 c11) (by rw [isR_nI (by decide) hsp]; decide)
