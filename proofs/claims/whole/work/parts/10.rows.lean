set_option maxHeartbeats 4000000 in
set_option maxRecDepth 100000 in
theorem c_X1_isRow (l : Launch) (dC : Nat → ClassId) (dI : Nat → Nat → Nat) (cI : ClassId) (r0 r1 r2 r3 r4 : Nat) (nu : Nat → Int32) (st le : Nat → Nat) (te : Nat → Int32) (ma ds dl : Nat) (ke : Int32) (x : Int32)  : mRi l yX1_isRow wsX1_isRow ({ frames := 0, cells := 0, slots := 0, locals := 0 }) (dC, dI) cI [.ref r0, .int x] (wR cI r0 r1 r2 r3 r4 nu st le te ma ds dl ke) (fun r => r = b2i (isR ma x)) := by
  refine m_ofR (cc := cX1_isRow) (maxL := 2) (by decide) rfl (Nat.le_of_ble_eq_true rfl) ?_
  intro p e s m args below meth c ls Q hx hb hts hown hml hP hK hl hret
  have hown : s.vm.findClass RX1 = some m.cls := hown
  have hl : lv_has ls 2 [(0, .ref r0), (1, .int x)] := hl
  have l24 := hts (.fieldLink RX1 24 "GroupDesk$Rows" "made" "I") (by decide +kernel)
  have iX1 : ∀ w ∈ u_ws RX1 TX1 8, w ∈ wsX1_isRow := by decide +kernel
  refine lv_iload_n hx hb dX1_isRow_0 rfl (lv_at hl 1 rfl) ?_
  refine lv_if_lt (tgt := 16) hx hb dX1_isRow_1 (by decide) (fun c1 => ?_) (fun c1 => ?_)
  · refine lv_iconst (v := 0) hx hb dX1_isRow_16 (by decide) ?_
    exact hret 0 (rfl) (by rw [isR_f1 c1]; rfl) dX1_isRow_17
  · refine lv_iload_n hx hb dX1_isRow_4 rfl (lv_at hl 1 rfl) ?_
    refine lv_aload_n hx hb dX1_isRow_5 rfl (lv_at hl 0 rfl) ?_
    refine va_get (D := (dC, dI)) (ci := 1) (v := .int (nI ma)) (C := RX1) (T := TX1) (N := 8) hx hb hts iX1 hown hK hP 0 rfl rfl 4 (by decide) l24 (fun _ h9 => h9) rfl dX1_isRow_6 ?_
    refine lv_icmp_ge (tgt := 16) hx hb dX1_isRow_9 (by decide) (fun c9 => ?_) (fun c9 => ?_)
    · refine lv_iconst (v := 0) hx hb dX1_isRow_16 (by decide) ?_
      exact hret 0 (rfl) (by rw [isR_f2 c9]; rfl) dX1_isRow_17
    · refine lv_iconst (v := 1) hx hb dX1_isRow_12 (by decide) ?_
      refine lv_goto (tgt := 17) hx hb dX1_isRow_13 (by decide) ?_
      exact hret 1 (rfl) (by rw [isR_t c1 c9]; rfl) dX1_isRow_17
set_option maxHeartbeats 4000000 in
set_option maxRecDepth 100000 in
theorem c_X1_lengthOf (l : Launch) (dC : Nat → ClassId) (dI : Nat → Nat → Nat) (cI : ClassId) (r0 r1 r2 r3 r4 : Nat) (nu : Nat → Int32) (st le : Nat → Nat) (te : Nat → Int32) (ma ds dl : Nat) (ke : Int32) (x : Int32) (hm : ma ≤ 513) : mRi l yX1_lengthOf wsX1_lengthOf ({ frames := 1, cells := 0, slots := 0, locals := 21 }) (dC, dI) cI [.ref r0, .int x] (wR cI r0 r1 r2 r3 r4 nu st le te ma ds dl ke) (fun r => r = lenR ma le x) := by
  refine m_ofR (cc := cX1_lengthOf) (maxL := 2) (by decide) rfl (Nat.le_of_ble_eq_true rfl) ?_
  intro p e s m args below meth c ls Q hx hb hts hown hml hP hK hl hret
  have hown : s.vm.findClass RX1 = some m.cls := hown
  have hl : lv_has ls 2 [(0, .ref r0), (1, .int x)] := hl
  have l18 := hts (.fieldLink RX1 18 "GroupDesk$Rows" "lengths" "[I") (by decide +kernel)
  have iX1 : ∀ w ∈ u_ws RX1 TX1 8, w ∈ wsX1_lengthOf := by decide +kernel
  refine lv_aload_n hx hb dX1_lengthOf_0 rfl (lv_at hl 0 rfl) ?_
  refine lv_iload_n hx hb dX1_lengthOf_1 rfl (lv_at hl 1 rfl) ?_
  refine m_rV (As := [.int x]) (rest := []) ⟨hx, hb, hml, hown, hts⟩ (c_X1_isRow l dC dI cI r0 r1 r2 r3 r4 nu st le te ma ds dl ke x) (cwV 1 hts gX1_lengthOf_X1_isRow rfl rfl rfl (by decide +kernel) ⟨Nat.le_of_ble_eq_true rfl, Nat.le_of_ble_eq_true rfl⟩) hP hK 1 0 rfl rfl rfl hl.1 rfl (Nat.le_of_ble_eq_true rfl) dX1_lengthOf_2 ⟨Nat.zero_le _, Nat.zero_le _⟩ (fun r hw => ?_)
  subst hw
  refine lv_if_eq (tgt := 17) hx hb dX1_lengthOf_5 (by decide) (fun c5 => ?_) (fun c5 => ?_)
  · have hj := b2i_0 c5
    refine lv_iconst (v := 0) hx hb dX1_lengthOf_17 (by decide) ?_
    exact hret 0 (rfl) (by unfold lenR; rw [hj]; rfl) dX1_lengthOf_18
  · have hj := b2i_n c5
    have hi := isR_of (by omega) hj
    refine lv_aload_n hx hb dX1_lengthOf_8 rfl (lv_at hl 0 rfl) ?_
    refine va_get (D := (dC, dI)) (ci := 1) (v := .ref r3) (C := RX1) (T := TX1) (N := 8) hx hb hts iX1 hown hK hP 0 rfl rfl 2 (by decide) l18 (fun _ h9 => h9) rfl dX1_lengthOf_9 ?_
    refine lv_iload_n hx hb dX1_lengthOf_12 rfl (lv_at hl 1 rfl) ?_
    refine mv_iald hx hb hK hP 3 0 rfl rfl (k := rj x) (hi.2) (by omega) (by decide) (v := nI (le (rj x))) rfl dX1_lengthOf_13 ?_
    refine lv_goto (tgt := 18) hx hb dX1_lengthOf_14 (by decide) ?_
    exact hret (nI (le (rj x))) (rfl) (by unfold lenR; rw [hj]; rfl) dX1_lengthOf_18
set_option maxHeartbeats 4000000 in
set_option maxRecDepth 100000 in
theorem c_X1_has (l : Launch) (dC : Nat → ClassId) (dI : Nat → Nat → Nat) (cI : ClassId) (r0 r1 r2 r3 r4 : Nat) (nu : Nat → Int32) (st le : Nat → Nat) (te : Nat → Int32) (ma ds dl : Nat) (ke : Int32) (x k : Int32) (hm : ma ≤ 513) : mRi l yX1_has wsX1_has ({ frames := 2, cells := 0, slots := 0, locals := 42 }) (dC, dI) cI [.ref r0, .int x, .int k] (wR cI r0 r1 r2 r3 r4 nu st le te ma ds dl ke) (fun r => r = b2i (hasR ma le x k)) := by
  refine m_ofR (cc := cX1_has) (maxL := 3) (by decide) rfl (Nat.le_of_ble_eq_true rfl) ?_
  intro p e s m args below meth c ls Q hx hb hts hown hml hP hK hl hret
  have hown : s.vm.findClass RX1 = some m.cls := hown
  have hl : lv_has ls 3 [(0, .ref r0), (1, .int x), (2, .int k)] := hl
  refine lv_iload_n hx hb dX1_has_0 rfl (lv_at hl 2 rfl) ?_
  refine lv_if_lt (tgt := 17) hx hb dX1_has_1 (by decide) (fun c1 => ?_) (fun c1 => ?_)
  · refine lv_iconst (v := 0) hx hb dX1_has_17 (by decide) ?_
    exact hret 0 (rfl) (by unfold hasR; rw [decide_eq_false (not_not_intro c1)]; rfl) dX1_has_18
  · refine lv_iload_n hx hb dX1_has_4 rfl (lv_at hl 2 rfl) ?_
    refine lv_aload_n hx hb dX1_has_5 rfl (lv_at hl 0 rfl) ?_
    refine lv_iload_n hx hb dX1_has_6 rfl (lv_at hl 1 rfl) ?_
    refine m_rV (As := [.int x]) (rest := [.int k]) ⟨hx, hb, hml, hown, hts⟩ (c_X1_lengthOf l dC dI cI r0 r1 r2 r3 r4 nu st le te ma ds dl ke x hm) (cwV 1 hts gX1_has_X1_lengthOf rfl rfl rfl (by decide +kernel) ⟨Nat.le_of_ble_eq_true rfl, Nat.le_of_ble_eq_true rfl⟩) hP hK 1 0 rfl rfl rfl hl.1 rfl (Nat.le_of_ble_eq_true rfl) dX1_has_7 ⟨Nat.zero_le _, Nat.zero_le _⟩ (fun r hw => ?_)
    subst hw
    refine lv_icmp_ge (tgt := 17) hx hb dX1_has_10 (by decide) (fun c10 => ?_) (fun c10 => ?_)
    · refine lv_iconst (v := 0) hx hb dX1_has_17 (by decide) ?_
      exact hret 0 (rfl) (by unfold hasR; rw [decide_eq_false (not_not_intro c10), Bool.and_false]; rfl) dX1_has_18
    · refine lv_iconst (v := 1) hx hb dX1_has_13 (by decide) ?_
      refine lv_goto (tgt := 18) hx hb dX1_has_14 (by decide) ?_
      exact hret 1 (rfl) (by unfold hasR; rw [decide_eq_true c1, decide_eq_true c10]; rfl) dX1_has_18
theorem hasR_of {ma : Nat} {le : Nat → Nat} {x k : Int32} (hm : ma < 2 ^ 31) (hle : ∀ j, j < ma → le j < 2 ^ 31) (h : hasR ma le x k = true) : (rj x < ma ∧ x = nI (rj x)) ∧ (rj k < le (rj x) ∧ k = nI (rj k)) := by
  unfold hasR at h
  simp only [Bool.and_eq_true, decide_eq_true_eq] at h
  obtain ⟨h1, h2⟩ := h
  unfold lenR at h2
  by_cases hj : isR ma x = true
  · rw [if_pos hj] at h2
    have hi := isR_of hm hj
    refine ⟨hi, isR_of (hle _ hi.1) (isR_t h1 h2)⟩
  · rw [if_neg hj] at h2
    exact absurd (Int32.not_lt.mp h1) h2
set_option maxHeartbeats 4000000 in
set_option maxRecDepth 100000 in
theorem c_X1_numberAt (l : Launch) (dC : Nat → ClassId) (dI : Nat → Nat → Nat) (cI : ClassId) (r0 r1 r2 r3 r4 : Nat) (nu : Nat → Int32) (st le : Nat → Nat) (te : Nat → Int32) (ma ds dl : Nat) (ke : Int32) (x k : Int32) (hm : ma ≤ 513) (hst : ∀ j, j < ma → st j + le j ≤ 512) : mRi l yX1_numberAt wsX1_numberAt ({ frames := 3, cells := 0, slots := 0, locals := 64 }) (dC, dI) cI [.ref r0, .int x, .int k] (wR cI r0 r1 r2 r3 r4 nu st le te ma ds dl ke) (fun r => r = numR ma st le nu x k) := by
  refine m_ofR (cc := cX1_numberAt) (maxL := 4) (by decide) rfl (Nat.le_of_ble_eq_true rfl) ?_
  intro p e s m args below meth c ls Q hx hb hts hown hml hP hK hl hret
  have hown : s.vm.findClass RX1 = some m.cls := hown
  have hl : lv_has ls 4 [(0, .ref r0), (1, .int x), (2, .int k)] := hl
  have l15 := hts (.fieldLink RX1 15 "GroupDesk$Rows" "starts" "[I") (by decide +kernel)
  have l9 := hts (.fieldLink RX1 9 "GroupDesk$Rows" "numbers" "[I") (by decide +kernel)
  have iX1 : ∀ w ∈ u_ws RX1 TX1 8, w ∈ wsX1_numberAt := by decide +kernel
  refine lv_aload_n hx hb dX1_numberAt_0 rfl (lv_at hl 0 rfl) ?_
  refine lv_iload_n hx hb dX1_numberAt_1 rfl (lv_at hl 1 rfl) ?_
  refine lv_iload_n hx hb dX1_numberAt_2 rfl (lv_at hl 2 rfl) ?_
  refine m_rV (As := [.int x, .int k]) (rest := []) ⟨hx, hb, hml, hown, hts⟩ (c_X1_has l dC dI cI r0 r1 r2 r3 r4 nu st le te ma ds dl ke x k hm) (cwV 2 hts gX1_numberAt_X1_has rfl rfl rfl (by decide +kernel) ⟨Nat.le_of_ble_eq_true rfl, Nat.le_of_ble_eq_true rfl⟩) hP hK 1 0 rfl rfl rfl hl.1 rfl (Nat.le_of_ble_eq_true rfl) dX1_numberAt_3 ⟨Nat.zero_le _, Nat.zero_le _⟩ (fun r hw => ?_)
  subst hw
  refine lv_if_eq (tgt := 20) hx hb dX1_numberAt_6 (by decide) (fun c6 => ?_) (fun c6 => ?_)
  · have hj := b2i_0 c6
    refine lv_iconst (v := (-1)) hx hb dX1_numberAt_20 (by decide) ?_
    refine lv_istore_n (lv' := [(3, .int ((-1))), (0, .ref r0), (1, .int x), (2, .int k)]) hx hb dX1_numberAt_21 rfl hl (by decide) rfl (fun ls hl => ?_)
    refine lv_iload_n hx hb dX1_numberAt_22 rfl (lv_at hl 0 rfl) ?_
    refine lv_if_lt (tgt := 44) hx hb dX1_numberAt_23 (by decide) (fun c23 => ?_) (fun c23 => ?_)
    · have h23 := c23
      refine lv_iconst (v := 0) hx hb dX1_numberAt_44 (by decide) ?_
      exact hret 0 (rfl) (by unfold numR; rw [hj]; rfl) dX1_numberAt_45
    · exact absurd (by decide) c23
  · have hj := b2i_n c6
    have hi := hasR_of (by omega) (fun j h => by have := hst j h; omega) hj
    have h7 : st (rj x) + rj k < 512 := by have h9 := hst (rj x) hi.1.1; have h8 := hi.2.1; omega
    refine lv_aload_n hx hb dX1_numberAt_9 rfl (lv_at hl 0 rfl) ?_
    refine va_get (D := (dC, dI)) (ci := 1) (v := .ref r2) (C := RX1) (T := TX1) (N := 8) hx hb hts iX1 hown hK hP 0 rfl rfl 1 (by decide) l15 (fun _ h9 => h9) rfl dX1_numberAt_10 ?_
    refine lv_iload_n hx hb dX1_numberAt_13 rfl (lv_at hl 1 rfl) ?_
    refine mv_iald hx hb hK hP 2 0 rfl rfl (k := rj x) (hi.1.2) (by have := hi.1.1; omega) (by decide) (v := nI (st (rj x))) rfl dX1_numberAt_14 ?_
    refine lv_iload_n hx hb dX1_numberAt_15 rfl (lv_at hl 2 rfl) ?_
    refine lv_iadd hx hb dX1_numberAt_16 ?_
    refine mv_top (v := nI (st (rj x) + rj k)) (by rw [hi.2.2, rj_nI (by omega)]; exact nI_add _ _) ?_
    refine lv_goto (tgt := 21) hx hb dX1_numberAt_17 (by decide) ?_
    refine lv_istore_n (lv' := [(3, .int (nI (st (rj x) + rj k))), (0, .ref r0), (1, .int x), (2, .int k)]) hx hb dX1_numberAt_21 rfl hl (by decide) rfl (fun ls hl => ?_)
    refine lv_iload_n hx hb dX1_numberAt_22 rfl (lv_at hl 0 rfl) ?_
    refine lv_if_lt (tgt := 44) hx hb dX1_numberAt_23 (by decide) (fun c23 => ?_) (fun c23 => ?_)
    · exact absurd c23 (nI_pos (by omega))
    · have h23 := c23
      refine lv_iload_n hx hb dX1_numberAt_26 rfl (lv_at hl 0 rfl) ?_
      refine lv_aload_n hx hb dX1_numberAt_27 rfl (lv_at hl 1 rfl) ?_
      refine va_get (D := (dC, dI)) (ci := 1) (v := .ref r1) (C := RX1) (T := TX1) (N := 8) hx hb hts iX1 hown hK hP 0 rfl rfl 0 (by decide) l9 (fun _ h9 => h9) rfl dX1_numberAt_28 ?_
      refine va_alen hx hb hK hP 1 0 rfl rfl (v := nI 512) rfl dX1_numberAt_31 ?_
      refine lv_icmp_ge (tgt := 44) hx hb dX1_numberAt_32 (by decide) (fun c32 => ?_) (fun c32 => ?_)
      · exact absurd ((nI_leI (a := 512) (b := st (rj x) + rj k) (by omega) (by omega)).mp c32) (by omega)
      · refine lv_aload_n hx hb dX1_numberAt_35 rfl (lv_at hl 1 rfl) ?_
        refine va_get (D := (dC, dI)) (ci := 1) (v := .ref r1) (C := RX1) (T := TX1) (N := 8) hx hb hts iX1 hown hK hP 0 rfl rfl 0 (by decide) l9 (fun _ h9 => h9) rfl dX1_numberAt_36 ?_
        refine lv_iload_n hx hb dX1_numberAt_39 rfl (lv_at hl 0 rfl) ?_
        refine mv_iald hx hb hK hP 1 0 rfl rfl (k := st (rj x) + rj k) (rfl) (h7) (by decide) (v := nu (st (rj x) + rj k)) rfl dX1_numberAt_40 ?_
        refine lv_goto (tgt := 45) hx hb dX1_numberAt_41 (by decide) ?_
        exact hret (nu (st (rj x) + rj k)) (rfl) (by unfold numR; rw [hj]; rfl) dX1_numberAt_45
set_option maxHeartbeats 4000000 in
set_option maxRecDepth 100000 in
theorem c_X1_drafted (l : Launch) (dC : Nat → ClassId) (dI : Nat → Nat → Nat) (cI : ClassId) (r0 r1 r2 r3 r4 : Nat) (nu : Nat → Int32) (st le : Nat → Nat) (te : Nat → Int32) (ma ds dl : Nat) (ke : Int32)   : mRi l yX1_drafted wsX1_drafted ({ frames := 0, cells := 0, slots := 0, locals := 0 }) (dC, dI) cI [.ref r0] (wR cI r0 r1 r2 r3 r4 nu st le te ma ds dl ke) (fun r => r = nI dl) := by
  refine m_ofR (cc := cX1_drafted) (maxL := 1) (by decide) rfl (Nat.le_of_ble_eq_true rfl) ?_
  intro p e s m args below meth c ls Q hx hb hts hown hml hP hK hl hret
  have hown : s.vm.findClass RX1 = some m.cls := hown
  have hl : lv_has ls 1 [(0, .ref r0)] := hl
  have l31 := hts (.fieldLink RX1 31 "GroupDesk$Rows" "draftLength" "I") (by decide +kernel)
  have iX1 : ∀ w ∈ u_ws RX1 TX1 8, w ∈ wsX1_drafted := by decide +kernel
  refine lv_aload_n hx hb dX1_drafted_0 rfl (lv_at hl 0 rfl) ?_
  refine va_get (D := (dC, dI)) (ci := 1) (v := .int (nI dl)) (C := RX1) (T := TX1) (N := 8) hx hb hts iX1 hown hK hP 0 rfl rfl 6 (by decide) l31 (fun _ h9 => h9) rfl dX1_drafted_1 ?_
  exact hret (nI dl) (rfl) (rfl) dX1_drafted_4
set_option maxHeartbeats 4000000 in
set_option maxRecDepth 100000 in
theorem c_X1_kept (l : Launch) (dC : Nat → ClassId) (dI : Nat → Nat → Nat) (cI : ClassId) (r0 r1 r2 r3 r4 : Nat) (nu : Nat → Int32) (st le : Nat → Nat) (te : Nat → Int32) (ma ds dl : Nat) (ke : Int32)   : mRi l yX1_kept wsX1_kept ({ frames := 0, cells := 0, slots := 0, locals := 0 }) (dC, dI) cI [.ref r0] (wR cI r0 r1 r2 r3 r4 nu st le te ma ds dl ke) (fun r => r = ke) := by
  refine m_ofR (cc := cX1_kept) (maxL := 1) (by decide) rfl (Nat.le_of_ble_eq_true rfl) ?_
  intro p e s m args below meth c ls Q hx hb hts hown hml hP hK hl hret
  have hown : s.vm.findClass RX1 = some m.cls := hown
  have hl : lv_has ls 1 [(0, .ref r0)] := hl
  have l34 := hts (.fieldLink RX1 34 "GroupDesk$Rows" "keptNumbers" "I") (by decide +kernel)
  have iX1 : ∀ w ∈ u_ws RX1 TX1 8, w ∈ wsX1_kept := by decide +kernel
  refine lv_aload_n hx hb dX1_kept_0 rfl (lv_at hl 0 rfl) ?_
  refine va_get (D := (dC, dI)) (ci := 1) (v := .int ke) (C := RX1) (T := TX1) (N := 8) hx hb hts iX1 hown hK hP 0 rfl rfl 7 (by decide) l34 (fun _ h9 => h9) rfl dX1_kept_1 ?_
  exact hret ke (rfl) (rfl) dX1_kept_4
set_option maxHeartbeats 4000000 in
set_option maxRecDepth 100000 in
theorem c_X1_join (l : Launch) (dC : Nat → ClassId) (dI : Nat → Nat → Nat) (cI : ClassId) (r0 r1 r2 r3 r4 : Nat) (nu : Nat → Int32) (st le : Nat → Nat) (te : Nat → Int32) (ma ds dl : Nat) (ke : Int32) (v : Int32) (hd : ds + dl ≤ 512) : mWi l yX1_join wsX1_join ({ frames := 0, cells := 0, slots := 0, locals := 0 }) (dC, dI) cI [.ref r0, .int v] (wR cI r0 r1 r2 r3 r4 nu st le te ma ds dl ke) (fun r u => r = (joinF nu ds dl v).1 ∧ u = (joinF nu ds dl v).2) (fun u : (Nat → Int32) × Nat => wR cI r0 r1 r2 r3 r4 u.1 st le te ma ds u.2 ke) := by
  refine m_ofWi (cc := cX1_join) (maxL := 3) (by decide) rfl (Nat.le_of_ble_eq_true rfl) ?_
  intro p e s m args below meth c ls A Q hx hb hts hown hml hP hK hD hA hS hl hret
  have hown : s.vm.findClass RX1 = some m.cls := hown
  have hl : lv_has ls 3 [(0, .ref r0), (1, .int v)] := hl
  have l28 := hts (.fieldLink RX1 28 "GroupDesk$Rows" "draftStart" "I") (by decide +kernel)
  have l31 := hts (.fieldLink RX1 31 "GroupDesk$Rows" "draftLength" "I") (by decide +kernel)
  have l9 := hts (.fieldLink RX1 9 "GroupDesk$Rows" "numbers" "[I") (by decide +kernel)
  have iX1 : ∀ w ∈ u_ws RX1 TX1 8, w ∈ wsX1_join := by decide +kernel
  refine lv_aload_n hx hb dX1_join_0 rfl (lv_at hl 0 rfl) ?_
  refine va_get (D := (dC, dI)) (ci := 1) (v := .int (nI ds)) (C := RX1) (T := TX1) (N := 8) hx hb hts iX1 hown hK hP 0 rfl rfl 5 (by decide) l28 (fun _ h9 => h9) rfl dX1_join_1 ?_
  refine lv_aload_n hx hb dX1_join_4 rfl (lv_at hl 0 rfl) ?_
  refine va_get (D := (dC, dI)) (ci := 1) (v := .int (nI dl)) (C := RX1) (T := TX1) (N := 8) hx hb hts iX1 hown hK hP 0 rfl rfl 6 (by decide) l31 (fun _ h9 => h9) rfl dX1_join_5 ?_
  refine lv_iadd hx hb dX1_join_8 ?_
  refine mv_top (v := nI (ds + dl)) (nI_add ds dl) ?_
  refine lv_istore_n (lv' := [(2, .int (nI (ds + dl))), (0, .ref r0), (1, .int v)]) hx hb dX1_join_9 rfl hl (by decide) rfl (fun ls hl => ?_)
  refine lv_aload_n hx hb dX1_join_10 rfl (lv_at hl 1 rfl) ?_
  refine va_get (D := (dC, dI)) (ci := 1) (v := .int (nI dl)) (C := RX1) (T := TX1) (N := 8) hx hb hts iX1 hown hK hP 0 rfl rfl 6 (by decide) l31 (fun _ h9 => h9) rfl dX1_join_11 ?_
  refine lv_sipush (v := nI 200) hx hb dX1_join_14 (by decide) ?_
  refine lv_icmp_ge (tgt := 29) hx hb dX1_join_17 (by decide) (fun c17 => ?_) (fun c17 => ?_)
  · refine lv_iconst (v := 0) hx hb dX1_join_29 (by decide) ?_
    exact hret 0 ((nu, dl)) (rfl) (by unfold joinF; rw [if_neg (fun h => by have := (nI_leI (by omega) (by omega)).mp c17; omega)]; exact ⟨rfl, rfl⟩) hP hD hS dX1_join_30
  · refine lv_iload_n hx hb dX1_join_20 rfl (lv_at hl 0 rfl) ?_
    refine lv_aload_n hx hb dX1_join_21 rfl (lv_at hl 1 rfl) ?_
    refine va_get (D := (dC, dI)) (ci := 1) (v := .ref r1) (C := RX1) (T := TX1) (N := 8) hx hb hts iX1 hown hK hP 0 rfl rfl 0 (by decide) l9 (fun _ h9 => h9) rfl dX1_join_22 ?_
    refine va_alen hx hb hK hP 1 0 rfl rfl (v := nI 512) rfl dX1_join_25 ?_
    refine lv_icmp_lt (tgt := 31) hx hb dX1_join_26 (by decide) (fun c26 => ?_) (fun c26 => ?_)
    · have h9 : dl < 200 ∧ ds + dl < 512 := ⟨Nat.lt_of_not_le fun h => c17 ((nI_leI (a := 200) (b := dl) (by omega) (by omega)).mpr h), (nI_ltI (by omega) (by omega)).mp c26⟩
      refine lv_aload_n hx hb dX1_join_31 rfl (lv_at hl 1 rfl) ?_
      refine va_get (D := (dC, dI)) (ci := 1) (v := .ref r1) (C := RX1) (T := TX1) (N := 8) hx hb hts iX1 hown hK hP 0 rfl rfl 0 (by decide) l9 (fun _ h9 => h9) rfl dX1_join_32 ?_
      refine lv_iload_n hx hb dX1_join_35 rfl (lv_at hl 0 rfl) ?_
      refine lv_iload_n hx hb dX1_join_36 rfl (lv_at hl 2 rfl) ?_
      refine mv_iast hx hb hK hP hD hS 1 0 rfl rfl (k := ds + dl) (rfl) (h9.2) (by decide) (f' := upd nu (ds + dl) v) (rfl) dX1_join_37 (fun H locs hP hD hS => ?_)
      have hP : va_P (dC, dI) vwCl (wR cI r0 r1 r2 r3 r4 (upd nu (ds + dl) v) st le te ma ds dl ke) _ := hP
      have hD : va_D A (wR cI r0 r1 r2 r3 r4 (upd nu (ds + dl) v) st le te ma ds dl ke) := hD
      refine lv_aload_n hx hb dX1_join_38 rfl (lv_at hl 1 rfl) ?_
      refine lv_dup hx hb dX1_join_39 rfl ?_
      refine va_get (D := (dC, dI)) (ci := 1) (v := .int (nI dl)) (C := RX1) (T := TX1) (N := 8) hx hb hts iX1 hown hK hP 0 rfl rfl 6 (by decide) l31 (fun _ h9 => h9) rfl dX1_join_40 ?_
      refine lv_iconst (v := 1) hx hb dX1_join_43 (by decide) ?_
      refine lv_iadd hx hb dX1_join_44 ?_
      refine mv_top (v := nI (dl + 1)) (nI_1 dl) ?_
      refine va_put (D := (dC, dI)) (ci := 1) (v := .int (nI (dl + 1))) (ty := .int) (C := RX1) (T := TX1) (N := 8) hx hb hts iX1 tyX1 tyX1_ok nmX1 hown hK hP hD hS 0 rfl rfl 6 (by decide) l31 (fun _ h9 => h9) rfl (by decide +kernel) rfl rfl (Nat.le_of_ble_eq_true rfl) dX1_join_45 (fun H locs hP hD hS => ?_)
      have hP : va_P (dC, dI) vwCl (wR cI r0 r1 r2 r3 r4 (upd nu (ds + dl) v) st le te ma ds (dl + 1) ke) _ := hP
      have hD : va_D A (wR cI r0 r1 r2 r3 r4 (upd nu (ds + dl) v) st le te ma ds (dl + 1) ke) := hD
      refine lv_iconst (v := 1) hx hb dX1_join_48 (by decide) ?_
      exact hret 1 ((upd nu (ds + dl) v, dl + 1)) (rfl) (by unfold joinF; rw [if_pos h9]; exact ⟨rfl, rfl⟩) hP hD hS dX1_join_49
    · refine lv_iconst (v := 0) hx hb dX1_join_29 (by decide) ?_
      exact hret 0 ((nu, dl)) (rfl) (by unfold joinF; rw [if_neg (fun h => c26 ((nI_ltI (by omega) (by omega)).mpr h.2))]; exact ⟨rfl, rfl⟩) hP hD hS dX1_join_30
set_option maxHeartbeats 4000000 in
set_option maxRecDepth 100000 in
theorem c_X1_takeDraft (l : Launch) (dC : Nat → ClassId) (dI : Nat → Nat → Nat) (cI : ClassId) (r0 r1 r2 r3 r4 : Nat) (nu : Nat → Int32) (st le : Nat → Nat) (te : Nat → Int32) (ma ds dl : Nat) (ke : Int32)  (hm : ma ≤ 513) (hd : ds + dl ≤ 512) : mWi l yX1_takeDraft wsX1_takeDraft ({ frames := 0, cells := 0, slots := 0, locals := 0 }) (dC, dI) cI [.ref r0] (wR cI r0 r1 r2 r3 r4 nu st le te ma ds dl ke) (fun r u => r = (takeF st le ma ds dl).1 ∧ u = (takeF st le ma ds dl).2) (fun u : (Nat → Nat) × (Nat → Nat) × Nat × Nat × Nat => wR cI r0 r1 r2 r3 r4 nu u.1 u.2.1 te u.2.2.1 u.2.2.2.1 u.2.2.2.2 ke) := by
  refine m_ofWi (cc := cX1_takeDraft) (maxL := 2) (by decide) rfl (Nat.le_of_ble_eq_true rfl) ?_
  intro p e s m args below meth c ls A Q hx hb hts hown hml hP hK hD hA hS hl hret
  have hown : s.vm.findClass RX1 = some m.cls := hown
  have hl : lv_has ls 2 [(0, .ref r0)] := hl
  have l31 := hts (.fieldLink RX1 31 "GroupDesk$Rows" "draftLength" "I") (by decide +kernel)
  have l24 := hts (.fieldLink RX1 24 "GroupDesk$Rows" "made" "I") (by decide +kernel)
  have l15 := hts (.fieldLink RX1 15 "GroupDesk$Rows" "starts" "[I") (by decide +kernel)
  have l28 := hts (.fieldLink RX1 28 "GroupDesk$Rows" "draftStart" "I") (by decide +kernel)
  have l18 := hts (.fieldLink RX1 18 "GroupDesk$Rows" "lengths" "[I") (by decide +kernel)
  have iX1 : ∀ w ∈ u_ws RX1 TX1 8, w ∈ wsX1_takeDraft := by decide +kernel
  refine lv_aload_n hx hb dX1_takeDraft_0 rfl (lv_at hl 0 rfl) ?_
  refine va_get (D := (dC, dI)) (ci := 1) (v := .int (nI dl)) (C := RX1) (T := TX1) (N := 8) hx hb hts iX1 hown hK hP 0 rfl rfl 6 (by decide) l31 (fun _ h9 => h9) rfl dX1_takeDraft_1 ?_
  refine lv_if_eq (tgt := 19) hx hb dX1_takeDraft_4 (by decide) (fun c4 => ?_) (fun c4 => ?_)
  · refine lv_iconst (v := 0) hx hb dX1_takeDraft_19 (by decide) ?_
    exact hret 0 ((st, le, ma, ds, dl)) (rfl) (by unfold takeF; rw [if_pos (Or.inl ((nI_eq (by omega) (by decide)).mp (c4.trans nI_0.symm)))]; exact ⟨rfl, rfl⟩) hP hD hS dX1_takeDraft_20
  · refine lv_aload_n hx hb dX1_takeDraft_7 rfl (lv_at hl 0 rfl) ?_
    refine va_get (D := (dC, dI)) (ci := 1) (v := .int (nI ma)) (C := RX1) (T := TX1) (N := 8) hx hb hts iX1 hown hK hP 0 rfl rfl 4 (by decide) l24 (fun _ h9 => h9) rfl dX1_takeDraft_8 ?_
    refine lv_aload_n hx hb dX1_takeDraft_11 rfl (lv_at hl 0 rfl) ?_
    refine va_get (D := (dC, dI)) (ci := 1) (v := .ref r2) (C := RX1) (T := TX1) (N := 8) hx hb hts iX1 hown hK hP 0 rfl rfl 1 (by decide) l15 (fun _ h9 => h9) rfl dX1_takeDraft_12 ?_
    refine va_alen hx hb hK hP 2 0 rfl rfl (v := nI 513) rfl dX1_takeDraft_15 ?_
    refine lv_icmp_lt (tgt := 21) hx hb dX1_takeDraft_16 (by decide) (fun c16 => ?_) (fun c16 => ?_)
    · have h8 : ma < 513 := (nI_ltI (by omega) (by omega)).mp c16
      have h9 : ¬ (dl = 0 ∨ 513 ≤ ma) := fun h => h.elim (fun h => c4 (by rw [h]; rfl)) (fun h => by omega)
      refine lv_aload_n hx hb dX1_takeDraft_21 rfl (lv_at hl 0 rfl) ?_
      refine va_get (D := (dC, dI)) (ci := 1) (v := .int (nI ma)) (C := RX1) (T := TX1) (N := 8) hx hb hts iX1 hown hK hP 0 rfl rfl 4 (by decide) l24 (fun _ h9 => h9) rfl dX1_takeDraft_22 ?_
      refine lv_istore_n (lv' := [(1, .int (nI ma)), (0, .ref r0)]) hx hb dX1_takeDraft_25 rfl hl (by decide) rfl (fun ls hl => ?_)
      refine lv_aload_n hx hb dX1_takeDraft_26 rfl (lv_at hl 1 rfl) ?_
      refine va_get (D := (dC, dI)) (ci := 1) (v := .ref r2) (C := RX1) (T := TX1) (N := 8) hx hb hts iX1 hown hK hP 0 rfl rfl 1 (by decide) l15 (fun _ h9 => h9) rfl dX1_takeDraft_27 ?_
      refine lv_iload_n hx hb dX1_takeDraft_30 rfl (lv_at hl 0 rfl) ?_
      refine lv_aload_n hx hb dX1_takeDraft_31 rfl (lv_at hl 1 rfl) ?_
      refine va_get (D := (dC, dI)) (ci := 1) (v := .int (nI ds)) (C := RX1) (T := TX1) (N := 8) hx hb hts iX1 hown hK hP 0 rfl rfl 5 (by decide) l28 (fun _ h9 => h9) rfl dX1_takeDraft_32 ?_
      refine mv_iast hx hb hK hP hD hS 2 0 rfl rfl (k := ma) (rfl) (h8) (by decide) (f' := nF (va_up st ma ds)) (nF_up _ _ _) dX1_takeDraft_35 (fun H locs hP hD hS => ?_)
      have hP : va_P (dC, dI) vwCl (wR cI r0 r1 r2 r3 r4 nu (va_up st ma ds) le te ma ds dl ke) _ := hP
      have hD : va_D A (wR cI r0 r1 r2 r3 r4 nu (va_up st ma ds) le te ma ds dl ke) := hD
      refine lv_aload_n hx hb dX1_takeDraft_36 rfl (lv_at hl 1 rfl) ?_
      refine va_get (D := (dC, dI)) (ci := 1) (v := .ref r3) (C := RX1) (T := TX1) (N := 8) hx hb hts iX1 hown hK hP 0 rfl rfl 2 (by decide) l18 (fun _ h9 => h9) rfl dX1_takeDraft_37 ?_
      refine lv_iload_n hx hb dX1_takeDraft_40 rfl (lv_at hl 0 rfl) ?_
      refine lv_aload_n hx hb dX1_takeDraft_41 rfl (lv_at hl 1 rfl) ?_
      refine va_get (D := (dC, dI)) (ci := 1) (v := .int (nI dl)) (C := RX1) (T := TX1) (N := 8) hx hb hts iX1 hown hK hP 0 rfl rfl 6 (by decide) l31 (fun _ h9 => h9) rfl dX1_takeDraft_42 ?_
      refine mv_iast hx hb hK hP hD hS 3 0 rfl rfl (k := ma) (rfl) (h8) (by decide) (f' := nF (va_up le ma dl)) (nF_up _ _ _) dX1_takeDraft_45 (fun H locs hP hD hS => ?_)
      have hP : va_P (dC, dI) vwCl (wR cI r0 r1 r2 r3 r4 nu (va_up st ma ds) (va_up le ma dl) te ma ds dl ke) _ := hP
      have hD : va_D A (wR cI r0 r1 r2 r3 r4 nu (va_up st ma ds) (va_up le ma dl) te ma ds dl ke) := hD
      refine lv_aload_n hx hb dX1_takeDraft_46 rfl (lv_at hl 1 rfl) ?_
      refine lv_dup hx hb dX1_takeDraft_47 rfl ?_
      refine va_get (D := (dC, dI)) (ci := 1) (v := .int (nI ma)) (C := RX1) (T := TX1) (N := 8) hx hb hts iX1 hown hK hP 0 rfl rfl 4 (by decide) l24 (fun _ h9 => h9) rfl dX1_takeDraft_48 ?_
      refine lv_iconst (v := 1) hx hb dX1_takeDraft_51 (by decide) ?_
      refine lv_iadd hx hb dX1_takeDraft_52 ?_
      refine mv_top (v := nI (ma + 1)) (nI_1 ma) ?_
      refine va_put (D := (dC, dI)) (ci := 1) (v := .int (nI (ma + 1))) (ty := .int) (C := RX1) (T := TX1) (N := 8) hx hb hts iX1 tyX1 tyX1_ok nmX1 hown hK hP hD hS 0 rfl rfl 4 (by decide) l24 (fun _ h9 => h9) rfl (by decide +kernel) rfl rfl (Nat.le_of_ble_eq_true rfl) dX1_takeDraft_53 (fun H locs hP hD hS => ?_)
      have hP : va_P (dC, dI) vwCl (wR cI r0 r1 r2 r3 r4 nu (va_up st ma ds) (va_up le ma dl) te (ma + 1) ds dl ke) _ := hP
      have hD : va_D A (wR cI r0 r1 r2 r3 r4 nu (va_up st ma ds) (va_up le ma dl) te (ma + 1) ds dl ke) := hD
      refine lv_aload_n hx hb dX1_takeDraft_56 rfl (lv_at hl 1 rfl) ?_
      refine lv_dup hx hb dX1_takeDraft_57 rfl ?_
      refine va_get (D := (dC, dI)) (ci := 1) (v := .int (nI ds)) (C := RX1) (T := TX1) (N := 8) hx hb hts iX1 hown hK hP 0 rfl rfl 5 (by decide) l28 (fun _ h9 => h9) rfl dX1_takeDraft_58 ?_
      refine lv_aload_n hx hb dX1_takeDraft_61 rfl (lv_at hl 1 rfl) ?_
      refine va_get (D := (dC, dI)) (ci := 1) (v := .int (nI dl)) (C := RX1) (T := TX1) (N := 8) hx hb hts iX1 hown hK hP 0 rfl rfl 6 (by decide) l31 (fun _ h9 => h9) rfl dX1_takeDraft_62 ?_
      refine lv_iadd hx hb dX1_takeDraft_65 ?_
      refine mv_top (v := nI (ds + dl)) (nI_add ds dl) ?_
      refine va_put (D := (dC, dI)) (ci := 1) (v := .int (nI (ds + dl))) (ty := .int) (C := RX1) (T := TX1) (N := 8) hx hb hts iX1 tyX1 tyX1_ok nmX1 hown hK hP hD hS 0 rfl rfl 5 (by decide) l28 (fun _ h9 => h9) rfl (by decide +kernel) rfl rfl (Nat.le_of_ble_eq_true rfl) dX1_takeDraft_66 (fun H locs hP hD hS => ?_)
      have hP : va_P (dC, dI) vwCl (wR cI r0 r1 r2 r3 r4 nu (va_up st ma ds) (va_up le ma dl) te (ma + 1) (ds + dl) dl ke) _ := hP
      have hD : va_D A (wR cI r0 r1 r2 r3 r4 nu (va_up st ma ds) (va_up le ma dl) te (ma + 1) (ds + dl) dl ke) := hD
      refine lv_aload_n hx hb dX1_takeDraft_69 rfl (lv_at hl 1 rfl) ?_
      refine lv_iconst (v := 0) hx hb dX1_takeDraft_70 (by decide) ?_
      refine mv_top (v := nI 0) rfl ?_
      refine va_put (D := (dC, dI)) (ci := 1) (v := .int (nI 0)) (ty := .int) (C := RX1) (T := TX1) (N := 8) hx hb hts iX1 tyX1 tyX1_ok nmX1 hown hK hP hD hS 0 rfl rfl 6 (by decide) l31 (fun _ h9 => h9) rfl (by decide +kernel) rfl rfl (Nat.le_of_ble_eq_true rfl) dX1_takeDraft_71 (fun H locs hP hD hS => ?_)
      have hP : va_P (dC, dI) vwCl (wR cI r0 r1 r2 r3 r4 nu (va_up st ma ds) (va_up le ma dl) te (ma + 1) (ds + dl) 0 ke) _ := hP
      have hD : va_D A (wR cI r0 r1 r2 r3 r4 nu (va_up st ma ds) (va_up le ma dl) te (ma + 1) (ds + dl) 0 ke) := hD
      refine lv_iload_n hx hb dX1_takeDraft_74 rfl (lv_at hl 0 rfl) ?_
      exact hret (nI ma) ((va_up st ma ds, va_up le ma dl, ma + 1, ds + dl, 0)) (rfl) (by unfold takeF; rw [if_neg h9]; exact ⟨rfl, rfl⟩) hP hD hS dX1_takeDraft_75
    · refine lv_iconst (v := 0) hx hb dX1_takeDraft_19 (by decide) ?_
      exact hret 0 ((st, le, ma, ds, dl)) (rfl) (by unfold takeF; rw [if_pos (Or.inr (Nat.le_of_not_lt fun h => c16 ((nI_ltI (by omega) (by omega)).mpr h)))]; exact ⟨rfl, rfl⟩) hP hD hS dX1_takeDraft_20
set_option maxHeartbeats 4000000 in
set_option maxRecDepth 100000 in
theorem c_X1_addTeller (l : Launch) (dC : Nat → ClassId) (dI : Nat → Nat → Nat) (cI : ClassId) (r0 r1 r2 r3 r4 : Nat) (nu : Nat → Int32) (st le : Nat → Nat) (te : Nat → Int32) (ma ds dl : Nat) (ke : Int32) (x : Int32) (hm : ma ≤ 513) : mWv l yX1_addTeller wsX1_addTeller ({ frames := 1, cells := 0, slots := 0, locals := 21 }) (dC, dI) cI [.ref r0, .int x] (wR cI r0 r1 r2 r3 r4 nu st le te ma ds dl ke) (fun u => u = addT ma le x te ke) (fun u : (Nat → Int32) × Int32 => wR cI r0 r1 r2 r3 r4 nu st le u.1 ma ds dl u.2) := by
  refine m_ofWv (cc := cX1_addTeller) (maxL := 2) (by decide) rfl (Nat.le_of_ble_eq_true rfl) ?_
  intro p e s m args below meth c ls A Q hx hb hts hown hml hP hK hD hA hS hl hret
  have hown : s.vm.findClass RX1 = some m.cls := hown
  have hl : lv_has ls 2 [(0, .ref r0), (1, .int x)] := hl
  have l21 := hts (.fieldLink RX1 21 "GroupDesk$Rows" "tellers" "[I") (by decide +kernel)
  have l34 := hts (.fieldLink RX1 34 "GroupDesk$Rows" "keptNumbers" "I") (by decide +kernel)
  have l18 := hts (.fieldLink RX1 18 "GroupDesk$Rows" "lengths" "[I") (by decide +kernel)
  have iX1 : ∀ w ∈ u_ws RX1 TX1 8, w ∈ wsX1_addTeller := by decide +kernel
  refine lv_aload_n hx hb dX1_addTeller_0 rfl (lv_at hl 0 rfl) ?_
  refine lv_iload_n hx hb dX1_addTeller_1 rfl (lv_at hl 1 rfl) ?_
  refine m_rV (As := [.int x]) (rest := []) ⟨hx, hb, hml, hown, hts⟩ (c_X1_isRow l dC dI cI r0 r1 r2 r3 r4 nu st le te ma ds dl ke x) (cwV 1 hts gX1_addTeller_X1_isRow rfl rfl rfl (by decide +kernel) ⟨Nat.le_of_ble_eq_true rfl, Nat.le_of_ble_eq_true rfl⟩) hP hK 1 0 rfl rfl rfl hl.1 rfl (Nat.le_of_ble_eq_true rfl) dX1_addTeller_2 ⟨Nat.zero_le _, Nat.zero_le _⟩ (fun r hw => ?_)
  subst hw
  refine lv_if_ne (tgt := 9) hx hb dX1_addTeller_5 (by decide) (fun c5 => ?_) (fun c5 => ?_)
  · have hj := b2i_n c5
    have hi := isR_of (by omega) hj
    refine lv_aload_n hx hb dX1_addTeller_9 rfl (lv_at hl 0 rfl) ?_
    refine va_get (D := (dC, dI)) (ci := 1) (v := .ref r4) (C := RX1) (T := TX1) (N := 8) hx hb hts iX1 hown hK hP 0 rfl rfl 3 (by decide) l21 (fun _ h9 => h9) rfl dX1_addTeller_10 ?_
    refine lv_iload_n hx hb dX1_addTeller_13 rfl (lv_at hl 1 rfl) ?_
    refine mv_iald hx hb hK hP 4 0 rfl rfl (k := rj x) (hi.2) (by omega) (by decide) (v := te (rj x)) rfl dX1_addTeller_14 ?_
    refine lv_if_ne (tgt := 33) hx hb dX1_addTeller_15 (by decide) (fun c15 => ?_) (fun c15 => ?_)
    · refine lv_aload_n hx hb dX1_addTeller_33 rfl (lv_at hl 0 rfl) ?_
      refine va_get (D := (dC, dI)) (ci := 1) (v := .ref r4) (C := RX1) (T := TX1) (N := 8) hx hb hts iX1 hown hK hP 0 rfl rfl 3 (by decide) l21 (fun _ h9 => h9) rfl dX1_addTeller_34 ?_
      refine lv_iload_n hx hb dX1_addTeller_37 rfl (lv_at hl 1 rfl) ?_
      refine lv_dup2_11 hx hb dX1_addTeller_38 rfl rfl ?_
      refine mv_iald hx hb hK hP 4 0 rfl rfl (k := rj x) (hi.2) (by omega) (by decide) (v := te (rj x)) rfl dX1_addTeller_39 ?_
      refine lv_iconst (v := 1) hx hb dX1_addTeller_40 (by decide) ?_
      refine lv_iadd hx hb dX1_addTeller_41 ?_
      refine mv_iast hx hb hK hP hD hS 4 0 rfl rfl (k := rj x) (hi.2) (by omega) (by decide) (f' := upd te (rj x) ((te (rj x)) + 1)) (rfl) dX1_addTeller_42 (fun H locs hP hD hS => ?_)
      have hP : va_P (dC, dI) vwCl (wR cI r0 r1 r2 r3 r4 nu st le (upd te (rj x) ((te (rj x)) + 1)) ma ds dl ke) _ := hP
      have hD : va_D A (wR cI r0 r1 r2 r3 r4 nu st le (upd te (rj x) ((te (rj x)) + 1)) ma ds dl ke) := hD
      exact hret ((upd te (rj x) ((te (rj x)) + 1), ke)) (by unfold addT; rw [hj]; simp only [if_true, if_neg c15]) hP hD hS dX1_addTeller_43
    · refine lv_aload_n hx hb dX1_addTeller_18 rfl (lv_at hl 0 rfl) ?_
      refine lv_dup hx hb dX1_addTeller_19 rfl ?_
      refine va_get (D := (dC, dI)) (ci := 1) (v := .int ke) (C := RX1) (T := TX1) (N := 8) hx hb hts iX1 hown hK hP 0 rfl rfl 7 (by decide) l34 (fun _ h9 => h9) rfl dX1_addTeller_20 ?_
      refine lv_aload_n hx hb dX1_addTeller_23 rfl (lv_at hl 0 rfl) ?_
      refine va_get (D := (dC, dI)) (ci := 1) (v := .ref r3) (C := RX1) (T := TX1) (N := 8) hx hb hts iX1 hown hK hP 0 rfl rfl 2 (by decide) l18 (fun _ h9 => h9) rfl dX1_addTeller_24 ?_
      refine lv_iload_n hx hb dX1_addTeller_27 rfl (lv_at hl 1 rfl) ?_
      refine mv_iald hx hb hK hP 3 0 rfl rfl (k := rj x) (hi.2) (by omega) (by decide) (v := nI (le (rj x))) rfl dX1_addTeller_28 ?_
      refine lv_iadd hx hb dX1_addTeller_29 ?_
      refine va_put (D := (dC, dI)) (ci := 1) (v := .int (ke + (nI (le (rj x))))) (ty := .int) (C := RX1) (T := TX1) (N := 8) hx hb hts iX1 tyX1 tyX1_ok nmX1 hown hK hP hD hS 0 rfl rfl 7 (by decide) l34 (fun _ h9 => h9) rfl (by decide +kernel) rfl rfl (Nat.le_of_ble_eq_true rfl) dX1_addTeller_30 (fun H locs hP hD hS => ?_)
      have hP : va_P (dC, dI) vwCl (wR cI r0 r1 r2 r3 r4 nu st le te ma ds dl (ke + (nI (le (rj x))))) _ := hP
      have hD : va_D A (wR cI r0 r1 r2 r3 r4 nu st le te ma ds dl (ke + (nI (le (rj x))))) := hD
      refine lv_aload_n hx hb dX1_addTeller_33 rfl (lv_at hl 0 rfl) ?_
      refine va_get (D := (dC, dI)) (ci := 1) (v := .ref r4) (C := RX1) (T := TX1) (N := 8) hx hb hts iX1 hown hK hP 0 rfl rfl 3 (by decide) l21 (fun _ h9 => h9) rfl dX1_addTeller_34 ?_
      refine lv_iload_n hx hb dX1_addTeller_37 rfl (lv_at hl 1 rfl) ?_
      refine lv_dup2_11 hx hb dX1_addTeller_38 rfl rfl ?_
      refine mv_iald hx hb hK hP 4 0 rfl rfl (k := rj x) (hi.2) (by omega) (by decide) (v := te (rj x)) rfl dX1_addTeller_39 ?_
      refine lv_iconst (v := 1) hx hb dX1_addTeller_40 (by decide) ?_
      refine lv_iadd hx hb dX1_addTeller_41 ?_
      refine mv_iast hx hb hK hP hD hS 4 0 rfl rfl (k := rj x) (hi.2) (by omega) (by decide) (f' := upd te (rj x) ((te (rj x)) + 1)) (rfl) dX1_addTeller_42 (fun H locs hP hD hS => ?_)
      have hP : va_P (dC, dI) vwCl (wR cI r0 r1 r2 r3 r4 nu st le (upd te (rj x) ((te (rj x)) + 1)) ma ds dl (ke + (nI (le (rj x))))) _ := hP
      have hD : va_D A (wR cI r0 r1 r2 r3 r4 nu st le (upd te (rj x) ((te (rj x)) + 1)) ma ds dl (ke + (nI (le (rj x))))) := hD
      exact hret ((upd te (rj x) ((te (rj x)) + 1), ke + (nI (le (rj x))))) (by unfold addT; rw [hj]; simp only [if_true, if_pos c15]) hP hD hS dX1_addTeller_43
  · have hj := b2i_0 c5
    exact hret ((te, ke)) (by unfold addT; rw [hj]; rfl) hP hD hS dX1_addTeller_8
set_option maxHeartbeats 4000000 in
set_option maxRecDepth 100000 in
theorem c_X1_dropTeller (l : Launch) (dC : Nat → ClassId) (dI : Nat → Nat → Nat) (cI : ClassId) (r0 r1 r2 r3 r4 : Nat) (nu : Nat → Int32) (st le : Nat → Nat) (te : Nat → Int32) (ma ds dl : Nat) (ke : Int32) (x : Int32) (hm : ma ≤ 513) : mWv l yX1_dropTeller wsX1_dropTeller ({ frames := 1, cells := 0, slots := 0, locals := 21 }) (dC, dI) cI [.ref r0, .int x] (wR cI r0 r1 r2 r3 r4 nu st le te ma ds dl ke) (fun u => u = dropT ma le x te ke) (fun u : (Nat → Int32) × Int32 => wR cI r0 r1 r2 r3 r4 nu st le u.1 ma ds dl u.2) := by
  refine m_ofWv (cc := cX1_dropTeller) (maxL := 2) (by decide) rfl (Nat.le_of_ble_eq_true rfl) ?_
  intro p e s m args below meth c ls A Q hx hb hts hown hml hP hK hD hA hS hl hret
  have hown : s.vm.findClass RX1 = some m.cls := hown
  have hl : lv_has ls 2 [(0, .ref r0), (1, .int x)] := hl
  have l21 := hts (.fieldLink RX1 21 "GroupDesk$Rows" "tellers" "[I") (by decide +kernel)
  have l34 := hts (.fieldLink RX1 34 "GroupDesk$Rows" "keptNumbers" "I") (by decide +kernel)
  have l18 := hts (.fieldLink RX1 18 "GroupDesk$Rows" "lengths" "[I") (by decide +kernel)
  have iX1 : ∀ w ∈ u_ws RX1 TX1 8, w ∈ wsX1_dropTeller := by decide +kernel
  refine lv_aload_n hx hb dX1_dropTeller_0 rfl (lv_at hl 0 rfl) ?_
  refine lv_iload_n hx hb dX1_dropTeller_1 rfl (lv_at hl 1 rfl) ?_
  refine m_rV (As := [.int x]) (rest := []) ⟨hx, hb, hml, hown, hts⟩ (c_X1_isRow l dC dI cI r0 r1 r2 r3 r4 nu st le te ma ds dl ke x) (cwV 1 hts gX1_dropTeller_X1_isRow rfl rfl rfl (by decide +kernel) ⟨Nat.le_of_ble_eq_true rfl, Nat.le_of_ble_eq_true rfl⟩) hP hK 1 0 rfl rfl rfl hl.1 rfl (Nat.le_of_ble_eq_true rfl) dX1_dropTeller_2 ⟨Nat.zero_le _, Nat.zero_le _⟩ (fun r hw => ?_)
  subst hw
  refine lv_if_eq (tgt := 17) hx hb dX1_dropTeller_5 (by decide) (fun c5 => ?_) (fun c5 => ?_)
  · have hj := b2i_0 c5
    exact hret ((te, ke)) (by unfold dropT; rw [hj]; rfl) hP hD hS dX1_dropTeller_17
  · have hj := b2i_n c5
    have hi := isR_of (by omega) hj
    refine lv_aload_n hx hb dX1_dropTeller_8 rfl (lv_at hl 0 rfl) ?_
    refine va_get (D := (dC, dI)) (ci := 1) (v := .ref r4) (C := RX1) (T := TX1) (N := 8) hx hb hts iX1 hown hK hP 0 rfl rfl 3 (by decide) l21 (fun _ h9 => h9) rfl dX1_dropTeller_9 ?_
    refine lv_iload_n hx hb dX1_dropTeller_12 rfl (lv_at hl 1 rfl) ?_
    refine mv_iald hx hb hK hP 4 0 rfl rfl (k := rj x) (hi.2) (by omega) (by decide) (v := te (rj x)) rfl dX1_dropTeller_13 ?_
    refine lv_if_ne (tgt := 18) hx hb dX1_dropTeller_14 (by decide) (fun c14 => ?_) (fun c14 => ?_)
    · refine lv_aload_n hx hb dX1_dropTeller_18 rfl (lv_at hl 0 rfl) ?_
      refine va_get (D := (dC, dI)) (ci := 1) (v := .ref r4) (C := RX1) (T := TX1) (N := 8) hx hb hts iX1 hown hK hP 0 rfl rfl 3 (by decide) l21 (fun _ h9 => h9) rfl dX1_dropTeller_19 ?_
      refine lv_iload_n hx hb dX1_dropTeller_22 rfl (lv_at hl 1 rfl) ?_
      refine lv_dup2_11 hx hb dX1_dropTeller_23 rfl rfl ?_
      refine mv_iald hx hb hK hP 4 0 rfl rfl (k := rj x) (hi.2) (by omega) (by decide) (v := te (rj x)) rfl dX1_dropTeller_24 ?_
      refine lv_iconst (v := 1) hx hb dX1_dropTeller_25 (by decide) ?_
      refine lv_isub hx hb dX1_dropTeller_26 ?_
      refine mv_iast hx hb hK hP hD hS 4 0 rfl rfl (k := rj x) (hi.2) (by omega) (by decide) (f' := upd te (rj x) ((te (rj x)) - 1)) (rfl) dX1_dropTeller_27 (fun H locs hP hD hS => ?_)
      have hP : va_P (dC, dI) vwCl (wR cI r0 r1 r2 r3 r4 nu st le (upd te (rj x) ((te (rj x)) - 1)) ma ds dl ke) _ := hP
      have hD : va_D A (wR cI r0 r1 r2 r3 r4 nu st le (upd te (rj x) ((te (rj x)) - 1)) ma ds dl ke) := hD
      refine lv_aload_n hx hb dX1_dropTeller_28 rfl (lv_at hl 0 rfl) ?_
      refine va_get (D := (dC, dI)) (ci := 1) (v := .ref r4) (C := RX1) (T := TX1) (N := 8) hx hb hts iX1 hown hK hP 0 rfl rfl 3 (by decide) l21 (fun _ h9 => h9) rfl dX1_dropTeller_29 ?_
      refine lv_iload_n hx hb dX1_dropTeller_32 rfl (lv_at hl 1 rfl) ?_
      refine mv_iald hx hb hK hP 4 0 rfl rfl (k := rj x) (hi.2) (by omega) (by decide) (v := (upd te (rj x) ((te (rj x)) - 1)) (rj x)) rfl dX1_dropTeller_33 ?_
      refine lv_if_ne (tgt := 52) hx hb dX1_dropTeller_34 (by decide) (fun c34 => ?_) (fun c34 => ?_)
      · have h34 : ¬ te (rj x) - 1 = 0 := by rw [pk_us] at c34; exact c34
        exact hret ((upd te (rj x) ((te (rj x)) - 1), ke)) (by unfold dropT; rw [hj]; simp only [if_true, if_neg c14]; rw [if_neg h34]) hP hD hS dX1_dropTeller_52
      · have h34 : te (rj x) - 1 = 0 := by rw [pk_us] at c34; exact c34
        refine lv_aload_n hx hb dX1_dropTeller_37 rfl (lv_at hl 0 rfl) ?_
        refine lv_dup hx hb dX1_dropTeller_38 rfl ?_
        refine va_get (D := (dC, dI)) (ci := 1) (v := .int ke) (C := RX1) (T := TX1) (N := 8) hx hb hts iX1 hown hK hP 0 rfl rfl 7 (by decide) l34 (fun _ h9 => h9) rfl dX1_dropTeller_39 ?_
        refine lv_aload_n hx hb dX1_dropTeller_42 rfl (lv_at hl 0 rfl) ?_
        refine va_get (D := (dC, dI)) (ci := 1) (v := .ref r3) (C := RX1) (T := TX1) (N := 8) hx hb hts iX1 hown hK hP 0 rfl rfl 2 (by decide) l18 (fun _ h9 => h9) rfl dX1_dropTeller_43 ?_
        refine lv_iload_n hx hb dX1_dropTeller_46 rfl (lv_at hl 1 rfl) ?_
        refine mv_iald hx hb hK hP 3 0 rfl rfl (k := rj x) (hi.2) (by omega) (by decide) (v := nI (le (rj x))) rfl dX1_dropTeller_47 ?_
        refine lv_isub hx hb dX1_dropTeller_48 ?_
        refine va_put (D := (dC, dI)) (ci := 1) (v := .int (ke - (nI (le (rj x))))) (ty := .int) (C := RX1) (T := TX1) (N := 8) hx hb hts iX1 tyX1 tyX1_ok nmX1 hown hK hP hD hS 0 rfl rfl 7 (by decide) l34 (fun _ h9 => h9) rfl (by decide +kernel) rfl rfl (Nat.le_of_ble_eq_true rfl) dX1_dropTeller_49 (fun H locs hP hD hS => ?_)
        have hP : va_P (dC, dI) vwCl (wR cI r0 r1 r2 r3 r4 nu st le (upd te (rj x) ((te (rj x)) - 1)) ma ds dl (ke - (nI (le (rj x))))) _ := hP
        have hD : va_D A (wR cI r0 r1 r2 r3 r4 nu st le (upd te (rj x) ((te (rj x)) - 1)) ma ds dl (ke - (nI (le (rj x))))) := hD
        exact hret ((upd te (rj x) ((te (rj x)) - 1), ke - (nI (le (rj x))))) (by unfold dropT; rw [hj]; simp only [if_true, if_neg c14]; rw [if_pos h34]) hP hD hS dX1_dropTeller_52
    · exact hret ((te, ke)) (by unfold dropT; rw [hj]; simp only [if_true, if_pos c14]) hP hD hS dX1_dropTeller_17
