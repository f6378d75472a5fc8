def kp (x : Int32) (lst : Nat) (o g : Nat) : Bool := (decide (¬ x < 0) && decide (¬ nI o = x)) || decide (g < lst)
def encO : Option Nat → Int32
  | none => -1
  | some k => nI k
theorem lastF_lt {ofs : Nat → Nat} {w : Nat} : ∀ {n k : Nat}, lastF ofs w n = some k → k < n ∧ ofs k = w := by
  intro n
  induction n with
  | zero => intro k h; cases h
  | succ n ih =>
    intro k h
    unfold lastF at h
    by_cases e : ofs n = w
    · rw [if_pos e] at h
      cases h
      exact ⟨by omega, e⟩
    · rw [if_neg e] at h
      exact ⟨by have := (ih h).1; omega, (ih h).2⟩
theorem encO_ge {x : Option Nat} (h : 0 ≤ encO x) : ∃ k, x = some k := by
  cases x with
  | none => exact absurd h (by decide)
  | some k => exact ⟨k, rfl⟩
theorem encO_lt {ofs : Nat → Nat} {w n : Nat} (hn : n < 2 ^ 31) (h : ¬ 0 ≤ encO (lastF ofs w n)) : lastF ofs w n = none := by
  cases hL : lastF ofs w n with
  | none => rfl
  | some k =>
    rw [hL] at h
    exact absurd (nI_pos' (by have := (lastF_lt hL).1; omega)) h
theorem dropF_le {keep : Nat → Nat → Bool} : ∀ {n k j : Nat} {ofs grp : Nat → Nat} {kd vl : Nat → Int32}, (dropF keep n k j ofs grp kd vl).1 ≤ j + n := by
  intro n
  induction n with
  | zero => intro k j ofs grp kd vl; exact Nat.le_refl _
  | succ n ih =>
    intro k j ofs grp kd vl
    unfold dropF
    by_cases e : keep (ofs k) (grp k) = true
    · rw [if_pos e]
      have := ih (k := k + 1) (j := j + 1) (ofs := va_up ofs j (ofs k)) (grp := va_up grp j (grp k)) (kd := upd kd j (kd k)) (vl := upd vl j (vl k))
      omega
    · rw [if_neg e]
      have := ih (k := k + 1) (j := j) (ofs := ofs) (grp := grp) (kd := kd) (vl := vl)
      omega
/-- the reference's assign -/
def asgM (w : Nat) (k v g : Int32) (gr co : Nat) (ofs grp : Nat → Nat) (kd vl : Nat → Int32) : Nat × (Nat → Nat) × (Nat → Nat) × (Nat → Int32) × (Nat → Int32) :=
  ((dropF (kp (nI w) (if g = 0 then gr else 0)) co 0 0 ofs grp kd vl).1 + 1,
   va_up (dropF (kp (nI w) (if g = 0 then gr else 0)) co 0 0 ofs grp kd vl).2.1 (dropF (kp (nI w) (if g = 0 then gr else 0)) co 0 0 ofs grp kd vl).1 w,
   va_up (dropF (kp (nI w) (if g = 0 then gr else 0)) co 0 0 ofs grp kd vl).2.2.1 (dropF (kp (nI w) (if g = 0 then gr else 0)) co 0 0 ofs grp kd vl).1 (if g = 0 then gr else 0),
   upd (dropF (kp (nI w) (if g = 0 then gr else 0)) co 0 0 ofs grp kd vl).2.2.2.1 (dropF (kp (nI w) (if g = 0 then gr else 0)) co 0 0 ofs grp kd vl).1 k,
   upd (dropF (kp (nI w) (if g = 0 then gr else 0)) co 0 0 ofs grp kd vl).2.2.2.2 (dropF (kp (nI w) (if g = 0 then gr else 0)) co 0 0 ofs grp kd vl).1 v)
def tolM (ofs : Nat → Nat) (kd vl : Nat → Int32) (row : Nat) : Nat → Bool
  | 0 => false
  | n + 1 => tolM ofs kd vl row n || (decide (3000 ≤ ofs n) && decide (ofs n < 4000) && decide (kd n = 3) && decide (vl n = nI row))
/-- the sizes of the rows 1 .. m that are told -/
def keptM (ofs : Nat → Nat) (kd vl : Nat → Int32) (fr : Nat → Nat) (co : Nat) : Nat → Int32
  | 0 => 0
  | m + 1 => keptM ofs kd vl fr co m + (if tolM ofs kd vl (m + 1) co then sizeM fr (m + 1) else 0)
set_option maxHeartbeats 4000000 in
set_option maxRecDepth 100000 in
theorem c_X3_isCell (l : Launch) (dC : Nat → ClassId) (dI : Nat → Nat → Nat) (cI : ClassId) (x : Int32)  : mRi l yX3_isCell wsX3_isCell ({ frames := 0, cells := 0, slots := 0, locals := 0 }) (dC, dI) cI [.int x] ([]) (fun r => r = b2i (isR 2366 x)) := by
  refine m_ofR (cc := cX3_isCell) (maxL := 1) (by decide) rfl (Nat.le_of_ble_eq_true rfl) ?_
  intro p e s m args below meth c ls Q hx hb hts hown hml hP hK hl hret
  have hown : s.vm.findClass RX3 = some m.cls := hown
  have hl : lv_has ls 1 [(0, .int x)] := hl
  refine lv_iload_n hx hb dX3_isCell_0 rfl (lv_at hl 0 rfl) ?_
  refine lv_if_lt (tgt := 15) hx hb dX3_isCell_1 (by decide) (fun c1 => ?_) (fun c1 => ?_)
  · refine lv_iconst (v := 0) hx hb dX3_isCell_15 (by decide) ?_
    exact hret 0 (rfl) (by rw [isR_f1 c1]; rfl) dX3_isCell_16
  · refine lv_iload_n hx hb dX3_isCell_4 rfl (lv_at hl 0 rfl) ?_
    refine lv_sipush (v := nI 2366) hx hb dX3_isCell_5 (by decide) ?_
    refine lv_icmp_ge (tgt := 15) hx hb dX3_isCell_8 (by decide) (fun c8 => ?_) (fun c8 => ?_)
    · refine lv_iconst (v := 0) hx hb dX3_isCell_15 (by decide) ?_
      exact hret 0 (rfl) (by rw [isR_f2 c8]; rfl) dX3_isCell_16
    · refine lv_iconst (v := 1) hx hb dX3_isCell_11 (by decide) ?_
      refine lv_goto (tgt := 16) hx hb dX3_isCell_12 (by decide) ?_
      exact hret 1 (rfl) (by rw [isR_t c1 c8]; rfl) dX3_isCell_16
set_option maxHeartbeats 4000000 in
set_option maxRecDepth 100000 in
theorem c_X3_isName (l : Launch) (dC : Nat → ClassId) (dI : Nat → Nat → Nat) (cI : ClassId) (x : Int32)  : mRi l yX3_isName wsX3_isName ({ frames := 0, cells := 0, slots := 0, locals := 0 }) (dC, dI) cI [.int x] ([]) (fun r => r = b2i (isR 1000 x)) := by
  refine m_ofR (cc := cX3_isName) (maxL := 1) (by decide) rfl (Nat.le_of_ble_eq_true rfl) ?_
  intro p e s m args below meth c ls Q hx hb hts hown hml hP hK hl hret
  have hown : s.vm.findClass RX3 = some m.cls := hown
  have hl : lv_has ls 1 [(0, .int x)] := hl
  refine lv_iload_n hx hb dX3_isName_0 rfl (lv_at hl 0 rfl) ?_
  refine lv_if_lt (tgt := 15) hx hb dX3_isName_1 (by decide) (fun c1 => ?_) (fun c1 => ?_)
  · refine lv_iconst (v := 0) hx hb dX3_isName_15 (by decide) ?_
    exact hret 0 (rfl) (by rw [isR_f1 c1]; rfl) dX3_isName_16
  · refine lv_iload_n hx hb dX3_isName_4 rfl (lv_at hl 0 rfl) ?_
    refine lv_sipush (v := nI 1000) hx hb dX3_isName_5 (by decide) ?_
    refine lv_icmp_ge (tgt := 15) hx hb dX3_isName_8 (by decide) (fun c8 => ?_) (fun c8 => ?_)
    · refine lv_iconst (v := 0) hx hb dX3_isName_15 (by decide) ?_
      exact hret 0 (rfl) (by rw [isR_f2 c8]; rfl) dX3_isName_16
    · refine lv_iconst (v := 1) hx hb dX3_isName_11 (by decide) ?_
      refine lv_goto (tgt := 16) hx hb dX3_isName_12 (by decide) ?_
      exact hret 1 (rfl) (by rw [isR_t c1 c8]; rfl) dX3_isName_16
set_option maxHeartbeats 4000000 in
set_option maxRecDepth 100000 in
theorem c_X3_thrown (l : Launch) (dC : Nat → ClassId) (dI : Nat → Nat → Nat) (cI : ClassId) (m0 m1 m2 m3 m4 m5 m6 : Nat) (th : Int32) (gr co : Nat) (ofs grp : Nat → Nat) (kd vl : Nat → Int32) (ro : Nat) (fr : Nat → Nat) (nm : Nat → Int32) (dr : Nat)   : mRi l yX3_thrown wsX3_thrown ({ frames := 0, cells := 0, slots := 0, locals := 0 }) (dC, dI) cI [.ref m0] (wM cI m0 m1 m2 m3 m4 m5 m6 th gr co ofs grp kd vl ro fr nm dr) (fun r => r = th) := by
  refine m_ofR (cc := cX3_thrown) (maxL := 1) (by decide) rfl (Nat.le_of_ble_eq_true rfl) ?_
  intro p e s m args below meth c ls Q hx hb hts hown hml hP hK hl hret
  have hown : s.vm.findClass RX3 = some m.cls := hown
  have hl : lv_has ls 1 [(0, .ref m0)] := hl
  have l32 := hts (.fieldLink RX3 32 "GroupDeskModel" "thrown" "I") (by decide +kernel)
  have iX3 : ∀ w ∈ u_ws RX3 TX3 11, w ∈ wsX3_thrown := by decide +kernel
  refine lv_aload_n hx hb dX3_thrown_0 rfl (lv_at hl 0 rfl) ?_
  refine va_get (D := (dC, dI)) (ci := 3) (v := .int th) (C := RX3) (T := TX3) (N := 11) hx hb hts iX3 hown hK hP 0 rfl rfl 0 (by decide) l32 (fun _ h9 => h9) rfl dX3_thrown_1 ?_
  exact hret th (rfl) (rfl) dX3_thrown_4
set_option maxHeartbeats 4000000 in
set_option maxRecDepth 100000 in
theorem c_X3_fails (l : Launch) (dC : Nat → ClassId) (dI : Nat → Nat → Nat) (cI : ClassId) (m0 m1 m2 m3 m4 m5 m6 : Nat) (th : Int32) (gr co : Nat) (ofs grp : Nat → Nat) (kd vl : Nat → Int32) (ro : Nat) (fr : Nat → Nat) (nm : Nat → Int32) (dr : Nat)   : mWi l yX3_fails wsX3_fails ({ frames := 0, cells := 0, slots := 0, locals := 0 }) (dC, dI) cI [.ref m0] (wM cI m0 m1 m2 m3 m4 m5 m6 th gr co ofs grp kd vl ro fr nm dr) (fun r u => r = 0 ∧ u = 1) (fun u : Int32 => wM cI m0 m1 m2 m3 m4 m5 m6 u gr co ofs grp kd vl ro fr nm dr) := by
  refine m_ofWi (cc := cX3_fails) (maxL := 1) (by decide) rfl (Nat.le_of_ble_eq_true rfl) ?_
  intro p e s m args below meth c ls A Q hx hb hts hown hml hP hK hD hA hS hl hret
  have hown : s.vm.findClass RX3 = some m.cls := hown
  have hl : lv_has ls 1 [(0, .ref m0)] := hl
  have l32 := hts (.fieldLink RX3 32 "GroupDeskModel" "thrown" "I") (by decide +kernel)
  have iX3 : ∀ w ∈ u_ws RX3 TX3 11, w ∈ wsX3_fails := by decide +kernel
  refine lv_aload_n hx hb dX3_fails_0 rfl (lv_at hl 0 rfl) ?_
  refine lv_iconst (v := 1) hx hb dX3_fails_1 (by decide) ?_
  refine va_put (D := (dC, dI)) (ci := 3) (v := .int 1) (ty := .int) (C := RX3) (T := TX3) (N := 11) hx hb hts iX3 tyX3 tyX3_ok nmX3 hown hK hP hD hS 0 rfl rfl 0 (by decide) l32 (fun _ h9 => h9) rfl (by decide +kernel) rfl rfl (Nat.le_of_ble_eq_true rfl) dX3_fails_2 (fun H locs hP hD hS => ?_)
  have hP : va_P (dC, dI) vwCl (wM cI m0 m1 m2 m3 m4 m5 m6 1 gr co ofs grp kd vl ro fr nm dr) _ := hP
  have hD : va_D A (wM cI m0 m1 m2 m3 m4 m5 m6 1 gr co ofs grp kd vl ro fr nm dr) := hD
  refine lv_iconst (v := 0) hx hb dX3_fails_5 (by decide) ?_
  exact hret 0 1 (rfl) (⟨rfl, rfl⟩) hP hD hS dX3_fails_6
set_option maxHeartbeats 4000000 in
set_option maxRecDepth 100000 in
theorem c_X3_drop (l : Launch) (dC : Nat → ClassId) (dI : Nat → Nat → Nat) (cI : ClassId) (m0 m1 m2 m3 m4 m5 m6 : Nat) (th : Int32) (gr co : Nat) (ofs grp : Nat → Nat) (kd vl : Nat → Int32) (ro : Nat) (fr : Nat → Nat) (nm : Nat → Int32) (dr : Nat) (x : Int32) (lst : Nat) (hco : co ≤ 4200) (hlst : lst < 2 ^ 31) (hgr : ∀ i, i < co → grp i < 2 ^ 31) : mWv l yX3_drop wsX3_drop ({ frames := 0, cells := 0, slots := 0, locals := 0 }) (dC, dI) cI [.ref m0, .int x, .int (nI lst)] (wM cI m0 m1 m2 m3 m4 m5 m6 th gr co ofs grp kd vl ro fr nm dr) (fun u => dropF (kp x lst) co 0 0 ofs grp kd vl = u) (fun u : Nat × (Nat → Nat) × (Nat → Nat) × (Nat → Int32) × (Nat → Int32) => wM cI m0 m1 m2 m3 m4 m5 m6 th gr u.1 u.2.1 u.2.2.1 u.2.2.2.1 u.2.2.2.2 ro fr nm dr) := by
  refine m_ofWv (cc := cX3_drop) (maxL := 5) (by decide) rfl (Nat.le_of_ble_eq_true rfl) ?_
  intro p e s m args below meth c ls A Q hx hb hts hown hml hP hK hD hA hS hl hret
  have hown : s.vm.findClass RX3 = some m.cls := hown
  have hl : lv_has ls 5 [(0, .ref m0), (1, .int x), (2, .int (nI lst))] := hl
  have l38 := hts (.fieldLink RX3 38 "GroupDeskModel" "count" "I") (by decide +kernel)
  have l7 := hts (.fieldLink RX3 7 "GroupDeskModel" "of" "[I") (by decide +kernel)
  have l13 := hts (.fieldLink RX3 13 "GroupDeskModel" "group" "[I") (by decide +kernel)
  have l16 := hts (.fieldLink RX3 16 "GroupDeskModel" "kind" "[I") (by decide +kernel)
  have l19 := hts (.fieldLink RX3 19 "GroupDeskModel" "value" "[I") (by decide +kernel)
  have iX3 : ∀ w ∈ u_ws RX3 TX3 11, w ∈ wsX3_drop := by decide +kernel
  have loop : ∀ (n k j : Nat) (ofs' grp' : Nat → Nat) (kd' vl' : Nat → Int32) (H : Heap) (locs : List Loc) (ls : Array Slot), n + k = co → j ≤ k → (∀ i, k ≤ i → i < co → grp' i < 2 ^ 31) → dropF (kp x lst) n k j ofs' grp' kd' vl' = dropF (kp x lst) co 0 0 ofs grp kd vl → va_P (dC, dI) vwCl (wM cI m0 m1 m2 m3 m4 m5 m6 th gr co ofs' grp' kd' vl' ro fr nm dr) H → va_D A (wM cI m0 m1 m2 m3 m4 m5 m6 th gr co ofs' grp' kd' vl' ro fr nm dr) → va_S A s.heap H locs → lv_has ls 5 [(0, .ref m0), (1, .int x), (2, .int (nI lst)), (3, .int (nI j)), (4, .int (nI k))] → W p l e ({ frames := 0, cells := 0, slots := 0, locals := 0 }) s m args below meth c H locs 0 0 Q (F0 m 5 ls []) := by
    intro n
    induction n with
    | zero =>
      intro k j ofs' grp' kd' vl' H locs ls hn hle hgr hF hP hD hS hl
      refine lv_iload hx hb dX3_drop_5 (lv_at hl 4 rfl) ?_
      refine lv_aload_n hx hb dX3_drop_7 rfl (lv_at hl 0 rfl) ?_
      refine va_get (D := (dC, dI)) (ci := 3) (v := .int (nI co)) (C := RX3) (T := TX3) (N := 11) hx hb hts iX3 hown hK hP 0 rfl rfl 2 (by decide) l38 (fun _ h9 => h9) rfl dX3_drop_8 ?_
      refine lv_icmp_ge (tgt := 101) hx hb dX3_drop_11 (by decide) (fun c11 => ?_) (fun c11 => ?_)
      · refine lv_aload_n hx hb dX3_drop_101 rfl (lv_at hl 0 rfl) ?_
        refine lv_iload_n hx hb dX3_drop_102 rfl (lv_at hl 3 rfl) ?_
        refine va_put (D := (dC, dI)) (ci := 3) (v := .int (nI j)) (ty := .int) (C := RX3) (T := TX3) (N := 11) hx hb hts iX3 tyX3 tyX3_ok nmX3 hown hK hP hD hS 0 rfl rfl 2 (by decide) l38 (fun _ h9 => h9) rfl (by decide +kernel) rfl rfl (Nat.le_of_ble_eq_true rfl) dX3_drop_103 (fun H locs hP hD hS => ?_)
        have hP : va_P (dC, dI) vwCl (wM cI m0 m1 m2 m3 m4 m5 m6 th gr j ofs' grp' kd' vl' ro fr nm dr) _ := hP
        have hD : va_D A (wM cI m0 m1 m2 m3 m4 m5 m6 th gr j ofs' grp' kd' vl' ro fr nm dr) := hD
        exact hret ((j, ofs', grp', kd', vl')) (by rw [← hF]; rfl) hP hD hS dX3_drop_106
      · exact absurd (nI_le (by omega) (by omega)) c11
    | succ n ih =>
      intro k j ofs' grp' kd' vl' H locs ls hn hle hgr hF hP hD hS hl
      have h4 := hgr k (Nat.le_refl _) (by omega)
      refine lv_iload hx hb dX3_drop_5 (lv_at hl 4 rfl) ?_
      refine lv_aload_n hx hb dX3_drop_7 rfl (lv_at hl 0 rfl) ?_
      refine va_get (D := (dC, dI)) (ci := 3) (v := .int (nI co)) (C := RX3) (T := TX3) (N := 11) hx hb hts iX3 hown hK hP 0 rfl rfl 2 (by decide) l38 (fun _ h9 => h9) rfl dX3_drop_8 ?_
      refine lv_icmp_ge (tgt := 101) hx hb dX3_drop_11 (by decide) (fun c11 => ?_) (fun c11 => ?_)
      · exact absurd c11 (nI_ge (by omega) (by omega))
      · refine lv_iload_n hx hb dX3_drop_14 rfl (lv_at hl 1 rfl) ?_
        refine lv_if_lt (tgt := 29) hx hb dX3_drop_15 (by decide) (fun c15 => ?_) (fun c15 => ?_)
        · refine lv_aload_n hx hb dX3_drop_29 rfl (lv_at hl 0 rfl) ?_
          refine va_get (D := (dC, dI)) (ci := 3) (v := .ref m2) (C := RX3) (T := TX3) (N := 11) hx hb hts iX3 hown hK hP 0 rfl rfl 4 (by decide) l13 (fun _ h9 => h9) rfl dX3_drop_30 ?_
          refine lv_iload hx hb dX3_drop_33 (lv_at hl 4 rfl) ?_
          refine mv_iald hx hb hK hP 2 0 rfl rfl (k := k) (rfl) (by omega) (by decide) (v := nI (grp' k)) rfl dX3_drop_35 ?_
          refine lv_iload_n hx hb dX3_drop_36 rfl (lv_at hl 2 rfl) ?_
          refine lv_icmp_ge (tgt := 95) hx hb dX3_drop_37 (by decide) (fun c37 => ?_) (fun c37 => ?_)
          · refine lv_iinc (v := nI (k + 1)) (lv' := [(4, .int (nI (k + 1))), (0, .ref m0), (1, .int x), (2, .int (nI lst)), (3, .int (nI j))]) hx hb dX3_drop_95 hl (k := 4) rfl (show (nI k) + Int32.ofInt (1) = nI (k + 1) from nI_1 k) (by decide) rfl (fun ls hl => ?_)
            refine lv_goto (tgt := 5) hx hb dX3_drop_98 (by decide) ?_
            exact ih _ _ _ _ _ _ _ _ _ (by omega) (by omega) (fun i h1 h2 => hgr i (by omega) h2) (by rw [← hF, dropF, if_neg (by unfold kp; rw [decide_eq_false (not_not_intro c15), Bool.false_and]; rw [decide_eq_false (fun h => absurd h (Nat.not_lt.mpr ((nI_leI hlst h4).mp c37)))]; decide)]) hP hD hS (lv_sub hl [1, 2, 3, 4, 0] rfl)
          · refine lv_aload_n hx hb dX3_drop_40 rfl (lv_at hl 0 rfl) ?_
            refine va_get (D := (dC, dI)) (ci := 3) (v := .ref m1) (C := RX3) (T := TX3) (N := 11) hx hb hts iX3 hown hK hP 0 rfl rfl 3 (by decide) l7 (fun _ h9 => h9) rfl dX3_drop_41 ?_
            refine lv_iload_n hx hb dX3_drop_44 rfl (lv_at hl 3 rfl) ?_
            refine lv_aload_n hx hb dX3_drop_45 rfl (lv_at hl 0 rfl) ?_
            refine va_get (D := (dC, dI)) (ci := 3) (v := .ref m1) (C := RX3) (T := TX3) (N := 11) hx hb hts iX3 hown hK hP 0 rfl rfl 3 (by decide) l7 (fun _ h9 => h9) rfl dX3_drop_46 ?_
            refine lv_iload hx hb dX3_drop_49 (lv_at hl 4 rfl) ?_
            refine mv_iald hx hb hK hP 1 0 rfl rfl (k := k) (rfl) (by omega) (by decide) (v := nI (ofs' k)) rfl dX3_drop_51 ?_
            refine mv_iast hx hb hK hP hD hS 1 0 rfl rfl (k := j) (rfl) (by omega) (by decide) (f' := nF (va_up ofs' j (ofs' k))) (nF_up _ _ _) dX3_drop_52 (fun H locs hP hD hS => ?_)
            have hP : va_P (dC, dI) vwCl (wM cI m0 m1 m2 m3 m4 m5 m6 th gr co (va_up ofs' j (ofs' k)) grp' kd' vl' ro fr nm dr) _ := hP
            have hD : va_D A (wM cI m0 m1 m2 m3 m4 m5 m6 th gr co (va_up ofs' j (ofs' k)) grp' kd' vl' ro fr nm dr) := hD
            refine lv_aload_n hx hb dX3_drop_53 rfl (lv_at hl 0 rfl) ?_
            refine va_get (D := (dC, dI)) (ci := 3) (v := .ref m2) (C := RX3) (T := TX3) (N := 11) hx hb hts iX3 hown hK hP 0 rfl rfl 4 (by decide) l13 (fun _ h9 => h9) rfl dX3_drop_54 ?_
            refine lv_iload_n hx hb dX3_drop_57 rfl (lv_at hl 3 rfl) ?_
            refine lv_aload_n hx hb dX3_drop_58 rfl (lv_at hl 0 rfl) ?_
            refine va_get (D := (dC, dI)) (ci := 3) (v := .ref m2) (C := RX3) (T := TX3) (N := 11) hx hb hts iX3 hown hK hP 0 rfl rfl 4 (by decide) l13 (fun _ h9 => h9) rfl dX3_drop_59 ?_
            refine lv_iload hx hb dX3_drop_62 (lv_at hl 4 rfl) ?_
            refine mv_iald hx hb hK hP 2 0 rfl rfl (k := k) (rfl) (by omega) (by decide) (v := nI (grp' k)) rfl dX3_drop_64 ?_
            refine mv_iast hx hb hK hP hD hS 2 0 rfl rfl (k := j) (rfl) (by omega) (by decide) (f' := nF (va_up grp' j (grp' k))) (nF_up _ _ _) dX3_drop_65 (fun H locs hP hD hS => ?_)
            have hP : va_P (dC, dI) vwCl (wM cI m0 m1 m2 m3 m4 m5 m6 th gr co (va_up ofs' j (ofs' k)) (va_up grp' j (grp' k)) kd' vl' ro fr nm dr) _ := hP
            have hD : va_D A (wM cI m0 m1 m2 m3 m4 m5 m6 th gr co (va_up ofs' j (ofs' k)) (va_up grp' j (grp' k)) kd' vl' ro fr nm dr) := hD
            refine lv_aload_n hx hb dX3_drop_66 rfl (lv_at hl 0 rfl) ?_
            refine va_get (D := (dC, dI)) (ci := 3) (v := .ref m3) (C := RX3) (T := TX3) (N := 11) hx hb hts iX3 hown hK hP 0 rfl rfl 5 (by decide) l16 (fun _ h9 => h9) rfl dX3_drop_67 ?_
            refine lv_iload_n hx hb dX3_drop_70 rfl (lv_at hl 3 rfl) ?_
            refine lv_aload_n hx hb dX3_drop_71 rfl (lv_at hl 0 rfl) ?_
            refine va_get (D := (dC, dI)) (ci := 3) (v := .ref m3) (C := RX3) (T := TX3) (N := 11) hx hb hts iX3 hown hK hP 0 rfl rfl 5 (by decide) l16 (fun _ h9 => h9) rfl dX3_drop_72 ?_
            refine lv_iload hx hb dX3_drop_75 (lv_at hl 4 rfl) ?_
            refine mv_iald hx hb hK hP 3 0 rfl rfl (k := k) (rfl) (by omega) (by decide) (v := kd' k) rfl dX3_drop_77 ?_
            refine mv_iast hx hb hK hP hD hS 3 0 rfl rfl (k := j) (rfl) (by omega) (by decide) (f' := upd kd' j (kd' k)) (rfl) dX3_drop_78 (fun H locs hP hD hS => ?_)
            have hP : va_P (dC, dI) vwCl (wM cI m0 m1 m2 m3 m4 m5 m6 th gr co (va_up ofs' j (ofs' k)) (va_up grp' j (grp' k)) (upd kd' j (kd' k)) vl' ro fr nm dr) _ := hP
            have hD : va_D A (wM cI m0 m1 m2 m3 m4 m5 m6 th gr co (va_up ofs' j (ofs' k)) (va_up grp' j (grp' k)) (upd kd' j (kd' k)) vl' ro fr nm dr) := hD
            refine lv_aload_n hx hb dX3_drop_79 rfl (lv_at hl 0 rfl) ?_
            refine va_get (D := (dC, dI)) (ci := 3) (v := .ref m4) (C := RX3) (T := TX3) (N := 11) hx hb hts iX3 hown hK hP 0 rfl rfl 6 (by decide) l19 (fun _ h9 => h9) rfl dX3_drop_80 ?_
            refine lv_iload_n hx hb dX3_drop_83 rfl (lv_at hl 3 rfl) ?_
            refine lv_aload_n hx hb dX3_drop_84 rfl (lv_at hl 0 rfl) ?_
            refine va_get (D := (dC, dI)) (ci := 3) (v := .ref m4) (C := RX3) (T := TX3) (N := 11) hx hb hts iX3 hown hK hP 0 rfl rfl 6 (by decide) l19 (fun _ h9 => h9) rfl dX3_drop_85 ?_
            refine lv_iload hx hb dX3_drop_88 (lv_at hl 4 rfl) ?_
            refine mv_iald hx hb hK hP 4 0 rfl rfl (k := k) (rfl) (by omega) (by decide) (v := vl' k) rfl dX3_drop_90 ?_
            refine mv_iast hx hb hK hP hD hS 4 0 rfl rfl (k := j) (rfl) (by omega) (by decide) (f' := upd vl' j (vl' k)) (rfl) dX3_drop_91 (fun H locs hP hD hS => ?_)
            have hP : va_P (dC, dI) vwCl (wM cI m0 m1 m2 m3 m4 m5 m6 th gr co (va_up ofs' j (ofs' k)) (va_up grp' j (grp' k)) (upd kd' j (kd' k)) (upd vl' j (vl' k)) ro fr nm dr) _ := hP
            have hD : va_D A (wM cI m0 m1 m2 m3 m4 m5 m6 th gr co (va_up ofs' j (ofs' k)) (va_up grp' j (grp' k)) (upd kd' j (kd' k)) (upd vl' j (vl' k)) ro fr nm dr) := hD
            refine lv_iinc (v := nI (j + 1)) (lv' := [(3, .int (nI (j + 1))), (0, .ref m0), (1, .int x), (2, .int (nI lst)), (4, .int (nI k))]) hx hb dX3_drop_92 hl (k := 3) rfl (show (nI j) + Int32.ofInt (1) = nI (j + 1) from nI_1 j) (by decide) rfl (fun ls hl => ?_)
            refine lv_iinc (v := nI (k + 1)) (lv' := [(4, .int (nI (k + 1))), (3, .int (nI (j + 1))), (0, .ref m0), (1, .int x), (2, .int (nI lst))]) hx hb dX3_drop_95 hl (k := 4) rfl (show (nI k) + Int32.ofInt (1) = nI (k + 1) from nI_1 k) (by decide) rfl (fun ls hl => ?_)
            refine lv_goto (tgt := 5) hx hb dX3_drop_98 (by decide) ?_
            exact ih _ _ _ _ _ _ _ _ _ (by omega) (by omega) (fun i h1 h2 => by rw [va_up_ne _ _ (by omega)]; exact hgr i (by omega) h2) (by rw [← hF, dropF, if_pos (by unfold kp; rw [decide_eq_true (Nat.lt_of_not_le fun h => c37 ((nI_leI hlst h4).mpr h)), Bool.or_true])]) hP hD hS (lv_sub hl [2, 3, 4, 1, 0] rfl)
        · refine lv_aload_n hx hb dX3_drop_18 rfl (lv_at hl 0 rfl) ?_
          refine va_get (D := (dC, dI)) (ci := 3) (v := .ref m1) (C := RX3) (T := TX3) (N := 11) hx hb hts iX3 hown hK hP 0 rfl rfl 3 (by decide) l7 (fun _ h9 => h9) rfl dX3_drop_19 ?_
          refine lv_iload hx hb dX3_drop_22 (lv_at hl 4 rfl) ?_
          refine mv_iald hx hb hK hP 1 0 rfl rfl (k := k) (rfl) (by omega) (by decide) (v := nI (ofs' k)) rfl dX3_drop_24 ?_
          refine lv_iload_n hx hb dX3_drop_25 rfl (lv_at hl 1 rfl) ?_
          refine lv_icmp_ne (tgt := 40) hx hb dX3_drop_26 (by decide) (fun c26 => ?_) (fun c26 => ?_)
          · refine lv_aload_n hx hb dX3_drop_40 rfl (lv_at hl 0 rfl) ?_
            refine va_get (D := (dC, dI)) (ci := 3) (v := .ref m1) (C := RX3) (T := TX3) (N := 11) hx hb hts iX3 hown hK hP 0 rfl rfl 3 (by decide) l7 (fun _ h9 => h9) rfl dX3_drop_41 ?_
            refine lv_iload_n hx hb dX3_drop_44 rfl (lv_at hl 3 rfl) ?_
            refine lv_aload_n hx hb dX3_drop_45 rfl (lv_at hl 0 rfl) ?_
            refine va_get (D := (dC, dI)) (ci := 3) (v := .ref m1) (C := RX3) (T := TX3) (N := 11) hx hb hts iX3 hown hK hP 0 rfl rfl 3 (by decide) l7 (fun _ h9 => h9) rfl dX3_drop_46 ?_
            refine lv_iload hx hb dX3_drop_49 (lv_at hl 4 rfl) ?_
            refine mv_iald hx hb hK hP 1 0 rfl rfl (k := k) (rfl) (by omega) (by decide) (v := nI (ofs' k)) rfl dX3_drop_51 ?_
            refine mv_iast hx hb hK hP hD hS 1 0 rfl rfl (k := j) (rfl) (by omega) (by decide) (f' := nF (va_up ofs' j (ofs' k))) (nF_up _ _ _) dX3_drop_52 (fun H locs hP hD hS => ?_)
            have hP : va_P (dC, dI) vwCl (wM cI m0 m1 m2 m3 m4 m5 m6 th gr co (va_up ofs' j (ofs' k)) grp' kd' vl' ro fr nm dr) _ := hP
            have hD : va_D A (wM cI m0 m1 m2 m3 m4 m5 m6 th gr co (va_up ofs' j (ofs' k)) grp' kd' vl' ro fr nm dr) := hD
            refine lv_aload_n hx hb dX3_drop_53 rfl (lv_at hl 0 rfl) ?_
            refine va_get (D := (dC, dI)) (ci := 3) (v := .ref m2) (C := RX3) (T := TX3) (N := 11) hx hb hts iX3 hown hK hP 0 rfl rfl 4 (by decide) l13 (fun _ h9 => h9) rfl dX3_drop_54 ?_
            refine lv_iload_n hx hb dX3_drop_57 rfl (lv_at hl 3 rfl) ?_
            refine lv_aload_n hx hb dX3_drop_58 rfl (lv_at hl 0 rfl) ?_
            refine va_get (D := (dC, dI)) (ci := 3) (v := .ref m2) (C := RX3) (T := TX3) (N := 11) hx hb hts iX3 hown hK hP 0 rfl rfl 4 (by decide) l13 (fun _ h9 => h9) rfl dX3_drop_59 ?_
            refine lv_iload hx hb dX3_drop_62 (lv_at hl 4 rfl) ?_
            refine mv_iald hx hb hK hP 2 0 rfl rfl (k := k) (rfl) (by omega) (by decide) (v := nI (grp' k)) rfl dX3_drop_64 ?_
            refine mv_iast hx hb hK hP hD hS 2 0 rfl rfl (k := j) (rfl) (by omega) (by decide) (f' := nF (va_up grp' j (grp' k))) (nF_up _ _ _) dX3_drop_65 (fun H locs hP hD hS => ?_)
            have hP : va_P (dC, dI) vwCl (wM cI m0 m1 m2 m3 m4 m5 m6 th gr co (va_up ofs' j (ofs' k)) (va_up grp' j (grp' k)) kd' vl' ro fr nm dr) _ := hP
            have hD : va_D A (wM cI m0 m1 m2 m3 m4 m5 m6 th gr co (va_up ofs' j (ofs' k)) (va_up grp' j (grp' k)) kd' vl' ro fr nm dr) := hD
            refine lv_aload_n hx hb dX3_drop_66 rfl (lv_at hl 0 rfl) ?_
            refine va_get (D := (dC, dI)) (ci := 3) (v := .ref m3) (C := RX3) (T := TX3) (N := 11) hx hb hts iX3 hown hK hP 0 rfl rfl 5 (by decide) l16 (fun _ h9 => h9) rfl dX3_drop_67 ?_
            refine lv_iload_n hx hb dX3_drop_70 rfl (lv_at hl 3 rfl) ?_
            refine lv_aload_n hx hb dX3_drop_71 rfl (lv_at hl 0 rfl) ?_
            refine va_get (D := (dC, dI)) (ci := 3) (v := .ref m3) (C := RX3) (T := TX3) (N := 11) hx hb hts iX3 hown hK hP 0 rfl rfl 5 (by decide) l16 (fun _ h9 => h9) rfl dX3_drop_72 ?_
            refine lv_iload hx hb dX3_drop_75 (lv_at hl 4 rfl) ?_
            refine mv_iald hx hb hK hP 3 0 rfl rfl (k := k) (rfl) (by omega) (by decide) (v := kd' k) rfl dX3_drop_77 ?_
            refine mv_iast hx hb hK hP hD hS 3 0 rfl rfl (k := j) (rfl) (by omega) (by decide) (f' := upd kd' j (kd' k)) (rfl) dX3_drop_78 (fun H locs hP hD hS => ?_)
            have hP : va_P (dC, dI) vwCl (wM cI m0 m1 m2 m3 m4 m5 m6 th gr co (va_up ofs' j (ofs' k)) (va_up grp' j (grp' k)) (upd kd' j (kd' k)) vl' ro fr nm dr) _ := hP
            have hD : va_D A (wM cI m0 m1 m2 m3 m4 m5 m6 th gr co (va_up ofs' j (ofs' k)) (va_up grp' j (grp' k)) (upd kd' j (kd' k)) vl' ro fr nm dr) := hD
            refine lv_aload_n hx hb dX3_drop_79 rfl (lv_at hl 0 rfl) ?_
            refine va_get (D := (dC, dI)) (ci := 3) (v := .ref m4) (C := RX3) (T := TX3) (N := 11) hx hb hts iX3 hown hK hP 0 rfl rfl 6 (by decide) l19 (fun _ h9 => h9) rfl dX3_drop_80 ?_
            refine lv_iload_n hx hb dX3_drop_83 rfl (lv_at hl 3 rfl) ?_
            refine lv_aload_n hx hb dX3_drop_84 rfl (lv_at hl 0 rfl) ?_
            refine va_get (D := (dC, dI)) (ci := 3) (v := .ref m4) (C := RX3) (T := TX3) (N := 11) hx hb hts iX3 hown hK hP 0 rfl rfl 6 (by decide) l19 (fun _ h9 => h9) rfl dX3_drop_85 ?_
            refine lv_iload hx hb dX3_drop_88 (lv_at hl 4 rfl) ?_
            refine mv_iald hx hb hK hP 4 0 rfl rfl (k := k) (rfl) (by omega) (by decide) (v := vl' k) rfl dX3_drop_90 ?_
            refine mv_iast hx hb hK hP hD hS 4 0 rfl rfl (k := j) (rfl) (by omega) (by decide) (f' := upd vl' j (vl' k)) (rfl) dX3_drop_91 (fun H locs hP hD hS => ?_)
            have hP : va_P (dC, dI) vwCl (wM cI m0 m1 m2 m3 m4 m5 m6 th gr co (va_up ofs' j (ofs' k)) (va_up grp' j (grp' k)) (upd kd' j (kd' k)) (upd vl' j (vl' k)) ro fr nm dr) _ := hP
            have hD : va_D A (wM cI m0 m1 m2 m3 m4 m5 m6 th gr co (va_up ofs' j (ofs' k)) (va_up grp' j (grp' k)) (upd kd' j (kd' k)) (upd vl' j (vl' k)) ro fr nm dr) := hD
            refine lv_iinc (v := nI (j + 1)) (lv' := [(3, .int (nI (j + 1))), (0, .ref m0), (1, .int x), (2, .int (nI lst)), (4, .int (nI k))]) hx hb dX3_drop_92 hl (k := 3) rfl (show (nI j) + Int32.ofInt (1) = nI (j + 1) from nI_1 j) (by decide) rfl (fun ls hl => ?_)
            refine lv_iinc (v := nI (k + 1)) (lv' := [(4, .int (nI (k + 1))), (3, .int (nI (j + 1))), (0, .ref m0), (1, .int x), (2, .int (nI lst))]) hx hb dX3_drop_95 hl (k := 4) rfl (show (nI k) + Int32.ofInt (1) = nI (k + 1) from nI_1 k) (by decide) rfl (fun ls hl => ?_)
            refine lv_goto (tgt := 5) hx hb dX3_drop_98 (by decide) ?_
            exact ih _ _ _ _ _ _ _ _ _ (by omega) (by omega) (fun i h1 h2 => by rw [va_up_ne _ _ (by omega)]; exact hgr i (by omega) h2) (by rw [← hF, dropF, if_pos (by unfold kp; rw [decide_eq_true c15, decide_eq_true c26]; rfl)]) hP hD hS (lv_sub hl [2, 3, 4, 1, 0] rfl)
          · refine lv_aload_n hx hb dX3_drop_29 rfl (lv_at hl 0 rfl) ?_
            refine va_get (D := (dC, dI)) (ci := 3) (v := .ref m2) (C := RX3) (T := TX3) (N := 11) hx hb hts iX3 hown hK hP 0 rfl rfl 4 (by decide) l13 (fun _ h9 => h9) rfl dX3_drop_30 ?_
            refine lv_iload hx hb dX3_drop_33 (lv_at hl 4 rfl) ?_
            refine mv_iald hx hb hK hP 2 0 rfl rfl (k := k) (rfl) (by omega) (by decide) (v := nI (grp' k)) rfl dX3_drop_35 ?_
            refine lv_iload_n hx hb dX3_drop_36 rfl (lv_at hl 2 rfl) ?_
            refine lv_icmp_ge (tgt := 95) hx hb dX3_drop_37 (by decide) (fun c37 => ?_) (fun c37 => ?_)
            · refine lv_iinc (v := nI (k + 1)) (lv' := [(4, .int (nI (k + 1))), (0, .ref m0), (1, .int x), (2, .int (nI lst)), (3, .int (nI j))]) hx hb dX3_drop_95 hl (k := 4) rfl (show (nI k) + Int32.ofInt (1) = nI (k + 1) from nI_1 k) (by decide) rfl (fun ls hl => ?_)
              refine lv_goto (tgt := 5) hx hb dX3_drop_98 (by decide) ?_
              exact ih _ _ _ _ _ _ _ _ _ (by omega) (by omega) (fun i h1 h2 => hgr i (by omega) h2) (by rw [← hF, dropF, if_neg (by unfold kp; rw [decide_eq_false (not_not_intro c26), Bool.and_false]; rw [decide_eq_false (fun h => absurd h (Nat.not_lt.mpr ((nI_leI hlst h4).mp c37)))]; decide)]) hP hD hS (lv_sub hl [1, 2, 3, 4, 0] rfl)
            · refine lv_aload_n hx hb dX3_drop_40 rfl (lv_at hl 0 rfl) ?_
              refine va_get (D := (dC, dI)) (ci := 3) (v := .ref m1) (C := RX3) (T := TX3) (N := 11) hx hb hts iX3 hown hK hP 0 rfl rfl 3 (by decide) l7 (fun _ h9 => h9) rfl dX3_drop_41 ?_
              refine lv_iload_n hx hb dX3_drop_44 rfl (lv_at hl 3 rfl) ?_
              refine lv_aload_n hx hb dX3_drop_45 rfl (lv_at hl 0 rfl) ?_
              refine va_get (D := (dC, dI)) (ci := 3) (v := .ref m1) (C := RX3) (T := TX3) (N := 11) hx hb hts iX3 hown hK hP 0 rfl rfl 3 (by decide) l7 (fun _ h9 => h9) rfl dX3_drop_46 ?_
              refine lv_iload hx hb dX3_drop_49 (lv_at hl 4 rfl) ?_
              refine mv_iald hx hb hK hP 1 0 rfl rfl (k := k) (rfl) (by omega) (by decide) (v := nI (ofs' k)) rfl dX3_drop_51 ?_
              refine mv_iast hx hb hK hP hD hS 1 0 rfl rfl (k := j) (rfl) (by omega) (by decide) (f' := nF (va_up ofs' j (ofs' k))) (nF_up _ _ _) dX3_drop_52 (fun H locs hP hD hS => ?_)
              have hP : va_P (dC, dI) vwCl (wM cI m0 m1 m2 m3 m4 m5 m6 th gr co (va_up ofs' j (ofs' k)) grp' kd' vl' ro fr nm dr) _ := hP
              have hD : va_D A (wM cI m0 m1 m2 m3 m4 m5 m6 th gr co (va_up ofs' j (ofs' k)) grp' kd' vl' ro fr nm dr) := hD
              refine lv_aload_n hx hb dX3_drop_53 rfl (lv_at hl 0 rfl) ?_
              refine va_get (D := (dC, dI)) (ci := 3) (v := .ref m2) (C := RX3) (T := TX3) (N := 11) hx hb hts iX3 hown hK hP 0 rfl rfl 4 (by decide) l13 (fun _ h9 => h9) rfl dX3_drop_54 ?_
              refine lv_iload_n hx hb dX3_drop_57 rfl (lv_at hl 3 rfl) ?_
              refine lv_aload_n hx hb dX3_drop_58 rfl (lv_at hl 0 rfl) ?_
              refine va_get (D := (dC, dI)) (ci := 3) (v := .ref m2) (C := RX3) (T := TX3) (N := 11) hx hb hts iX3 hown hK hP 0 rfl rfl 4 (by decide) l13 (fun _ h9 => h9) rfl dX3_drop_59 ?_
              refine lv_iload hx hb dX3_drop_62 (lv_at hl 4 rfl) ?_
              refine mv_iald hx hb hK hP 2 0 rfl rfl (k := k) (rfl) (by omega) (by decide) (v := nI (grp' k)) rfl dX3_drop_64 ?_
              refine mv_iast hx hb hK hP hD hS 2 0 rfl rfl (k := j) (rfl) (by omega) (by decide) (f' := nF (va_up grp' j (grp' k))) (nF_up _ _ _) dX3_drop_65 (fun H locs hP hD hS => ?_)
              have hP : va_P (dC, dI) vwCl (wM cI m0 m1 m2 m3 m4 m5 m6 th gr co (va_up ofs' j (ofs' k)) (va_up grp' j (grp' k)) kd' vl' ro fr nm dr) _ := hP
              have hD : va_D A (wM cI m0 m1 m2 m3 m4 m5 m6 th gr co (va_up ofs' j (ofs' k)) (va_up grp' j (grp' k)) kd' vl' ro fr nm dr) := hD
              refine lv_aload_n hx hb dX3_drop_66 rfl (lv_at hl 0 rfl) ?_
              refine va_get (D := (dC, dI)) (ci := 3) (v := .ref m3) (C := RX3) (T := TX3) (N := 11) hx hb hts iX3 hown hK hP 0 rfl rfl 5 (by decide) l16 (fun _ h9 => h9) rfl dX3_drop_67 ?_
              refine lv_iload_n hx hb dX3_drop_70 rfl (lv_at hl 3 rfl) ?_
              refine lv_aload_n hx hb dX3_drop_71 rfl (lv_at hl 0 rfl) ?_
              refine va_get (D := (dC, dI)) (ci := 3) (v := .ref m3) (C := RX3) (T := TX3) (N := 11) hx hb hts iX3 hown hK hP 0 rfl rfl 5 (by decide) l16 (fun _ h9 => h9) rfl dX3_drop_72 ?_
              refine lv_iload hx hb dX3_drop_75 (lv_at hl 4 rfl) ?_
              refine mv_iald hx hb hK hP 3 0 rfl rfl (k := k) (rfl) (by omega) (by decide) (v := kd' k) rfl dX3_drop_77 ?_
              refine mv_iast hx hb hK hP hD hS 3 0 rfl rfl (k := j) (rfl) (by omega) (by decide) (f' := upd kd' j (kd' k)) (rfl) dX3_drop_78 (fun H locs hP hD hS => ?_)
              have hP : va_P (dC, dI) vwCl (wM cI m0 m1 m2 m3 m4 m5 m6 th gr co (va_up ofs' j (ofs' k)) (va_up grp' j (grp' k)) (upd kd' j (kd' k)) vl' ro fr nm dr) _ := hP
              have hD : va_D A (wM cI m0 m1 m2 m3 m4 m5 m6 th gr co (va_up ofs' j (ofs' k)) (va_up grp' j (grp' k)) (upd kd' j (kd' k)) vl' ro fr nm dr) := hD
              refine lv_aload_n hx hb dX3_drop_79 rfl (lv_at hl 0 rfl) ?_
              refine va_get (D := (dC, dI)) (ci := 3) (v := .ref m4) (C := RX3) (T := TX3) (N := 11) hx hb hts iX3 hown hK hP 0 rfl rfl 6 (by decide) l19 (fun _ h9 => h9) rfl dX3_drop_80 ?_
              refine lv_iload_n hx hb dX3_drop_83 rfl (lv_at hl 3 rfl) ?_
              refine lv_aload_n hx hb dX3_drop_84 rfl (lv_at hl 0 rfl) ?_
              refine va_get (D := (dC, dI)) (ci := 3) (v := .ref m4) (C := RX3) (T := TX3) (N := 11) hx hb hts iX3 hown hK hP 0 rfl rfl 6 (by decide) l19 (fun _ h9 => h9) rfl dX3_drop_85 ?_
              refine lv_iload hx hb dX3_drop_88 (lv_at hl 4 rfl) ?_
              refine mv_iald hx hb hK hP 4 0 rfl rfl (k := k) (rfl) (by omega) (by decide) (v := vl' k) rfl dX3_drop_90 ?_
              refine mv_iast hx hb hK hP hD hS 4 0 rfl rfl (k := j) (rfl) (by omega) (by decide) (f' := upd vl' j (vl' k)) (rfl) dX3_drop_91 (fun H locs hP hD hS => ?_)
              have hP : va_P (dC, dI) vwCl (wM cI m0 m1 m2 m3 m4 m5 m6 th gr co (va_up ofs' j (ofs' k)) (va_up grp' j (grp' k)) (upd kd' j (kd' k)) (upd vl' j (vl' k)) ro fr nm dr) _ := hP
              have hD : va_D A (wM cI m0 m1 m2 m3 m4 m5 m6 th gr co (va_up ofs' j (ofs' k)) (va_up grp' j (grp' k)) (upd kd' j (kd' k)) (upd vl' j (vl' k)) ro fr nm dr) := hD
              refine lv_iinc (v := nI (j + 1)) (lv' := [(3, .int (nI (j + 1))), (0, .ref m0), (1, .int x), (2, .int (nI lst)), (4, .int (nI k))]) hx hb dX3_drop_92 hl (k := 3) rfl (show (nI j) + Int32.ofInt (1) = nI (j + 1) from nI_1 j) (by decide) rfl (fun ls hl => ?_)
              refine lv_iinc (v := nI (k + 1)) (lv' := [(4, .int (nI (k + 1))), (3, .int (nI (j + 1))), (0, .ref m0), (1, .int x), (2, .int (nI lst))]) hx hb dX3_drop_95 hl (k := 4) rfl (show (nI k) + Int32.ofInt (1) = nI (k + 1) from nI_1 k) (by decide) rfl (fun ls hl => ?_)
              refine lv_goto (tgt := 5) hx hb dX3_drop_98 (by decide) ?_
              exact ih _ _ _ _ _ _ _ _ _ (by omega) (by omega) (fun i h1 h2 => by rw [va_up_ne _ _ (by omega)]; exact hgr i (by omega) h2) (by rw [← hF, dropF, if_pos (by unfold kp; rw [decide_eq_true (Nat.lt_of_not_le fun h => c37 ((nI_leI hlst h4).mpr h)), Bool.or_true])]) hP hD hS (lv_sub hl [2, 3, 4, 1, 0] rfl)
  refine lv_iconst (v := 0) hx hb dX3_drop_0 (by decide) ?_
  refine lv_istore_n (lv' := [(3, .int 0), (0, .ref m0), (1, .int x), (2, .int (nI lst))]) hx hb dX3_drop_1 rfl hl (by decide) rfl (fun ls hl => ?_)
  refine lv_iconst (v := 0) hx hb dX3_drop_2 (by decide) ?_
  refine lv_istore (lv' := [(4, .int 0), (3, .int 0), (0, .ref m0), (1, .int x), (2, .int (nI lst))]) hx hb dX3_drop_3 hl (by decide) rfl (fun ls hl => ?_)
  exact loop co 0 0 ofs grp kd vl _ _ _ rfl (Nat.le_refl _) (fun i _ h => hgr i h) rfl hP hD hS (lv_sub hl [2, 3, 4, 1, 0] rfl)
set_option maxHeartbeats 4000000 in
set_option maxRecDepth 100000 in
theorem c_X3_last (l : Launch) (dC : Nat → ClassId) (dI : Nat → Nat → Nat) (cI : ClassId) (m0 m1 m2 m3 m4 m5 m6 : Nat) (th : Int32) (gr co : Nat) (ofs grp : Nat → Nat) (kd vl : Nat → Int32) (ro : Nat) (fr : Nat → Nat) (nm : Nat → Int32) (dr : Nat) (w : Nat) (hco : co ≤ 4200) (hw : w < 2 ^ 31) (hof : ∀ i, i < co → ofs i < 2 ^ 31) : mRi l yX3_last wsX3_last ({ frames := 0, cells := 0, slots := 0, locals := 0 }) (dC, dI) cI [.ref m0, .int (nI w)] (wM cI m0 m1 m2 m3 m4 m5 m6 th gr co ofs grp kd vl ro fr nm dr) (fun r => r = encO (lastF ofs w co)) := by
  refine m_ofR (cc := cX3_last) (maxL := 4) (by decide) rfl (Nat.le_of_ble_eq_true rfl) ?_
  intro p e s m args below meth c ls Q hx hb hts hown hml hP hK hl hret
  have hown : s.vm.findClass RX3 = some m.cls := hown
  have hl : lv_has ls 4 [(0, .ref m0), (1, .int (nI w))] := hl
  have l38 := hts (.fieldLink RX3 38 "GroupDeskModel" "count" "I") (by decide +kernel)
  have l7 := hts (.fieldLink RX3 7 "GroupDeskModel" "of" "[I") (by decide +kernel)
  have iX3 : ∀ w ∈ u_ws RX3 TX3 11, w ∈ wsX3_last := by decide +kernel
  have loop : ∀ (n k : Nat) (ls : Array Slot), n + k = co → lv_has ls 4 [(0, .ref m0), (1, .int (nI w)), (2, .int (encO (lastF ofs w k))), (3, .int (nI k))] → W p l e ({ frames := 0, cells := 0, slots := 0, locals := 0 }) s m args below meth c s.heap [] 0 0 Q (F0 m 4 ls []) := by
    intro n
    induction n with
    | zero =>
      intro k ls hn hl
      refine lv_iload_n hx hb dX3_last_4 rfl (lv_at hl 3 rfl) ?_
      refine lv_aload_n hx hb dX3_last_5 rfl (lv_at hl 0 rfl) ?_
      refine va_get (D := (dC, dI)) (ci := 3) (v := .int (nI co)) (C := RX3) (T := TX3) (N := 11) hx hb hts iX3 hown hK hP 0 rfl rfl 2 (by decide) l38 (fun _ h9 => h9) rfl dX3_last_6 ?_
      refine lv_icmp_ge (tgt := 34) hx hb dX3_last_9 (by decide) (fun c9 => ?_) (fun c9 => ?_)
      · refine lv_iload_n hx hb dX3_last_34 rfl (lv_at hl 2 rfl) ?_
        exact hret (encO (lastF ofs w k)) (rfl) (by rw [show k = co by omega]) dX3_last_35
      · exact absurd (nI_le (by omega) (by omega)) c9
    | succ n ih =>
      intro k ls hn hl
      have h4 := hof k (by omega)
      refine lv_iload_n hx hb dX3_last_4 rfl (lv_at hl 3 rfl) ?_
      refine lv_aload_n hx hb dX3_last_5 rfl (lv_at hl 0 rfl) ?_
      refine va_get (D := (dC, dI)) (ci := 3) (v := .int (nI co)) (C := RX3) (T := TX3) (N := 11) hx hb hts iX3 hown hK hP 0 rfl rfl 2 (by decide) l38 (fun _ h9 => h9) rfl dX3_last_6 ?_
      refine lv_icmp_ge (tgt := 34) hx hb dX3_last_9 (by decide) (fun c9 => ?_) (fun c9 => ?_)
      · exact absurd c9 (nI_ge (by omega) (by omega))
      · refine lv_aload_n hx hb dX3_last_12 rfl (lv_at hl 0 rfl) ?_
        refine va_get (D := (dC, dI)) (ci := 3) (v := .ref m1) (C := RX3) (T := TX3) (N := 11) hx hb hts iX3 hown hK hP 0 rfl rfl 3 (by decide) l7 (fun _ h9 => h9) rfl dX3_last_13 ?_
        refine lv_iload_n hx hb dX3_last_16 rfl (lv_at hl 3 rfl) ?_
        refine mv_iald hx hb hK hP 1 0 rfl rfl (k := k) (rfl) (by omega) (by decide) (v := nI (ofs k)) rfl dX3_last_17 ?_
        refine lv_iload_n hx hb dX3_last_18 rfl (lv_at hl 1 rfl) ?_
        refine lv_icmp_ne (tgt := 26) hx hb dX3_last_19 (by decide) (fun c19 => ?_) (fun c19 => ?_)
        · refine lv_iload_n hx hb dX3_last_26 rfl (lv_at hl 2 rfl) ?_
          refine lv_istore_n (lv' := [(2, .int (encO (lastF ofs w k))), (0, .ref m0), (1, .int (nI w)), (3, .int (nI k))]) hx hb dX3_last_27 rfl hl (by decide) rfl (fun ls hl => ?_)
          refine lv_iinc (v := nI (k + 1)) (lv' := [(3, .int (nI (k + 1))), (2, .int (encO (lastF ofs w k))), (0, .ref m0), (1, .int (nI w))]) hx hb dX3_last_28 hl (k := 3) rfl (show (nI k) + Int32.ofInt (1) = nI (k + 1) from nI_1 k) (by decide) rfl (fun ls hl => ?_)
          refine lv_goto (tgt := 4) hx hb dX3_last_31 (by decide) ?_
          have e9 : encO (lastF ofs w k) = encO (lastF ofs w (k + 1)) := by rw [lastF, if_neg (fun h => c19 (by rw [h]))]
          rw [e9] at hl
          exact ih _ ls (by omega) (lv_sub hl [2, 3, 1, 0] rfl)
        · refine lv_iload_n hx hb dX3_last_22 rfl (lv_at hl 3 rfl) ?_
          refine lv_goto (tgt := 27) hx hb dX3_last_23 (by decide) ?_
          refine lv_istore_n (lv' := [(2, .int (nI k)), (0, .ref m0), (1, .int (nI w)), (3, .int (nI k))]) hx hb dX3_last_27 rfl hl (by decide) rfl (fun ls hl => ?_)
          refine lv_iinc (v := nI (k + 1)) (lv' := [(3, .int (nI (k + 1))), (2, .int (nI k)), (0, .ref m0), (1, .int (nI w))]) hx hb dX3_last_28 hl (k := 3) rfl (show (nI k) + Int32.ofInt (1) = nI (k + 1) from nI_1 k) (by decide) rfl (fun ls hl => ?_)
          refine lv_goto (tgt := 4) hx hb dX3_last_31 (by decide) ?_
          have e9 : nI k = encO (lastF ofs w (k + 1)) := by rw [lastF, if_pos ((nI_eq h4 hw).mp c19)]; rfl
          have hl : lv_has ls 4 [(3, .int (nI (k + 1))), (2, .int (nI k)), (0, .ref m0), (1, .int (nI w))] := hl
          have hl := (lv_sub hl [2, 3, 1, 0] rfl)
          have hl : lv_has ls 4 [(0, .ref m0), (1, .int (nI w)), (2, .int (nI k)), (3, .int (nI (k + 1)))] := hl
          rw [e9] at hl
          exact ih _ ls (by omega) hl
  refine lv_iconst (v := (-1)) hx hb dX3_last_0 (by decide) ?_
  refine lv_istore_n (lv' := [(2, .int ((-1))), (0, .ref m0), (1, .int (nI w))]) hx hb dX3_last_1 rfl hl (by decide) rfl (fun ls hl => ?_)
  refine lv_iconst (v := 0) hx hb dX3_last_2 (by decide) ?_
  refine lv_istore_n (lv' := [(3, .int 0), (2, .int ((-1))), (0, .ref m0), (1, .int (nI w))]) hx hb dX3_last_3 rfl hl (by decide) rfl (fun ls hl => ?_)
  exact loop co 0 ls rfl (lv_sub hl [2, 3, 1, 0] rfl)
set_option maxHeartbeats 4000000 in
set_option maxRecDepth 100000 in
theorem c_X3_kindOf (l : Launch) (dC : Nat → ClassId) (dI : Nat → Nat → Nat) (cI : ClassId) (m0 m1 m2 m3 m4 m5 m6 : Nat) (th : Int32) (gr co : Nat) (ofs grp : Nat → Nat) (kd vl : Nat → Int32) (ro : Nat) (fr : Nat → Nat) (nm : Nat → Int32) (dr : Nat) (w : Nat) (hco : co ≤ 4200) (hw : w < 2 ^ 31) (hof : ∀ i, i < co → ofs i < 2 ^ 31) : mRi l yX3_kindOf wsX3_kindOf ({ frames := 1, cells := 0, slots := 0, locals := 23 }) (dC, dI) cI [.ref m0, .int (nI w)] (wM cI m0 m1 m2 m3 m4 m5 m6 th gr co ofs grp kd vl ro fr nm dr) (fun r => r = atM ofs kd w co) := by
  refine m_ofR (cc := cX3_kindOf) (maxL := 3) (by decide) rfl (Nat.le_of_ble_eq_true rfl) ?_
  intro p e s m args below meth c ls Q hx hb hts hown hml hP hK hl hret
  have hown : s.vm.findClass RX3 = some m.cls := hown
  have hl : lv_has ls 3 [(0, .ref m0), (1, .int (nI w))] := hl
  have l16 := hts (.fieldLink RX3 16 "GroupDeskModel" "kind" "[I") (by decide +kernel)
  have iX3 : ∀ w ∈ u_ws RX3 TX3 11, w ∈ wsX3_kindOf := by decide +kernel
  refine lv_aload_n hx hb dX3_kindOf_0 rfl (lv_at hl 0 rfl) ?_
  refine lv_iload_n hx hb dX3_kindOf_1 rfl (lv_at hl 1 rfl) ?_
  refine m_rV (As := [.int (nI w)]) (rest := []) ⟨hx, hb, hml, hown, hts⟩ (c_X3_last l dC dI cI m0 m1 m2 m3 m4 m5 m6 th gr co ofs grp kd vl ro fr nm dr w hco hw hof) (cwV 1 hts gX3_kindOf_X3_last rfl rfl rfl (by decide +kernel) ⟨Nat.le_of_ble_eq_true rfl, Nat.le_of_ble_eq_true rfl⟩) hP hK 3 0 rfl rfl rfl hl.1 rfl (Nat.le_of_ble_eq_true rfl) dX3_kindOf_2 ⟨Nat.zero_le _, Nat.zero_le _⟩ (fun r hw => ?_)
  subst hw
  refine lv_istore_n (lv' := [(2, .int (encO (lastF ofs w co))), (0, .ref m0), (1, .int (nI w))]) hx hb dX3_kindOf_5 rfl hl (by decide) rfl (fun ls hl => ?_)
  refine lv_iload_n hx hb dX3_kindOf_6 rfl (lv_at hl 0 rfl) ?_
  refine lv_if_ge (tgt := 14) hx hb dX3_kindOf_7 (by decide) (fun c7 => ?_) (fun c7 => ?_)
  · obtain ⟨k0, hL⟩ := encO_ge c7
    have h9 := (lastF_lt hL).1
    refine lv_aload_n hx hb dX3_kindOf_14 rfl (lv_at hl 1 rfl) ?_
    refine va_get (D := (dC, dI)) (ci := 3) (v := .ref m3) (C := RX3) (T := TX3) (N := 11) hx hb hts iX3 hown hK hP 0 rfl rfl 5 (by decide) l16 (fun _ h9 => h9) rfl dX3_kindOf_15 ?_
    refine lv_iload_n hx hb dX3_kindOf_18 rfl (lv_at hl 0 rfl) ?_
    refine mv_iald hx hb hK hP 3 0 rfl rfl (k := k0) (by rw [hL]; rfl) (by omega) (by decide) (v := kd k0) rfl dX3_kindOf_19 ?_
    exact hret (kd k0) (rfl) (by unfold atM; rw [hL]) dX3_kindOf_20
  · have hL := encO_lt (by omega) c7
    refine lv_iconst (v := 0) hx hb dX3_kindOf_10 (by decide) ?_
    refine lv_goto (tgt := 20) hx hb dX3_kindOf_11 (by decide) ?_
    exact hret 0 (rfl) (by unfold atM; rw [hL]) dX3_kindOf_20
set_option maxHeartbeats 4000000 in
set_option maxRecDepth 100000 in
theorem c_X3_valueOf (l : Launch) (dC : Nat → ClassId) (dI : Nat → Nat → Nat) (cI : ClassId) (m0 m1 m2 m3 m4 m5 m6 : Nat) (th : Int32) (gr co : Nat) (ofs grp : Nat → Nat) (kd vl : Nat → Int32) (ro : Nat) (fr : Nat → Nat) (nm : Nat → Int32) (dr : Nat) (w : Nat) (hco : co ≤ 4200) (hw : w < 2 ^ 31) (hof : ∀ i, i < co → ofs i < 2 ^ 31) : mRi l yX3_valueOf wsX3_valueOf ({ frames := 1, cells := 0, slots := 0, locals := 23 }) (dC, dI) cI [.ref m0, .int (nI w)] (wM cI m0 m1 m2 m3 m4 m5 m6 th gr co ofs grp kd vl ro fr nm dr) (fun r => r = atM ofs vl w co) := by
  refine m_ofR (cc := cX3_valueOf) (maxL := 3) (by decide) rfl (Nat.le_of_ble_eq_true rfl) ?_
  intro p e s m args below meth c ls Q hx hb hts hown hml hP hK hl hret
  have hown : s.vm.findClass RX3 = some m.cls := hown
  have hl : lv_has ls 3 [(0, .ref m0), (1, .int (nI w))] := hl
  have l19 := hts (.fieldLink RX3 19 "GroupDeskModel" "value" "[I") (by decide +kernel)
  have iX3 : ∀ w ∈ u_ws RX3 TX3 11, w ∈ wsX3_valueOf := by decide +kernel
  refine lv_aload_n hx hb dX3_valueOf_0 rfl (lv_at hl 0 rfl) ?_
  refine lv_iload_n hx hb dX3_valueOf_1 rfl (lv_at hl 1 rfl) ?_
  refine m_rV (As := [.int (nI w)]) (rest := []) ⟨hx, hb, hml, hown, hts⟩ (c_X3_last l dC dI cI m0 m1 m2 m3 m4 m5 m6 th gr co ofs grp kd vl ro fr nm dr w hco hw hof) (cwV 1 hts gX3_valueOf_X3_last rfl rfl rfl (by decide +kernel) ⟨Nat.le_of_ble_eq_true rfl, Nat.le_of_ble_eq_true rfl⟩) hP hK 3 0 rfl rfl rfl hl.1 rfl (Nat.le_of_ble_eq_true rfl) dX3_valueOf_2 ⟨Nat.zero_le _, Nat.zero_le _⟩ (fun r hw => ?_)
  subst hw
  refine lv_istore_n (lv' := [(2, .int (encO (lastF ofs w co))), (0, .ref m0), (1, .int (nI w))]) hx hb dX3_valueOf_5 rfl hl (by decide) rfl (fun ls hl => ?_)
  refine lv_iload_n hx hb dX3_valueOf_6 rfl (lv_at hl 0 rfl) ?_
  refine lv_if_ge (tgt := 14) hx hb dX3_valueOf_7 (by decide) (fun c7 => ?_) (fun c7 => ?_)
  · obtain ⟨k0, hL⟩ := encO_ge c7
    have h9 := (lastF_lt hL).1
    refine lv_aload_n hx hb dX3_valueOf_14 rfl (lv_at hl 1 rfl) ?_
    refine va_get (D := (dC, dI)) (ci := 3) (v := .ref m4) (C := RX3) (T := TX3) (N := 11) hx hb hts iX3 hown hK hP 0 rfl rfl 6 (by decide) l19 (fun _ h9 => h9) rfl dX3_valueOf_15 ?_
    refine lv_iload_n hx hb dX3_valueOf_18 rfl (lv_at hl 0 rfl) ?_
    refine mv_iald hx hb hK hP 4 0 rfl rfl (k := k0) (by rw [hL]; rfl) (by omega) (by decide) (v := vl k0) rfl dX3_valueOf_19 ?_
    exact hret (vl k0) (rfl) (by unfold atM; rw [hL]) dX3_valueOf_20
  · have hL := encO_lt (by omega) c7
    refine lv_iconst (v := 0) hx hb dX3_valueOf_10 (by decide) ?_
    refine lv_goto (tgt := 20) hx hb dX3_valueOf_11 (by decide) ?_
    exact hret 0 (rfl) (by unfold atM; rw [hL]) dX3_valueOf_20
set_option maxHeartbeats 4000000 in
set_option maxRecDepth 100000 in
theorem c_X3_size (l : Launch) (dC : Nat → ClassId) (dI : Nat → Nat → Nat) (cI : ClassId) (m0 m1 m2 m3 m4 m5 m6 : Nat) (th : Int32) (gr co : Nat) (ofs grp : Nat → Nat) (kd vl : Nat → Int32) (ro : Nat) (fr : Nat → Nat) (nm : Nat → Int32) (dr : Nat) (row : Nat) (hr : row + 1 < 4200) : mRi l yX3_size wsX3_size ({ frames := 0, cells := 0, slots := 0, locals := 0 }) (dC, dI) cI [.ref m0, .int (nI row)] (wM cI m0 m1 m2 m3 m4 m5 m6 th gr co ofs grp kd vl ro fr nm dr) (fun r => r = sizeM fr row) := by
  refine m_ofR (cc := cX3_size) (maxL := 2) (by decide) rfl (Nat.le_of_ble_eq_true rfl) ?_
  intro p e s m args below meth c ls Q hx hb hts hown hml hP hK hl hret
  have hown : s.vm.findClass RX3 = some m.cls := hown
  have hl : lv_has ls 2 [(0, .ref m0), (1, .int (nI row))] := hl
  have l26 := hts (.fieldLink RX3 26 "GroupDeskModel" "from" "[I") (by decide +kernel)
  have iX3 : ∀ w ∈ u_ws RX3 TX3 11, w ∈ wsX3_size := by decide +kernel
  refine lv_iload_n hx hb dX3_size_0 rfl (lv_at hl 1 rfl) ?_
  refine lv_if_ne (tgt := 8) hx hb dX3_size_1 (by decide) (fun c1 => ?_) (fun c1 => ?_)
  · refine lv_aload_n hx hb dX3_size_8 rfl (lv_at hl 0 rfl) ?_
    refine va_get (D := (dC, dI)) (ci := 3) (v := .ref m5) (C := RX3) (T := TX3) (N := 11) hx hb hts iX3 hown hK hP 0 rfl rfl 8 (by decide) l26 (fun _ h9 => h9) rfl dX3_size_9 ?_
    refine lv_iload_n hx hb dX3_size_12 rfl (lv_at hl 1 rfl) ?_
    refine lv_iconst (v := 1) hx hb dX3_size_13 (by decide) ?_
    refine lv_iadd hx hb dX3_size_14 ?_
    refine mv_top (v := nI (row + 1)) (nI_1 row) ?_
    refine mv_iald hx hb hK hP 5 0 rfl rfl (k := row + 1) (rfl) (by omega) (by decide) (v := nI (fr (row + 1))) rfl dX3_size_15 ?_
    refine lv_aload_n hx hb dX3_size_16 rfl (lv_at hl 0 rfl) ?_
    refine va_get (D := (dC, dI)) (ci := 3) (v := .ref m5) (C := RX3) (T := TX3) (N := 11) hx hb hts iX3 hown hK hP 0 rfl rfl 8 (by decide) l26 (fun _ h9 => h9) rfl dX3_size_17 ?_
    refine lv_iload_n hx hb dX3_size_20 rfl (lv_at hl 1 rfl) ?_
    refine mv_iald hx hb hK hP 5 0 rfl rfl (k := row) (rfl) (by omega) (by decide) (v := nI (fr row)) rfl dX3_size_21 ?_
    refine lv_isub hx hb dX3_size_22 ?_
    exact hret ((nI (fr (row + 1))) - (nI (fr row))) (rfl) (by unfold sizeM; rw [if_neg (fun h => c1 (by rw [h]; rfl))]) dX3_size_23
  · refine lv_iconst (v := 0) hx hb dX3_size_4 (by decide) ?_
    refine lv_goto (tgt := 23) hx hb dX3_size_5 (by decide) ?_
    exact hret 0 (rfl) (by unfold sizeM; rw [if_pos ((nI_eq (by omega) (by decide)).mp (c1.trans nI_0.symm))]) dX3_size_23
set_option maxHeartbeats 4000000 in
set_option maxRecDepth 100000 in
theorem c_X3_taken (l : Launch) (dC : Nat → ClassId) (dI : Nat → Nat → Nat) (cI : ClassId) (m0 m1 m2 m3 m4 m5 m6 : Nat) (th : Int32) (gr co : Nat) (ofs grp : Nat → Nat) (kd vl : Nat → Int32) (ro : Nat) (fr : Nat → Nat) (nm : Nat → Int32) (dr : Nat)  (hro : ro + 1 < 4200) : mWi l yX3_taken wsX3_taken ({ frames := 0, cells := 0, slots := 0, locals := 0 }) (dC, dI) cI [.ref m0] (wM cI m0 m1 m2 m3 m4 m5 m6 th gr co ofs grp kd vl ro fr nm dr) (fun r u => r = nI ro ∧ u = (ro + 1, va_up fr (ro + 1) (fr ro + dr), 0)) (fun u : Nat × (Nat → Nat) × Nat => wM cI m0 m1 m2 m3 m4 m5 m6 th gr co ofs grp kd vl u.1 u.2.1 nm u.2.2) := by
  refine m_ofWi (cc := cX3_taken) (maxL := 2) (by decide) rfl (Nat.le_of_ble_eq_true rfl) ?_
  intro p e s m args below meth c ls A Q hx hb hts hown hml hP hK hD hA hS hl hret
  have hown : s.vm.findClass RX3 = some m.cls := hown
  have hl : lv_has ls 2 [(0, .ref m0)] := hl
  have l22 := hts (.fieldLink RX3 22 "GroupDeskModel" "rows" "I") (by decide +kernel)
  have l26 := hts (.fieldLink RX3 26 "GroupDeskModel" "from" "[I") (by decide +kernel)
  have l60 := hts (.fieldLink RX3 60 "GroupDeskModel" "drafted" "I") (by decide +kernel)
  have iX3 : ∀ w ∈ u_ws RX3 TX3 11, w ∈ wsX3_taken := by decide +kernel
  refine lv_aload_n hx hb dX3_taken_0 rfl (lv_at hl 0 rfl) ?_
  refine va_get (D := (dC, dI)) (ci := 3) (v := .int (nI ro)) (C := RX3) (T := TX3) (N := 11) hx hb hts iX3 hown hK hP 0 rfl rfl 7 (by decide) l22 (fun _ h9 => h9) rfl dX3_taken_1 ?_
  refine lv_istore_n (lv' := [(1, .int (nI ro)), (0, .ref m0)]) hx hb dX3_taken_4 rfl hl (by decide) rfl (fun ls hl => ?_)
  refine lv_aload_n hx hb dX3_taken_5 rfl (lv_at hl 1 rfl) ?_
  refine lv_dup hx hb dX3_taken_6 rfl ?_
  refine va_get (D := (dC, dI)) (ci := 3) (v := .int (nI ro)) (C := RX3) (T := TX3) (N := 11) hx hb hts iX3 hown hK hP 0 rfl rfl 7 (by decide) l22 (fun _ h9 => h9) rfl dX3_taken_7 ?_
  refine lv_iconst (v := 1) hx hb dX3_taken_10 (by decide) ?_
  refine lv_iadd hx hb dX3_taken_11 ?_
  refine mv_top (v := nI (ro + 1)) (nI_1 ro) ?_
  refine va_put (D := (dC, dI)) (ci := 3) (v := .int (nI (ro + 1))) (ty := .int) (C := RX3) (T := TX3) (N := 11) hx hb hts iX3 tyX3 tyX3_ok nmX3 hown hK hP hD hS 0 rfl rfl 7 (by decide) l22 (fun _ h9 => h9) rfl (by decide +kernel) rfl rfl (Nat.le_of_ble_eq_true rfl) dX3_taken_12 (fun H locs hP hD hS => ?_)
  have hP : va_P (dC, dI) vwCl (wM cI m0 m1 m2 m3 m4 m5 m6 th gr co ofs grp kd vl (ro + 1) fr nm dr) _ := hP
  have hD : va_D A (wM cI m0 m1 m2 m3 m4 m5 m6 th gr co ofs grp kd vl (ro + 1) fr nm dr) := hD
  refine lv_aload_n hx hb dX3_taken_15 rfl (lv_at hl 1 rfl) ?_
  refine va_get (D := (dC, dI)) (ci := 3) (v := .ref m5) (C := RX3) (T := TX3) (N := 11) hx hb hts iX3 hown hK hP 0 rfl rfl 8 (by decide) l26 (fun _ h9 => h9) rfl dX3_taken_16 ?_
  refine lv_aload_n hx hb dX3_taken_19 rfl (lv_at hl 1 rfl) ?_
  refine va_get (D := (dC, dI)) (ci := 3) (v := .int (nI (ro + 1))) (C := RX3) (T := TX3) (N := 11) hx hb hts iX3 hown hK hP 0 rfl rfl 7 (by decide) l22 (fun _ h9 => h9) rfl dX3_taken_20 ?_
  refine lv_aload_n hx hb dX3_taken_23 rfl (lv_at hl 1 rfl) ?_
  refine va_get (D := (dC, dI)) (ci := 3) (v := .ref m5) (C := RX3) (T := TX3) (N := 11) hx hb hts iX3 hown hK hP 0 rfl rfl 8 (by decide) l26 (fun _ h9 => h9) rfl dX3_taken_24 ?_
  refine lv_iload_n hx hb dX3_taken_27 rfl (lv_at hl 0 rfl) ?_
  refine mv_iald hx hb hK hP 5 0 rfl rfl (k := ro) (rfl) (by omega) (by decide) (v := nI (fr ro)) rfl dX3_taken_28 ?_
  refine lv_aload_n hx hb dX3_taken_29 rfl (lv_at hl 1 rfl) ?_
  refine va_get (D := (dC, dI)) (ci := 3) (v := .int (nI dr)) (C := RX3) (T := TX3) (N := 11) hx hb hts iX3 hown hK hP 0 rfl rfl 10 (by decide) l60 (fun _ h9 => h9) rfl dX3_taken_30 ?_
  refine lv_iadd hx hb dX3_taken_33 ?_
  refine mv_top (v := nI (fr ro + dr)) (nI_add (fr ro) dr) ?_
  refine mv_iast hx hb hK hP hD hS 5 0 rfl rfl (k := ro + 1) (rfl) (by omega) (by decide) (f' := nF (va_up fr (ro + 1) (fr ro + dr))) (nF_up _ _ _) dX3_taken_34 (fun H locs hP hD hS => ?_)
  have hP : va_P (dC, dI) vwCl (wM cI m0 m1 m2 m3 m4 m5 m6 th gr co ofs grp kd vl (ro + 1) (va_up fr (ro + 1) (fr ro + dr)) nm dr) _ := hP
  have hD : va_D A (wM cI m0 m1 m2 m3 m4 m5 m6 th gr co ofs grp kd vl (ro + 1) (va_up fr (ro + 1) (fr ro + dr)) nm dr) := hD
  refine lv_aload_n hx hb dX3_taken_35 rfl (lv_at hl 1 rfl) ?_
  refine lv_iconst (v := 0) hx hb dX3_taken_36 (by decide) ?_
  refine mv_top (v := nI 0) rfl ?_
  refine va_put (D := (dC, dI)) (ci := 3) (v := .int (nI 0)) (ty := .int) (C := RX3) (T := TX3) (N := 11) hx hb hts iX3 tyX3 tyX3_ok nmX3 hown hK hP hD hS 0 rfl rfl 10 (by decide) l60 (fun _ h9 => h9) rfl (by decide +kernel) rfl rfl (Nat.le_of_ble_eq_true rfl) dX3_taken_37 (fun H locs hP hD hS => ?_)
  have hP : va_P (dC, dI) vwCl (wM cI m0 m1 m2 m3 m4 m5 m6 th gr co ofs grp kd vl (ro + 1) (va_up fr (ro + 1) (fr ro + dr)) nm 0) _ := hP
  have hD : va_D A (wM cI m0 m1 m2 m3 m4 m5 m6 th gr co ofs grp kd vl (ro + 1) (va_up fr (ro + 1) (fr ro + dr)) nm 0) := hD
  refine lv_iload_n hx hb dX3_taken_40 rfl (lv_at hl 0 rfl) ?_
  exact hret (nI ro) ((ro + 1, va_up fr (ro + 1) (fr ro + dr), 0)) (rfl) (⟨rfl, rfl⟩) hP hD hS dX3_taken_41
set_option maxHeartbeats 4000000 in
set_option maxRecDepth 100000 in
theorem c_X3_assign (l : Launch) (dC : Nat → ClassId) (dI : Nat → Nat → Nat) (cI : ClassId) (m0 m1 m2 m3 m4 m5 m6 : Nat) (th : Int32) (gr co : Nat) (ofs grp : Nat → Nat) (kd vl : Nat → Int32) (ro : Nat) (fr : Nat → Nat) (nm : Nat → Int32) (dr : Nat) (w : Nat) (k v g : Int32) (hco : co < 4200) (hg : gr < 2 ^ 31) (hgr : ∀ i, i < co → grp i < 2 ^ 31) : mWv l yX3_assign wsX3_assign ({ frames := 1, cells := 0, slots := 0, locals := 24 }) (dC, dI) cI [.ref m0, .int (nI w), .int k, .int v, .int g] (wM cI m0 m1 m2 m3 m4 m5 m6 th gr co ofs grp kd vl ro fr nm dr) (fun u => u = asgM w k v g gr co ofs grp kd vl) (fun u : Nat × (Nat → Nat) × (Nat → Nat) × (Nat → Int32) × (Nat → Int32) => wM cI m0 m1 m2 m3 m4 m5 m6 th gr u.1 u.2.1 u.2.2.1 u.2.2.2.1 u.2.2.2.2 ro fr nm dr) := by
  refine m_ofWv (cc := cX3_assign) (maxL := 6) (by decide) rfl (Nat.le_of_ble_eq_true rfl) ?_
  intro p e s m args below meth c ls A Q hx hb hts hown hml hP hK hD hA hS hl hret
  have hown : s.vm.findClass RX3 = some m.cls := hown
  have hl : lv_has ls 6 [(0, .ref m0), (1, .int (nI w)), (2, .int k), (3, .int v), (4, .int g)] := hl
  have l35 := hts (.fieldLink RX3 35 "GroupDeskModel" "groups" "I") (by decide +kernel)
  have l7 := hts (.fieldLink RX3 7 "GroupDeskModel" "of" "[I") (by decide +kernel)
  have l38 := hts (.fieldLink RX3 38 "GroupDeskModel" "count" "I") (by decide +kernel)
  have l13 := hts (.fieldLink RX3 13 "GroupDeskModel" "group" "[I") (by decide +kernel)
  have l16 := hts (.fieldLink RX3 16 "GroupDeskModel" "kind" "[I") (by decide +kernel)
  have l19 := hts (.fieldLink RX3 19 "GroupDeskModel" "value" "[I") (by decide +kernel)
  have iX3 : ∀ w ∈ u_ws RX3 TX3 11, w ∈ wsX3_assign := by decide +kernel
  refine lv_iload hx hb dX3_assign_0 (lv_at hl 4 rfl) ?_
  refine lv_if_eq (tgt := 9) hx hb dX3_assign_2 (by decide) (fun c2 => ?_) (fun c2 => ?_)
  · refine lv_aload_n hx hb dX3_assign_9 rfl (lv_at hl 0 rfl) ?_
    refine va_get (D := (dC, dI)) (ci := 3) (v := .int (nI gr)) (C := RX3) (T := TX3) (N := 11) hx hb hts iX3 hown hK hP 0 rfl rfl 1 (by decide) l35 (fun _ h9 => h9) rfl dX3_assign_10 ?_
    refine lv_istore (lv' := [(5, .int (nI gr)), (0, .ref m0), (1, .int (nI w)), (2, .int k), (3, .int v), (4, .int g)]) hx hb dX3_assign_13 hl (by decide) rfl (fun ls hl => ?_)
    refine lv_aload_n hx hb dX3_assign_15 rfl (lv_at hl 1 rfl) ?_
    refine lv_iload_n hx hb dX3_assign_16 rfl (lv_at hl 2 rfl) ?_
    refine lv_iload hx hb dX3_assign_17 (lv_at hl 0 rfl) ?_
    have hP : va_P (dC, dI) vwCl ([] ++ (wM cI m0 m1 m2 m3 m4 m5 m6 th gr co ofs grp kd vl ro fr nm dr)) _ := hP
    have hD : va_D A ([] ++ (wM cI m0 m1 m2 m3 m4 m5 m6 th gr co ofs grp kd vl ro fr nm dr)) := hD
    refine m_wVv (As := [.int (nI w), .int (nI gr)]) (rest := []) ⟨hx, hb, hml, hown, hts⟩ (c_X3_drop l dC dI cI m0 m1 m2 m3 m4 m5 m6 th gr co ofs grp kd vl ro fr nm dr (nI w) gr (by omega) (by omega) hgr) (cwV 2 hts gX3_assign_X3_drop rfl rfl rfl (by decide +kernel) ⟨Nat.le_of_ble_eq_true rfl, Nat.le_of_ble_eq_true rfl⟩) hP hK hD hS hA 3 0 rfl rfl rfl hl.1 rfl (Nat.le_of_ble_eq_true rfl) dX3_assign_19 ⟨Nat.zero_le _, Nat.zero_le _⟩ (fun u H locs hw hP hD hS => ?_)
    subst hw
    have hP : va_P (dC, dI) vwCl (wM cI m0 m1 m2 m3 m4 m5 m6 th gr ((dropF (kp (nI w) gr) co 0 0 ofs grp kd vl).1) ((dropF (kp (nI w) gr) co 0 0 ofs grp kd vl).2.1) ((dropF (kp (nI w) gr) co 0 0 ofs grp kd vl).2.2.1) ((dropF (kp (nI w) gr) co 0 0 ofs grp kd vl).2.2.2.1) ((dropF (kp (nI w) gr) co 0 0 ofs grp kd vl).2.2.2.2) ro fr nm dr) _ := hP
    have hD : va_D A (wM cI m0 m1 m2 m3 m4 m5 m6 th gr ((dropF (kp (nI w) gr) co 0 0 ofs grp kd vl).1) ((dropF (kp (nI w) gr) co 0 0 ofs grp kd vl).2.1) ((dropF (kp (nI w) gr) co 0 0 ofs grp kd vl).2.2.1) ((dropF (kp (nI w) gr) co 0 0 ofs grp kd vl).2.2.2.1) ((dropF (kp (nI w) gr) co 0 0 ofs grp kd vl).2.2.2.2) ro fr nm dr) := hD
    refine lv_aload_n hx hb dX3_assign_22 rfl (lv_at hl 1 rfl) ?_
    refine va_get (D := (dC, dI)) (ci := 3) (v := .ref m1) (C := RX3) (T := TX3) (N := 11) hx hb hts iX3 hown hK hP 0 rfl rfl 3 (by decide) l7 (fun _ h9 => h9) rfl dX3_assign_23 ?_
    refine lv_aload_n hx hb dX3_assign_26 rfl (lv_at hl 1 rfl) ?_
    refine va_get (D := (dC, dI)) (ci := 3) (v := .int (nI ((dropF (kp (nI w) gr) co 0 0 ofs grp kd vl).1))) (C := RX3) (T := TX3) (N := 11) hx hb hts iX3 hown hK hP 0 rfl rfl 2 (by decide) l38 (fun _ h9 => h9) rfl dX3_assign_27 ?_
    refine lv_iload_n hx hb dX3_assign_30 rfl (lv_at hl 2 rfl) ?_
    refine mv_iast hx hb hK hP hD hS 1 0 rfl rfl (k := (dropF (kp (nI w) gr) co 0 0 ofs grp kd vl).1) (rfl) (by have := dropF_le (keep := kp (nI w) gr) (n := co) (k := 0) (j := 0) (ofs := ofs) (grp := grp) (kd := kd) (vl := vl); omega) (by decide) (f' := nF (va_up ((dropF (kp (nI w) gr) co 0 0 ofs grp kd vl).2.1) ((dropF (kp (nI w) gr) co 0 0 ofs grp kd vl).1) w)) (nF_up _ _ _) dX3_assign_31 (fun H locs hP hD hS => ?_)
    have hP : va_P (dC, dI) vwCl (wM cI m0 m1 m2 m3 m4 m5 m6 th gr ((dropF (kp (nI w) gr) co 0 0 ofs grp kd vl).1) (va_up ((dropF (kp (nI w) gr) co 0 0 ofs grp kd vl).2.1) ((dropF (kp (nI w) gr) co 0 0 ofs grp kd vl).1) w) ((dropF (kp (nI w) gr) co 0 0 ofs grp kd vl).2.2.1) ((dropF (kp (nI w) gr) co 0 0 ofs grp kd vl).2.2.2.1) ((dropF (kp (nI w) gr) co 0 0 ofs grp kd vl).2.2.2.2) ro fr nm dr) _ := hP
    have hD : va_D A (wM cI m0 m1 m2 m3 m4 m5 m6 th gr ((dropF (kp (nI w) gr) co 0 0 ofs grp kd vl).1) (va_up ((dropF (kp (nI w) gr) co 0 0 ofs grp kd vl).2.1) ((dropF (kp (nI w) gr) co 0 0 ofs grp kd vl).1) w) ((dropF (kp (nI w) gr) co 0 0 ofs grp kd vl).2.2.1) ((dropF (kp (nI w) gr) co 0 0 ofs grp kd vl).2.2.2.1) ((dropF (kp (nI w) gr) co 0 0 ofs grp kd vl).2.2.2.2) ro fr nm dr) := hD
    refine lv_aload_n hx hb dX3_assign_32 rfl (lv_at hl 1 rfl) ?_
    refine va_get (D := (dC, dI)) (ci := 3) (v := .ref m2) (C := RX3) (T := TX3) (N := 11) hx hb hts iX3 hown hK hP 0 rfl rfl 4 (by decide) l13 (fun _ h9 => h9) rfl dX3_assign_33 ?_
    refine lv_aload_n hx hb dX3_assign_36 rfl (lv_at hl 1 rfl) ?_
    refine va_get (D := (dC, dI)) (ci := 3) (v := .int (nI ((dropF (kp (nI w) gr) co 0 0 ofs grp kd vl).1))) (C := RX3) (T := TX3) (N := 11) hx hb hts iX3 hown hK hP 0 rfl rfl 2 (by decide) l38 (fun _ h9 => h9) rfl dX3_assign_37 ?_
    refine lv_iload hx hb dX3_assign_40 (lv_at hl 0 rfl) ?_
    refine mv_iast hx hb hK hP hD hS 2 0 rfl rfl (k := (dropF (kp (nI w) gr) co 0 0 ofs grp kd vl).1) (rfl) (by have := dropF_le (keep := kp (nI w) gr) (n := co) (k := 0) (j := 0) (ofs := ofs) (grp := grp) (kd := kd) (vl := vl); omega) (by decide) (f' := nF (va_up ((dropF (kp (nI w) gr) co 0 0 ofs grp kd vl).2.2.1) ((dropF (kp (nI w) gr) co 0 0 ofs grp kd vl).1) gr)) (nF_up _ _ _) dX3_assign_42 (fun H locs hP hD hS => ?_)
    have hP : va_P (dC, dI) vwCl (wM cI m0 m1 m2 m3 m4 m5 m6 th gr ((dropF (kp (nI w) gr) co 0 0 ofs grp kd vl).1) (va_up ((dropF (kp (nI w) gr) co 0 0 ofs grp kd vl).2.1) ((dropF (kp (nI w) gr) co 0 0 ofs grp kd vl).1) w) (va_up ((dropF (kp (nI w) gr) co 0 0 ofs grp kd vl).2.2.1) ((dropF (kp (nI w) gr) co 0 0 ofs grp kd vl).1) gr) ((dropF (kp (nI w) gr) co 0 0 ofs grp kd vl).2.2.2.1) ((dropF (kp (nI w) gr) co 0 0 ofs grp kd vl).2.2.2.2) ro fr nm dr) _ := hP
    have hD : va_D A (wM cI m0 m1 m2 m3 m4 m5 m6 th gr ((dropF (kp (nI w) gr) co 0 0 ofs grp kd vl).1) (va_up ((dropF (kp (nI w) gr) co 0 0 ofs grp kd vl).2.1) ((dropF (kp (nI w) gr) co 0 0 ofs grp kd vl).1) w) (va_up ((dropF (kp (nI w) gr) co 0 0 ofs grp kd vl).2.2.1) ((dropF (kp (nI w) gr) co 0 0 ofs grp kd vl).1) gr) ((dropF (kp (nI w) gr) co 0 0 ofs grp kd vl).2.2.2.1) ((dropF (kp (nI w) gr) co 0 0 ofs grp kd vl).2.2.2.2) ro fr nm dr) := hD
    refine lv_aload_n hx hb dX3_assign_43 rfl (lv_at hl 1 rfl) ?_
    refine va_get (D := (dC, dI)) (ci := 3) (v := .ref m3) (C := RX3) (T := TX3) (N := 11) hx hb hts iX3 hown hK hP 0 rfl rfl 5 (by decide) l16 (fun _ h9 => h9) rfl dX3_assign_44 ?_
    refine lv_aload_n hx hb dX3_assign_47 rfl (lv_at hl 1 rfl) ?_
    refine va_get (D := (dC, dI)) (ci := 3) (v := .int (nI ((dropF (kp (nI w) gr) co 0 0 ofs grp kd vl).1))) (C := RX3) (T := TX3) (N := 11) hx hb hts iX3 hown hK hP 0 rfl rfl 2 (by decide) l38 (fun _ h9 => h9) rfl dX3_assign_48 ?_
    refine lv_iload_n hx hb dX3_assign_51 rfl (lv_at hl 3 rfl) ?_
    refine mv_iast hx hb hK hP hD hS 3 0 rfl rfl (k := (dropF (kp (nI w) gr) co 0 0 ofs grp kd vl).1) (rfl) (by have := dropF_le (keep := kp (nI w) gr) (n := co) (k := 0) (j := 0) (ofs := ofs) (grp := grp) (kd := kd) (vl := vl); omega) (by decide) (f' := upd ((dropF (kp (nI w) gr) co 0 0 ofs grp kd vl).2.2.2.1) ((dropF (kp (nI w) gr) co 0 0 ofs grp kd vl).1) k) (rfl) dX3_assign_52 (fun H locs hP hD hS => ?_)
    have hP : va_P (dC, dI) vwCl (wM cI m0 m1 m2 m3 m4 m5 m6 th gr ((dropF (kp (nI w) gr) co 0 0 ofs grp kd vl).1) (va_up ((dropF (kp (nI w) gr) co 0 0 ofs grp kd vl).2.1) ((dropF (kp (nI w) gr) co 0 0 ofs grp kd vl).1) w) (va_up ((dropF (kp (nI w) gr) co 0 0 ofs grp kd vl).2.2.1) ((dropF (kp (nI w) gr) co 0 0 ofs grp kd vl).1) gr) (upd ((dropF (kp (nI w) gr) co 0 0 ofs grp kd vl).2.2.2.1) ((dropF (kp (nI w) gr) co 0 0 ofs grp kd vl).1) k) ((dropF (kp (nI w) gr) co 0 0 ofs grp kd vl).2.2.2.2) ro fr nm dr) _ := hP
    have hD : va_D A (wM cI m0 m1 m2 m3 m4 m5 m6 th gr ((dropF (kp (nI w) gr) co 0 0 ofs grp kd vl).1) (va_up ((dropF (kp (nI w) gr) co 0 0 ofs grp kd vl).2.1) ((dropF (kp (nI w) gr) co 0 0 ofs grp kd vl).1) w) (va_up ((dropF (kp (nI w) gr) co 0 0 ofs grp kd vl).2.2.1) ((dropF (kp (nI w) gr) co 0 0 ofs grp kd vl).1) gr) (upd ((dropF (kp (nI w) gr) co 0 0 ofs grp kd vl).2.2.2.1) ((dropF (kp (nI w) gr) co 0 0 ofs grp kd vl).1) k) ((dropF (kp (nI w) gr) co 0 0 ofs grp kd vl).2.2.2.2) ro fr nm dr) := hD
    refine lv_aload_n hx hb dX3_assign_53 rfl (lv_at hl 1 rfl) ?_
    refine va_get (D := (dC, dI)) (ci := 3) (v := .ref m4) (C := RX3) (T := TX3) (N := 11) hx hb hts iX3 hown hK hP 0 rfl rfl 6 (by decide) l19 (fun _ h9 => h9) rfl dX3_assign_54 ?_
    refine lv_aload_n hx hb dX3_assign_57 rfl (lv_at hl 1 rfl) ?_
    refine va_get (D := (dC, dI)) (ci := 3) (v := .int (nI ((dropF (kp (nI w) gr) co 0 0 ofs grp kd vl).1))) (C := RX3) (T := TX3) (N := 11) hx hb hts iX3 hown hK hP 0 rfl rfl 2 (by decide) l38 (fun _ h9 => h9) rfl dX3_assign_58 ?_
    refine lv_iload_n hx hb dX3_assign_61 rfl (lv_at hl 4 rfl) ?_
    refine mv_iast hx hb hK hP hD hS 4 0 rfl rfl (k := (dropF (kp (nI w) gr) co 0 0 ofs grp kd vl).1) (rfl) (by have := dropF_le (keep := kp (nI w) gr) (n := co) (k := 0) (j := 0) (ofs := ofs) (grp := grp) (kd := kd) (vl := vl); omega) (by decide) (f' := upd ((dropF (kp (nI w) gr) co 0 0 ofs grp kd vl).2.2.2.2) ((dropF (kp (nI w) gr) co 0 0 ofs grp kd vl).1) v) (rfl) dX3_assign_62 (fun H locs hP hD hS => ?_)
    have hP : va_P (dC, dI) vwCl (wM cI m0 m1 m2 m3 m4 m5 m6 th gr ((dropF (kp (nI w) gr) co 0 0 ofs grp kd vl).1) (va_up ((dropF (kp (nI w) gr) co 0 0 ofs grp kd vl).2.1) ((dropF (kp (nI w) gr) co 0 0 ofs grp kd vl).1) w) (va_up ((dropF (kp (nI w) gr) co 0 0 ofs grp kd vl).2.2.1) ((dropF (kp (nI w) gr) co 0 0 ofs grp kd vl).1) gr) (upd ((dropF (kp (nI w) gr) co 0 0 ofs grp kd vl).2.2.2.1) ((dropF (kp (nI w) gr) co 0 0 ofs grp kd vl).1) k) (upd ((dropF (kp (nI w) gr) co 0 0 ofs grp kd vl).2.2.2.2) ((dropF (kp (nI w) gr) co 0 0 ofs grp kd vl).1) v) ro fr nm dr) _ := hP
    have hD : va_D A (wM cI m0 m1 m2 m3 m4 m5 m6 th gr ((dropF (kp (nI w) gr) co 0 0 ofs grp kd vl).1) (va_up ((dropF (kp (nI w) gr) co 0 0 ofs grp kd vl).2.1) ((dropF (kp (nI w) gr) co 0 0 ofs grp kd vl).1) w) (va_up ((dropF (kp (nI w) gr) co 0 0 ofs grp kd vl).2.2.1) ((dropF (kp (nI w) gr) co 0 0 ofs grp kd vl).1) gr) (upd ((dropF (kp (nI w) gr) co 0 0 ofs grp kd vl).2.2.2.1) ((dropF (kp (nI w) gr) co 0 0 ofs grp kd vl).1) k) (upd ((dropF (kp (nI w) gr) co 0 0 ofs grp kd vl).2.2.2.2) ((dropF (kp (nI w) gr) co 0 0 ofs grp kd vl).1) v) ro fr nm dr) := hD
    refine lv_aload_n hx hb dX3_assign_63 rfl (lv_at hl 1 rfl) ?_
    refine lv_dup hx hb dX3_assign_64 rfl ?_
    refine va_get (D := (dC, dI)) (ci := 3) (v := .int (nI ((dropF (kp (nI w) gr) co 0 0 ofs grp kd vl).1))) (C := RX3) (T := TX3) (N := 11) hx hb hts iX3 hown hK hP 0 rfl rfl 2 (by decide) l38 (fun _ h9 => h9) rfl dX3_assign_65 ?_
    refine lv_iconst (v := 1) hx hb dX3_assign_68 (by decide) ?_
    refine lv_iadd hx hb dX3_assign_69 ?_
    refine mv_top (v := nI (((dropF (kp (nI w) gr) co 0 0 ofs grp kd vl).1) + 1)) (nI_1 ((dropF (kp (nI w) gr) co 0 0 ofs grp kd vl).1)) ?_
    refine va_put (D := (dC, dI)) (ci := 3) (v := .int (nI (((dropF (kp (nI w) gr) co 0 0 ofs grp kd vl).1) + 1))) (ty := .int) (C := RX3) (T := TX3) (N := 11) hx hb hts iX3 tyX3 tyX3_ok nmX3 hown hK hP hD hS 0 rfl rfl 2 (by decide) l38 (fun _ h9 => h9) rfl (by decide +kernel) rfl rfl (Nat.le_of_ble_eq_true rfl) dX3_assign_70 (fun H locs hP hD hS => ?_)
    have hP : va_P (dC, dI) vwCl (wM cI m0 m1 m2 m3 m4 m5 m6 th gr (((dropF (kp (nI w) gr) co 0 0 ofs grp kd vl).1) + 1) (va_up ((dropF (kp (nI w) gr) co 0 0 ofs grp kd vl).2.1) ((dropF (kp (nI w) gr) co 0 0 ofs grp kd vl).1) w) (va_up ((dropF (kp (nI w) gr) co 0 0 ofs grp kd vl).2.2.1) ((dropF (kp (nI w) gr) co 0 0 ofs grp kd vl).1) gr) (upd ((dropF (kp (nI w) gr) co 0 0 ofs grp kd vl).2.2.2.1) ((dropF (kp (nI w) gr) co 0 0 ofs grp kd vl).1) k) (upd ((dropF (kp (nI w) gr) co 0 0 ofs grp kd vl).2.2.2.2) ((dropF (kp (nI w) gr) co 0 0 ofs grp kd vl).1) v) ro fr nm dr) _ := hP
    have hD : va_D A (wM cI m0 m1 m2 m3 m4 m5 m6 th gr (((dropF (kp (nI w) gr) co 0 0 ofs grp kd vl).1) + 1) (va_up ((dropF (kp (nI w) gr) co 0 0 ofs grp kd vl).2.1) ((dropF (kp (nI w) gr) co 0 0 ofs grp kd vl).1) w) (va_up ((dropF (kp (nI w) gr) co 0 0 ofs grp kd vl).2.2.1) ((dropF (kp (nI w) gr) co 0 0 ofs grp kd vl).1) gr) (upd ((dropF (kp (nI w) gr) co 0 0 ofs grp kd vl).2.2.2.1) ((dropF (kp (nI w) gr) co 0 0 ofs grp kd vl).1) k) (upd ((dropF (kp (nI w) gr) co 0 0 ofs grp kd vl).2.2.2.2) ((dropF (kp (nI w) gr) co 0 0 ofs grp kd vl).1) v) ro fr nm dr) := hD
    exact hret ((((dropF (kp (nI w) gr) co 0 0 ofs grp kd vl).1) + 1, va_up ((dropF (kp (nI w) gr) co 0 0 ofs grp kd vl).2.1) ((dropF (kp (nI w) gr) co 0 0 ofs grp kd vl).1) w, va_up ((dropF (kp (nI w) gr) co 0 0 ofs grp kd vl).2.2.1) ((dropF (kp (nI w) gr) co 0 0 ofs grp kd vl).1) gr, upd ((dropF (kp (nI w) gr) co 0 0 ofs grp kd vl).2.2.2.1) ((dropF (kp (nI w) gr) co 0 0 ofs grp kd vl).1) k, upd ((dropF (kp (nI w) gr) co 0 0 ofs grp kd vl).2.2.2.2) ((dropF (kp (nI w) gr) co 0 0 ofs grp kd vl).1) v)) (by unfold asgM; rw [if_pos c2]) hP hD hS dX3_assign_73
  · refine lv_iconst (v := 0) hx hb dX3_assign_5 (by decide) ?_
    refine lv_goto (tgt := 13) hx hb dX3_assign_6 (by decide) ?_
    refine mv_top (v := nI 0) rfl ?_
    refine lv_istore (lv' := [(5, .int (nI 0)), (0, .ref m0), (1, .int (nI w)), (2, .int k), (3, .int v), (4, .int g)]) hx hb dX3_assign_13 hl (by decide) rfl (fun ls hl => ?_)
    refine lv_aload_n hx hb dX3_assign_15 rfl (lv_at hl 1 rfl) ?_
    refine lv_iload_n hx hb dX3_assign_16 rfl (lv_at hl 2 rfl) ?_
    refine lv_iload hx hb dX3_assign_17 (lv_at hl 0 rfl) ?_
    have hP : va_P (dC, dI) vwCl ([] ++ (wM cI m0 m1 m2 m3 m4 m5 m6 th gr co ofs grp kd vl ro fr nm dr)) _ := hP
    have hD : va_D A ([] ++ (wM cI m0 m1 m2 m3 m4 m5 m6 th gr co ofs grp kd vl ro fr nm dr)) := hD
    refine m_wVv (As := [.int (nI w), .int (nI 0)]) (rest := []) ⟨hx, hb, hml, hown, hts⟩ (c_X3_drop l dC dI cI m0 m1 m2 m3 m4 m5 m6 th gr co ofs grp kd vl ro fr nm dr (nI w) 0 (by omega) (by omega) hgr) (cwV 2 hts gX3_assign_X3_drop rfl rfl rfl (by decide +kernel) ⟨Nat.le_of_ble_eq_true rfl, Nat.le_of_ble_eq_true rfl⟩) hP hK hD hS hA 3 0 rfl rfl rfl hl.1 rfl (Nat.le_of_ble_eq_true rfl) dX3_assign_19 ⟨Nat.zero_le _, Nat.zero_le _⟩ (fun u H locs hw hP hD hS => ?_)
    subst hw
    have hP : va_P (dC, dI) vwCl (wM cI m0 m1 m2 m3 m4 m5 m6 th gr ((dropF (kp (nI w) 0) co 0 0 ofs grp kd vl).1) ((dropF (kp (nI w) 0) co 0 0 ofs grp kd vl).2.1) ((dropF (kp (nI w) 0) co 0 0 ofs grp kd vl).2.2.1) ((dropF (kp (nI w) 0) co 0 0 ofs grp kd vl).2.2.2.1) ((dropF (kp (nI w) 0) co 0 0 ofs grp kd vl).2.2.2.2) ro fr nm dr) _ := hP
    have hD : va_D A (wM cI m0 m1 m2 m3 m4 m5 m6 th gr ((dropF (kp (nI w) 0) co 0 0 ofs grp kd vl).1) ((dropF (kp (nI w) 0) co 0 0 ofs grp kd vl).2.1) ((dropF (kp (nI w) 0) co 0 0 ofs grp kd vl).2.2.1) ((dropF (kp (nI w) 0) co 0 0 ofs grp kd vl).2.2.2.1) ((dropF (kp (nI w) 0) co 0 0 ofs grp kd vl).2.2.2.2) ro fr nm dr) := hD
    refine lv_aload_n hx hb dX3_assign_22 rfl (lv_at hl 1 rfl) ?_
    refine va_get (D := (dC, dI)) (ci := 3) (v := .ref m1) (C := RX3) (T := TX3) (N := 11) hx hb hts iX3 hown hK hP 0 rfl rfl 3 (by decide) l7 (fun _ h9 => h9) rfl dX3_assign_23 ?_
    refine lv_aload_n hx hb dX3_assign_26 rfl (lv_at hl 1 rfl) ?_
    refine va_get (D := (dC, dI)) (ci := 3) (v := .int (nI ((dropF (kp (nI w) 0) co 0 0 ofs grp kd vl).1))) (C := RX3) (T := TX3) (N := 11) hx hb hts iX3 hown hK hP 0 rfl rfl 2 (by decide) l38 (fun _ h9 => h9) rfl dX3_assign_27 ?_
    refine lv_iload_n hx hb dX3_assign_30 rfl (lv_at hl 2 rfl) ?_
    refine mv_iast hx hb hK hP hD hS 1 0 rfl rfl (k := (dropF (kp (nI w) 0) co 0 0 ofs grp kd vl).1) (rfl) (by have := dropF_le (keep := kp (nI w) 0) (n := co) (k := 0) (j := 0) (ofs := ofs) (grp := grp) (kd := kd) (vl := vl); omega) (by decide) (f' := nF (va_up ((dropF (kp (nI w) 0) co 0 0 ofs grp kd vl).2.1) ((dropF (kp (nI w) 0) co 0 0 ofs grp kd vl).1) w)) (nF_up _ _ _) dX3_assign_31 (fun H locs hP hD hS => ?_)
    have hP : va_P (dC, dI) vwCl (wM cI m0 m1 m2 m3 m4 m5 m6 th gr ((dropF (kp (nI w) 0) co 0 0 ofs grp kd vl).1) (va_up ((dropF (kp (nI w) 0) co 0 0 ofs grp kd vl).2.1) ((dropF (kp (nI w) 0) co 0 0 ofs grp kd vl).1) w) ((dropF (kp (nI w) 0) co 0 0 ofs grp kd vl).2.2.1) ((dropF (kp (nI w) 0) co 0 0 ofs grp kd vl).2.2.2.1) ((dropF (kp (nI w) 0) co 0 0 ofs grp kd vl).2.2.2.2) ro fr nm dr) _ := hP
    have hD : va_D A (wM cI m0 m1 m2 m3 m4 m5 m6 th gr ((dropF (kp (nI w) 0) co 0 0 ofs grp kd vl).1) (va_up ((dropF (kp (nI w) 0) co 0 0 ofs grp kd vl).2.1) ((dropF (kp (nI w) 0) co 0 0 ofs grp kd vl).1) w) ((dropF (kp (nI w) 0) co 0 0 ofs grp kd vl).2.2.1) ((dropF (kp (nI w) 0) co 0 0 ofs grp kd vl).2.2.2.1) ((dropF (kp (nI w) 0) co 0 0 ofs grp kd vl).2.2.2.2) ro fr nm dr) := hD
    refine lv_aload_n hx hb dX3_assign_32 rfl (lv_at hl 1 rfl) ?_
    refine va_get (D := (dC, dI)) (ci := 3) (v := .ref m2) (C := RX3) (T := TX3) (N := 11) hx hb hts iX3 hown hK hP 0 rfl rfl 4 (by decide) l13 (fun _ h9 => h9) rfl dX3_assign_33 ?_
    refine lv_aload_n hx hb dX3_assign_36 rfl (lv_at hl 1 rfl) ?_
    refine va_get (D := (dC, dI)) (ci := 3) (v := .int (nI ((dropF (kp (nI w) 0) co 0 0 ofs grp kd vl).1))) (C := RX3) (T := TX3) (N := 11) hx hb hts iX3 hown hK hP 0 rfl rfl 2 (by decide) l38 (fun _ h9 => h9) rfl dX3_assign_37 ?_
    refine lv_iload hx hb dX3_assign_40 (lv_at hl 0 rfl) ?_
    refine mv_iast hx hb hK hP hD hS 2 0 rfl rfl (k := (dropF (kp (nI w) 0) co 0 0 ofs grp kd vl).1) (rfl) (by have := dropF_le (keep := kp (nI w) 0) (n := co) (k := 0) (j := 0) (ofs := ofs) (grp := grp) (kd := kd) (vl := vl); omega) (by decide) (f' := nF (va_up ((dropF (kp (nI w) 0) co 0 0 ofs grp kd vl).2.2.1) ((dropF (kp (nI w) 0) co 0 0 ofs grp kd vl).1) 0)) (nF_up _ _ _) dX3_assign_42 (fun H locs hP hD hS => ?_)
    have hP : va_P (dC, dI) vwCl (wM cI m0 m1 m2 m3 m4 m5 m6 th gr ((dropF (kp (nI w) 0) co 0 0 ofs grp kd vl).1) (va_up ((dropF (kp (nI w) 0) co 0 0 ofs grp kd vl).2.1) ((dropF (kp (nI w) 0) co 0 0 ofs grp kd vl).1) w) (va_up ((dropF (kp (nI w) 0) co 0 0 ofs grp kd vl).2.2.1) ((dropF (kp (nI w) 0) co 0 0 ofs grp kd vl).1) 0) ((dropF (kp (nI w) 0) co 0 0 ofs grp kd vl).2.2.2.1) ((dropF (kp (nI w) 0) co 0 0 ofs grp kd vl).2.2.2.2) ro fr nm dr) _ := hP
    have hD : va_D A (wM cI m0 m1 m2 m3 m4 m5 m6 th gr ((dropF (kp (nI w) 0) co 0 0 ofs grp kd vl).1) (va_up ((dropF (kp (nI w) 0) co 0 0 ofs grp kd vl).2.1) ((dropF (kp (nI w) 0) co 0 0 ofs grp kd vl).1) w) (va_up ((dropF (kp (nI w) 0) co 0 0 ofs grp kd vl).2.2.1) ((dropF (kp (nI w) 0) co 0 0 ofs grp kd vl).1) 0) ((dropF (kp (nI w) 0) co 0 0 ofs grp kd vl).2.2.2.1) ((dropF (kp (nI w) 0) co 0 0 ofs grp kd vl).2.2.2.2) ro fr nm dr) := hD
    refine lv_aload_n hx hb dX3_assign_43 rfl (lv_at hl 1 rfl) ?_
    refine va_get (D := (dC, dI)) (ci := 3) (v := .ref m3) (C := RX3) (T := TX3) (N := 11) hx hb hts iX3 hown hK hP 0 rfl rfl 5 (by decide) l16 (fun _ h9 => h9) rfl dX3_assign_44 ?_
    refine lv_aload_n hx hb dX3_assign_47 rfl (lv_at hl 1 rfl) ?_
    refine va_get (D := (dC, dI)) (ci := 3) (v := .int (nI ((dropF (kp (nI w) 0) co 0 0 ofs grp kd vl).1))) (C := RX3) (T := TX3) (N := 11) hx hb hts iX3 hown hK hP 0 rfl rfl 2 (by decide) l38 (fun _ h9 => h9) rfl dX3_assign_48 ?_
    refine lv_iload_n hx hb dX3_assign_51 rfl (lv_at hl 3 rfl) ?_
    refine mv_iast hx hb hK hP hD hS 3 0 rfl rfl (k := (dropF (kp (nI w) 0) co 0 0 ofs grp kd vl).1) (rfl) (by have := dropF_le (keep := kp (nI w) 0) (n := co) (k := 0) (j := 0) (ofs := ofs) (grp := grp) (kd := kd) (vl := vl); omega) (by decide) (f' := upd ((dropF (kp (nI w) 0) co 0 0 ofs grp kd vl).2.2.2.1) ((dropF (kp (nI w) 0) co 0 0 ofs grp kd vl).1) k) (rfl) dX3_assign_52 (fun H locs hP hD hS => ?_)
    have hP : va_P (dC, dI) vwCl (wM cI m0 m1 m2 m3 m4 m5 m6 th gr ((dropF (kp (nI w) 0) co 0 0 ofs grp kd vl).1) (va_up ((dropF (kp (nI w) 0) co 0 0 ofs grp kd vl).2.1) ((dropF (kp (nI w) 0) co 0 0 ofs grp kd vl).1) w) (va_up ((dropF (kp (nI w) 0) co 0 0 ofs grp kd vl).2.2.1) ((dropF (kp (nI w) 0) co 0 0 ofs grp kd vl).1) 0) (upd ((dropF (kp (nI w) 0) co 0 0 ofs grp kd vl).2.2.2.1) ((dropF (kp (nI w) 0) co 0 0 ofs grp kd vl).1) k) ((dropF (kp (nI w) 0) co 0 0 ofs grp kd vl).2.2.2.2) ro fr nm dr) _ := hP
    have hD : va_D A (wM cI m0 m1 m2 m3 m4 m5 m6 th gr ((dropF (kp (nI w) 0) co 0 0 ofs grp kd vl).1) (va_up ((dropF (kp (nI w) 0) co 0 0 ofs grp kd vl).2.1) ((dropF (kp (nI w) 0) co 0 0 ofs grp kd vl).1) w) (va_up ((dropF (kp (nI w) 0) co 0 0 ofs grp kd vl).2.2.1) ((dropF (kp (nI w) 0) co 0 0 ofs grp kd vl).1) 0) (upd ((dropF (kp (nI w) 0) co 0 0 ofs grp kd vl).2.2.2.1) ((dropF (kp (nI w) 0) co 0 0 ofs grp kd vl).1) k) ((dropF (kp (nI w) 0) co 0 0 ofs grp kd vl).2.2.2.2) ro fr nm dr) := hD
    refine lv_aload_n hx hb dX3_assign_53 rfl (lv_at hl 1 rfl) ?_
    refine va_get (D := (dC, dI)) (ci := 3) (v := .ref m4) (C := RX3) (T := TX3) (N := 11) hx hb hts iX3 hown hK hP 0 rfl rfl 6 (by decide) l19 (fun _ h9 => h9) rfl dX3_assign_54 ?_
    refine lv_aload_n hx hb dX3_assign_57 rfl (lv_at hl 1 rfl) ?_
    refine va_get (D := (dC, dI)) (ci := 3) (v := .int (nI ((dropF (kp (nI w) 0) co 0 0 ofs grp kd vl).1))) (C := RX3) (T := TX3) (N := 11) hx hb hts iX3 hown hK hP 0 rfl rfl 2 (by decide) l38 (fun _ h9 => h9) rfl dX3_assign_58 ?_
    refine lv_iload_n hx hb dX3_assign_61 rfl (lv_at hl 4 rfl) ?_
    refine mv_iast hx hb hK hP hD hS 4 0 rfl rfl (k := (dropF (kp (nI w) 0) co 0 0 ofs grp kd vl).1) (rfl) (by have := dropF_le (keep := kp (nI w) 0) (n := co) (k := 0) (j := 0) (ofs := ofs) (grp := grp) (kd := kd) (vl := vl); omega) (by decide) (f' := upd ((dropF (kp (nI w) 0) co 0 0 ofs grp kd vl).2.2.2.2) ((dropF (kp (nI w) 0) co 0 0 ofs grp kd vl).1) v) (rfl) dX3_assign_62 (fun H locs hP hD hS => ?_)
    have hP : va_P (dC, dI) vwCl (wM cI m0 m1 m2 m3 m4 m5 m6 th gr ((dropF (kp (nI w) 0) co 0 0 ofs grp kd vl).1) (va_up ((dropF (kp (nI w) 0) co 0 0 ofs grp kd vl).2.1) ((dropF (kp (nI w) 0) co 0 0 ofs grp kd vl).1) w) (va_up ((dropF (kp (nI w) 0) co 0 0 ofs grp kd vl).2.2.1) ((dropF (kp (nI w) 0) co 0 0 ofs grp kd vl).1) 0) (upd ((dropF (kp (nI w) 0) co 0 0 ofs grp kd vl).2.2.2.1) ((dropF (kp (nI w) 0) co 0 0 ofs grp kd vl).1) k) (upd ((dropF (kp (nI w) 0) co 0 0 ofs grp kd vl).2.2.2.2) ((dropF (kp (nI w) 0) co 0 0 ofs grp kd vl).1) v) ro fr nm dr) _ := hP
    have hD : va_D A (wM cI m0 m1 m2 m3 m4 m5 m6 th gr ((dropF (kp (nI w) 0) co 0 0 ofs grp kd vl).1) (va_up ((dropF (kp (nI w) 0) co 0 0 ofs grp kd vl).2.1) ((dropF (kp (nI w) 0) co 0 0 ofs grp kd vl).1) w) (va_up ((dropF (kp (nI w) 0) co 0 0 ofs grp kd vl).2.2.1) ((dropF (kp (nI w) 0) co 0 0 ofs grp kd vl).1) 0) (upd ((dropF (kp (nI w) 0) co 0 0 ofs grp kd vl).2.2.2.1) ((dropF (kp (nI w) 0) co 0 0 ofs grp kd vl).1) k) (upd ((dropF (kp (nI w) 0) co 0 0 ofs grp kd vl).2.2.2.2) ((dropF (kp (nI w) 0) co 0 0 ofs grp kd vl).1) v) ro fr nm dr) := hD
    refine lv_aload_n hx hb dX3_assign_63 rfl (lv_at hl 1 rfl) ?_
    refine lv_dup hx hb dX3_assign_64 rfl ?_
    refine va_get (D := (dC, dI)) (ci := 3) (v := .int (nI ((dropF (kp (nI w) 0) co 0 0 ofs grp kd vl).1))) (C := RX3) (T := TX3) (N := 11) hx hb hts iX3 hown hK hP 0 rfl rfl 2 (by decide) l38 (fun _ h9 => h9) rfl dX3_assign_65 ?_
    refine lv_iconst (v := 1) hx hb dX3_assign_68 (by decide) ?_
    refine lv_iadd hx hb dX3_assign_69 ?_
    refine mv_top (v := nI (((dropF (kp (nI w) 0) co 0 0 ofs grp kd vl).1) + 1)) (nI_1 ((dropF (kp (nI w) 0) co 0 0 ofs grp kd vl).1)) ?_
    refine va_put (D := (dC, dI)) (ci := 3) (v := .int (nI (((dropF (kp (nI w) 0) co 0 0 ofs grp kd vl).1) + 1))) (ty := .int) (C := RX3) (T := TX3) (N := 11) hx hb hts iX3 tyX3 tyX3_ok nmX3 hown hK hP hD hS 0 rfl rfl 2 (by decide) l38 (fun _ h9 => h9) rfl (by decide +kernel) rfl rfl (Nat.le_of_ble_eq_true rfl) dX3_assign_70 (fun H locs hP hD hS => ?_)
    have hP : va_P (dC, dI) vwCl (wM cI m0 m1 m2 m3 m4 m5 m6 th gr (((dropF (kp (nI w) 0) co 0 0 ofs grp kd vl).1) + 1) (va_up ((dropF (kp (nI w) 0) co 0 0 ofs grp kd vl).2.1) ((dropF (kp (nI w) 0) co 0 0 ofs grp kd vl).1) w) (va_up ((dropF (kp (nI w) 0) co 0 0 ofs grp kd vl).2.2.1) ((dropF (kp (nI w) 0) co 0 0 ofs grp kd vl).1) 0) (upd ((dropF (kp (nI w) 0) co 0 0 ofs grp kd vl).2.2.2.1) ((dropF (kp (nI w) 0) co 0 0 ofs grp kd vl).1) k) (upd ((dropF (kp (nI w) 0) co 0 0 ofs grp kd vl).2.2.2.2) ((dropF (kp (nI w) 0) co 0 0 ofs grp kd vl).1) v) ro fr nm dr) _ := hP
    have hD : va_D A (wM cI m0 m1 m2 m3 m4 m5 m6 th gr (((dropF (kp (nI w) 0) co 0 0 ofs grp kd vl).1) + 1) (va_up ((dropF (kp (nI w) 0) co 0 0 ofs grp kd vl).2.1) ((dropF (kp (nI w) 0) co 0 0 ofs grp kd vl).1) w) (va_up ((dropF (kp (nI w) 0) co 0 0 ofs grp kd vl).2.2.1) ((dropF (kp (nI w) 0) co 0 0 ofs grp kd vl).1) 0) (upd ((dropF (kp (nI w) 0) co 0 0 ofs grp kd vl).2.2.2.1) ((dropF (kp (nI w) 0) co 0 0 ofs grp kd vl).1) k) (upd ((dropF (kp (nI w) 0) co 0 0 ofs grp kd vl).2.2.2.2) ((dropF (kp (nI w) 0) co 0 0 ofs grp kd vl).1) v) ro fr nm dr) := hD
    exact hret ((((dropF (kp (nI w) 0) co 0 0 ofs grp kd vl).1) + 1, va_up ((dropF (kp (nI w) 0) co 0 0 ofs grp kd vl).2.1) ((dropF (kp (nI w) 0) co 0 0 ofs grp kd vl).1) w, va_up ((dropF (kp (nI w) 0) co 0 0 ofs grp kd vl).2.2.1) ((dropF (kp (nI w) 0) co 0 0 ofs grp kd vl).1) 0, upd ((dropF (kp (nI w) 0) co 0 0 ofs grp kd vl).2.2.2.1) ((dropF (kp (nI w) 0) co 0 0 ofs grp kd vl).1) k, upd ((dropF (kp (nI w) 0) co 0 0 ofs grp kd vl).2.2.2.2) ((dropF (kp (nI w) 0) co 0 0 ofs grp kd vl).1) v)) (by unfold asgM; rw [if_neg c2]) hP hD hS dX3_assign_73
