set_option maxHeartbeats 4000000 in
set_option maxRecDepth 100000 in
theorem c_X2_define (l : Launch) (dC : Nat → ClassId) (dI : Nat → Nat → Nat) (g0 r0 p0 : Nat) (cI : ClassId) (p1 p2 p3 p4 p5 p6 : Nat) (ki va : Nat → Int32) (sp sg : Nat → Nat) (sk sv : Nat → Int32) (sc og r1 r2 r3 r4 : Nat) (nu : Nat → Int32) (st le : Nat → Nat) (te : Nat → Int32) (ma ds dl : Nat) (ke : Int32) (x g : Int32) (hl0 : l.stackTraces = false) (hm : ma ≤ 513) (hsc : sc ≤ 512) (hog : og < 2 ^ 31) (hsg : ∀ j, j < sc → sg j < 2 ^ 31) (hsp : ∀ j, j < sc → sp j < 3367) (hd : ds + dl ≤ 512) : mXi l yX2_define wsX2_define ({ frames := 6, cells := 1, slots := 6, locals := 111 }) (dC, dI) cI [.ref g0, .int x, .int g] (wG g0 r0 p0 ++ (wP cI r0 p0 p1 p2 p3 p4 p5 p6 ki va sp sg sk sv sc og ++ wR cI r0 r1 r2 r3 r4 nu st le te ma ds dl ke)) (fun r u => isR 1000 x = true ∧ r = (dDefine x g (ki, va, sp, sg, sk, sv, sc, og, nu, st, le, te, ma, ds, dl, ke)).1 ∧ u = (dDefine x g (ki, va, sp, sg, sk, sv, sc, og, nu, st, le, te, ma, ds, dl, ke)).2) (fun u : DS => wG g0 r0 p0 ++ (wP cI r0 p0 p1 p2 p3 p4 p5 p6 u.1 u.2.1 u.2.2.1 u.2.2.2.1 u.2.2.2.2.1 u.2.2.2.2.2.1 u.2.2.2.2.2.2.1 u.2.2.2.2.2.2.2.1 ++ wR cI r0 r1 r2 r3 r4 u.2.2.2.2.2.2.2.2.1 u.2.2.2.2.2.2.2.2.2.1 u.2.2.2.2.2.2.2.2.2.2.1 u.2.2.2.2.2.2.2.2.2.2.2.1 u.2.2.2.2.2.2.2.2.2.2.2.2.1 u.2.2.2.2.2.2.2.2.2.2.2.2.2.1 u.2.2.2.2.2.2.2.2.2.2.2.2.2.2.1 u.2.2.2.2.2.2.2.2.2.2.2.2.2.2.2)) (isR 1000 x = false) := by
  refine m_ofXi hl0 (cc := cX2_define) (maxL := 4) (by decide) rfl rfl (Nat.le_of_ble_eq_true rfl) rfl rfl (Nat.le_of_ble_eq_true rfl) (Nat.le_of_ble_eq_true rfl) (by decide +kernel) (by decide +kernel) (fun w h => List.mem_cons_of_mem _ (List.mem_append_right _ h)) ?_
  intro p e s m args below meth c ls A Q hx hb hts hown hml hP hK hD hA hS hl hret hxs hthr
  have hown : s.vm.findClass RX2 = some m.cls := hown
  have hl : lv_has ls 4 [(0, .ref g0), (1, .int x), (2, .int g)] := hl
  have l12 := hts (.fieldLink RX2 12 "GroupDesk" "rows" "LGroupDesk$Rows;") (by decide +kernel)
  have l21 := hts (.fieldLink RX2 21 "GroupDesk" "places" "LGroupDesk$Places;") (by decide +kernel)
  have iX2 : ∀ w ∈ u_ws RX2 TX2 2, w ∈ wsX2_define := by decide +kernel
  refine lv_iload_n hx hb dX2_define_0 rfl (lv_at hl 1 rfl) ?_
  refine m_rS (As := [.int x]) (rest := []) ⟨hx, hb, hml, hown, hts⟩ (c_X2_isName l dC dI cI x) (va_cwS 1 hts gX2_define_X2_isName rfl rfl rfl (by decide +kernel) ⟨Nat.le_of_ble_eq_true rfl, Nat.le_of_ble_eq_true rfl⟩) ma_nil hK rfl hl.1 rfl (Nat.le_of_ble_eq_true rfl) dX2_define_1 ⟨Nat.zero_le _, Nat.zero_le _⟩ (fun r hw => ?_)
  subst hw
  refine lv_if_ne (tgt := 17) hx hb dX2_define_4 (by decide) (fun c4 => ?_) (fun c4 => ?_)
  · have hj := b2i_n c4
    have hix := isR_of (by decide) hj
    have h7 := hix.1
    refine lv_aload_n hx hb dX2_define_17 rfl (lv_at hl 0 rfl) ?_
    refine va_get (D := (dC, dI)) (ci := 2) (v := .ref r0) (C := RX2) (T := TX2) (N := 2) hx hb hts iX2 hown hK hP 0 rfl rfl 0 (by decide) l12 (fun _ h9 => h9) rfl dX2_define_18 ?_
    have hP : va_P (dC, dI) vwCl ((wG g0 r0 p0 ++ wP cI r0 p0 p1 p2 p3 p4 p5 p6 ki va sp sg sk sv sc og) ++ (wR cI r0 r1 r2 r3 r4 nu st le te ma ds dl ke)) _ := hP
    have hD : va_D A ((wG g0 r0 p0 ++ wP cI r0 p0 p1 p2 p3 p4 p5 p6 ki va sp sg sk sv sc og) ++ (wR cI r0 r1 r2 r3 r4 nu st le te ma ds dl ke)) := hD
    refine m_wVi (As := []) (rest := []) ⟨hx, hb, hml, hown, hts⟩ (c_X1_takeDraft l dC dI cI r0 r1 r2 r3 r4 nu st le te ma ds dl ke hm hd) (cwV 0 hts gX2_define_X1_takeDraft rfl rfl rfl (by decide +kernel) ⟨Nat.le_of_ble_eq_true rfl, Nat.le_of_ble_eq_true rfl⟩) hP hK hD hS hA 1 0 rfl rfl rfl hl.1 rfl (Nat.le_of_ble_eq_true rfl) dX2_define_21 ⟨Nat.zero_le _, Nat.zero_le _⟩ (fun r u H locs hw hP hD hS => ?_)
    obtain ⟨rfl, rfl⟩ := hw
    have hP : va_P (dC, dI) vwCl (wG g0 r0 p0 ++ (wP cI r0 p0 p1 p2 p3 p4 p5 p6 ki va sp sg sk sv sc og ++ wR cI r0 r1 r2 r3 r4 nu ((takeF st le ma ds dl).2.1) ((takeF st le ma ds dl).2.2.1) te ((takeF st le ma ds dl).2.2.2.1) ((takeF st le ma ds dl).2.2.2.2.1) ((takeF st le ma ds dl).2.2.2.2.2) ke)) _ := hP
    have hD : va_D A (wG g0 r0 p0 ++ (wP cI r0 p0 p1 p2 p3 p4 p5 p6 ki va sp sg sk sv sc og ++ wR cI r0 r1 r2 r3 r4 nu ((takeF st le ma ds dl).2.1) ((takeF st le ma ds dl).2.2.1) te ((takeF st le ma ds dl).2.2.2.1) ((takeF st le ma ds dl).2.2.2.2.1) ((takeF st le ma ds dl).2.2.2.2.2) ke)) := hD
    refine lv_istore_n (lv' := [(3, .int ((takeF st le ma ds dl).1)), (0, .ref g0), (1, .int x), (2, .int g)]) hx hb dX2_define_24 rfl hl (by decide) rfl (fun ls hl => ?_)
    refine lv_aload_n hx hb dX2_define_25 rfl (lv_at hl 1 rfl) ?_
    refine va_get (D := (dC, dI)) (ci := 2) (v := .ref p0) (C := RX2) (T := TX2) (N := 2) hx hb hts iX2 hown hK hP 0 rfl rfl 1 (by decide) l21 (fun _ h9 => h9) rfl dX2_define_26 ?_
    refine lv_sipush (v := nI 2366) hx hb dX2_define_29 (by decide) ?_
    refine lv_iload_n hx hb dX2_define_32 rfl (lv_at hl 2 rfl) ?_
    refine lv_iadd hx hb dX2_define_33 ?_
    refine mv_top (v := nI (2366 + rj x)) (by rw [hix.2, rj_nI (by have := hix.1; omega)]; exact nI_add 2366 _) ?_
    refine lv_iconst (v := 3) hx hb dX2_define_34 (by decide) ?_
    refine lv_iload_n hx hb dX2_define_35 rfl (lv_at hl 0 rfl) ?_
    refine lv_iload_n hx hb dX2_define_36 rfl (lv_at hl 3 rfl) ?_
    have hP : va_P (dC, dI) vwCl ((wG g0 r0 p0) ++ (wP cI r0 p0 p1 p2 p3 p4 p5 p6 ki va sp sg sk sv sc og ++ wR cI r0 r1 r2 r3 r4 nu ((takeF st le ma ds dl).2.1) ((takeF st le ma ds dl).2.2.1) te ((takeF st le ma ds dl).2.2.2.1) ((takeF st le ma ds dl).2.2.2.2.1) ((takeF st le ma ds dl).2.2.2.2.2) ke)) _ := hP
    have hD : va_D A ((wG g0 r0 p0) ++ (wP cI r0 p0 p1 p2 p3 p4 p5 p6 ki va sp sg sk sv sc og ++ wR cI r0 r1 r2 r3 r4 nu ((takeF st le ma ds dl).2.1) ((takeF st le ma ds dl).2.2.1) te ((takeF st le ma ds dl).2.2.2.1) ((takeF st le ma ds dl).2.2.2.2.1) ((takeF st le ma ds dl).2.2.2.2.2) ke)) := hD
    refine m_wVv (As := [.int (nI (2366 + rj x)), .int 3, .int ((takeF st le ma ds dl).1), .int g]) (rest := []) ⟨hx, hb, hml, hown, hts⟩ (c_X0_assign l dC dI cI r0 p0 p1 p2 p3 p4 p5 p6 ki va sp sg sk sv sc og r1 r2 r3 r4 nu ((takeF st le ma ds dl).2.1) ((takeF st le ma ds dl).2.2.1) te ((takeF st le ma ds dl).2.2.2.1) ((takeF st le ma ds dl).2.2.2.2.1) ((takeF st le ma ds dl).2.2.2.2.2) ke (2366 + rj x) 3 ((takeF st le ma ds dl).1) g (takeF_ma hm) (by omega) hsc hog hsg (fun j h => Nat.lt_trans (hsp j h) (by decide))) (cwV 4 hts gX2_define_X0_assign rfl rfl rfl (by decide +kernel) ⟨Nat.le_of_ble_eq_true rfl, Nat.le_of_ble_eq_true rfl⟩) hP hK hD hS hA 0 0 rfl rfl rfl hl.1 rfl (Nat.le_of_ble_eq_true rfl) dX2_define_37 ⟨Nat.zero_le _, Nat.zero_le _⟩ (fun u H locs hw hP hD hS => ?_)
    subst hw
    have hP : va_P (dC, dI) vwCl (wG g0 r0 p0 ++ (wP cI r0 p0 p1 p2 p3 p4 p5 p6 ((assignF ((takeF st le ma ds dl).2.2.2.1) ((takeF st le ma ds dl).2.2.1) (2366 + rj x) 3 ((takeF st le ma ds dl).1) g ki va sp sg sk sv sc og te ke).1) ((assignF ((takeF st le ma ds dl).2.2.2.1) ((takeF st le ma ds dl).2.2.1) (2366 + rj x) 3 ((takeF st le ma ds dl).1) g ki va sp sg sk sv sc og te ke).2.1) ((assignF ((takeF st le ma ds dl).2.2.2.1) ((takeF st le ma ds dl).2.2.1) (2366 + rj x) 3 ((takeF st le ma ds dl).1) g ki va sp sg sk sv sc og te ke).2.2.1) ((assignF ((takeF st le ma ds dl).2.2.2.1) ((takeF st le ma ds dl).2.2.1) (2366 + rj x) 3 ((takeF st le ma ds dl).1) g ki va sp sg sk sv sc og te ke).2.2.2.1) ((assignF ((takeF st le ma ds dl).2.2.2.1) ((takeF st le ma ds dl).2.2.1) (2366 + rj x) 3 ((takeF st le ma ds dl).1) g ki va sp sg sk sv sc og te ke).2.2.2.2.1) ((assignF ((takeF st le ma ds dl).2.2.2.1) ((takeF st le ma ds dl).2.2.1) (2366 + rj x) 3 ((takeF st le ma ds dl).1) g ki va sp sg sk sv sc og te ke).2.2.2.2.2.1) ((assignF ((takeF st le ma ds dl).2.2.2.1) ((takeF st le ma ds dl).2.2.1) (2366 + rj x) 3 ((takeF st le ma ds dl).1) g ki va sp sg sk sv sc og te ke).2.2.2.2.2.2.1) og ++ wR cI r0 r1 r2 r3 r4 nu ((takeF st le ma ds dl).2.1) ((takeF st le ma ds dl).2.2.1) ((assignF ((takeF st le ma ds dl).2.2.2.1) ((takeF st le ma ds dl).2.2.1) (2366 + rj x) 3 ((takeF st le ma ds dl).1) g ki va sp sg sk sv sc og te ke).2.2.2.2.2.2.2.1) ((takeF st le ma ds dl).2.2.2.1) ((takeF st le ma ds dl).2.2.2.2.1) ((takeF st le ma ds dl).2.2.2.2.2) ((assignF ((takeF st le ma ds dl).2.2.2.1) ((takeF st le ma ds dl).2.2.1) (2366 + rj x) 3 ((takeF st le ma ds dl).1) g ki va sp sg sk sv sc og te ke).2.2.2.2.2.2.2.2))) _ := hP
    have hD : va_D A (wG g0 r0 p0 ++ (wP cI r0 p0 p1 p2 p3 p4 p5 p6 ((assignF ((takeF st le ma ds dl).2.2.2.1) ((takeF st le ma ds dl).2.2.1) (2366 + rj x) 3 ((takeF st le ma ds dl).1) g ki va sp sg sk sv sc og te ke).1) ((assignF ((takeF st le ma ds dl).2.2.2.1) ((takeF st le ma ds dl).2.2.1) (2366 + rj x) 3 ((takeF st le ma ds dl).1) g ki va sp sg sk sv sc og te ke).2.1) ((assignF ((takeF st le ma ds dl).2.2.2.1) ((takeF st le ma ds dl).2.2.1) (2366 + rj x) 3 ((takeF st le ma ds dl).1) g ki va sp sg sk sv sc og te ke).2.2.1) ((assignF ((takeF st le ma ds dl).2.2.2.1) ((takeF st le ma ds dl).2.2.1) (2366 + rj x) 3 ((takeF st le ma ds dl).1) g ki va sp sg sk sv sc og te ke).2.2.2.1) ((assignF ((takeF st le ma ds dl).2.2.2.1) ((takeF st le ma ds dl).2.2.1) (2366 + rj x) 3 ((takeF st le ma ds dl).1) g ki va sp sg sk sv sc og te ke).2.2.2.2.1) ((assignF ((takeF st le ma ds dl).2.2.2.1) ((takeF st le ma ds dl).2.2.1) (2366 + rj x) 3 ((takeF st le ma ds dl).1) g ki va sp sg sk sv sc og te ke).2.2.2.2.2.1) ((assignF ((takeF st le ma ds dl).2.2.2.1) ((takeF st le ma ds dl).2.2.1) (2366 + rj x) 3 ((takeF st le ma ds dl).1) g ki va sp sg sk sv sc og te ke).2.2.2.2.2.2.1) og ++ wR cI r0 r1 r2 r3 r4 nu ((takeF st le ma ds dl).2.1) ((takeF st le ma ds dl).2.2.1) ((assignF ((takeF st le ma ds dl).2.2.2.1) ((takeF st le ma ds dl).2.2.1) (2366 + rj x) 3 ((takeF st le ma ds dl).1) g ki va sp sg sk sv sc og te ke).2.2.2.2.2.2.2.1) ((takeF st le ma ds dl).2.2.2.1) ((takeF st le ma ds dl).2.2.2.2.1) ((takeF st le ma ds dl).2.2.2.2.2) ((assignF ((takeF st le ma ds dl).2.2.2.1) ((takeF st le ma ds dl).2.2.1) (2366 + rj x) 3 ((takeF st le ma ds dl).1) g ki va sp sg sk sv sc og te ke).2.2.2.2.2.2.2.2))) := hD
    refine lv_aload_n hx hb dX2_define_40 rfl (lv_at hl 1 rfl) ?_
    refine va_get (D := (dC, dI)) (ci := 2) (v := .ref r0) (C := RX2) (T := TX2) (N := 2) hx hb hts iX2 hown hK hP 0 rfl rfl 0 (by decide) l12 (fun _ h9 => h9) rfl dX2_define_41 ?_
    refine lv_iload_n hx hb dX2_define_44 rfl (lv_at hl 0 rfl) ?_
    refine m_rV (As := [.int ((takeF st le ma ds dl).1)]) (rest := []) ⟨hx, hb, hml, hown, hts⟩ (c_X1_lengthOf l dC dI cI r0 r1 r2 r3 r4 nu ((takeF st le ma ds dl).2.1) ((takeF st le ma ds dl).2.2.1) ((assignF ((takeF st le ma ds dl).2.2.2.1) ((takeF st le ma ds dl).2.2.1) (2366 + rj x) 3 ((takeF st le ma ds dl).1) g ki va sp sg sk sv sc og te ke).2.2.2.2.2.2.2.1) ((takeF st le ma ds dl).2.2.2.1) ((takeF st le ma ds dl).2.2.2.2.1) ((takeF st le ma ds dl).2.2.2.2.2) ((assignF ((takeF st le ma ds dl).2.2.2.1) ((takeF st le ma ds dl).2.2.1) (2366 + rj x) 3 ((takeF st le ma ds dl).1) g ki va sp sg sk sv sc og te ke).2.2.2.2.2.2.2.2) ((takeF st le ma ds dl).1) (takeF_ma hm)) (cwV 1 hts gX2_define_X1_lengthOf rfl rfl rfl (by decide +kernel) ⟨Nat.le_of_ble_eq_true rfl, Nat.le_of_ble_eq_true rfl⟩) (ma_P (ma_P hP)) hK 1 0 rfl rfl rfl hl.1 rfl (Nat.le_of_ble_eq_true rfl) dX2_define_45 ⟨Nat.zero_le _, Nat.zero_le _⟩ (fun r hw => ?_)
    subst hw
    exact hret (lenR ((takeF st le ma ds dl).2.2.2.1) ((takeF st le ma ds dl).2.2.1) ((takeF st le ma ds dl).1)) (((assignF ((takeF st le ma ds dl).2.2.2.1) ((takeF st le ma ds dl).2.2.1) (2366 + rj x) 3 ((takeF st le ma ds dl).1) g ki va sp sg sk sv sc og te ke).1, (assignF ((takeF st le ma ds dl).2.2.2.1) ((takeF st le ma ds dl).2.2.1) (2366 + rj x) 3 ((takeF st le ma ds dl).1) g ki va sp sg sk sv sc og te ke).2.1, (assignF ((takeF st le ma ds dl).2.2.2.1) ((takeF st le ma ds dl).2.2.1) (2366 + rj x) 3 ((takeF st le ma ds dl).1) g ki va sp sg sk sv sc og te ke).2.2.1, (assignF ((takeF st le ma ds dl).2.2.2.1) ((takeF st le ma ds dl).2.2.1) (2366 + rj x) 3 ((takeF st le ma ds dl).1) g ki va sp sg sk sv sc og te ke).2.2.2.1, (assignF ((takeF st le ma ds dl).2.2.2.1) ((takeF st le ma ds dl).2.2.1) (2366 + rj x) 3 ((takeF st le ma ds dl).1) g ki va sp sg sk sv sc og te ke).2.2.2.2.1, (assignF ((takeF st le ma ds dl).2.2.2.1) ((takeF st le ma ds dl).2.2.1) (2366 + rj x) 3 ((takeF st le ma ds dl).1) g ki va sp sg sk sv sc og te ke).2.2.2.2.2.1, (assignF ((takeF st le ma ds dl).2.2.2.1) ((takeF st le ma ds dl).2.2.1) (2366 + rj x) 3 ((takeF st le ma ds dl).1) g ki va sp sg sk sv sc og te ke).2.2.2.2.2.2.1, og, nu, (takeF st le ma ds dl).2.1, (takeF st le ma ds dl).2.2.1, (assignF ((takeF st le ma ds dl).2.2.2.1) ((takeF st le ma ds dl).2.2.1) (2366 + rj x) 3 ((takeF st le ma ds dl).1) g ki va sp sg sk sv sc og te ke).2.2.2.2.2.2.2.1, (takeF st le ma ds dl).2.2.2.1, (takeF st le ma ds dl).2.2.2.2.1, (takeF st le ma ds dl).2.2.2.2.2, (assignF ((takeF st le ma ds dl).2.2.2.1) ((takeF st le ma ds dl).2.2.1) (2366 + rj x) 3 ((takeF st le ma ds dl).1) g ki va sp sg sk sv sc og te ke).2.2.2.2.2.2.2.2)) (rfl) (⟨hj, rfl, rfl⟩) hP hD hS dX2_define_48
  · have hj := b2i_0 c4
    obtain ⟨sa, hsa⟩ := hxs.1
    exact hthr 51 sa "no such name" (hj) hsa hl.1 (Nat.le_of_ble_eq_true rfl) dX2_define_7 dX2_define_10 dX2_define_11 dX2_define_13 dX2_define_16
set_option maxHeartbeats 4000000 in
set_option maxRecDepth 100000 in
theorem c_X2_get (l : Launch) (dC : Nat → ClassId) (dI : Nat → Nat → Nat) (g0 r0 p0 : Nat) (cI : ClassId) (p1 p2 p3 p4 p5 p6 : Nat) (ki va : Nat → Int32) (sp sg : Nat → Nat) (sk sv : Nat → Int32) (sc og r1 r2 r3 r4 : Nat) (nu : Nat → Int32) (st le : Nat → Nat) (te : Nat → Int32) (ma ds dl : Nat) (ke : Int32) (x : Int32) (hl0 : l.stackTraces = false) : mXi l yX2_get wsX2_get ({ frames := 6, cells := 1, slots := 6, locals := 91 }) (dC, dI) cI [.ref g0, .int x] (wG g0 r0 p0 ++ (wP cI r0 p0 p1 p2 p3 p4 p5 p6 ki va sp sg sk sv sc og ++ wR cI r0 r1 r2 r3 r4 nu st le te ma ds dl ke)) (fun r _ => isR 2366 x = true ∧ r = dGet x (ki, va, sp, sg, sk, sv, sc, og, nu, st, le, te, ma, ds, dl, ke)) (fun u : Unit => wG g0 r0 p0 ++ (wP cI r0 p0 p1 p2 p3 p4 p5 p6 ki va sp sg sk sv sc og ++ wR cI r0 r1 r2 r3 r4 nu st le te ma ds dl ke)) (isR 2366 x = false) := by
  refine m_ofXi hl0 (cc := cX2_get) (maxL := 2) (by decide) rfl rfl (Nat.le_of_ble_eq_true rfl) rfl rfl (Nat.le_of_ble_eq_true rfl) (Nat.le_of_ble_eq_true rfl) (by decide +kernel) (by decide +kernel) (fun w h => List.mem_cons_of_mem _ (List.mem_append_right _ h)) ?_
  intro p e s m args below meth c ls A Q hx hb hts hown hml hP hK hD hA hS hl hret hxs hthr
  have hown : s.vm.findClass RX2 = some m.cls := hown
  have hl : lv_has ls 2 [(0, .ref g0), (1, .int x)] := hl
  have l21 := hts (.fieldLink RX2 21 "GroupDesk" "places" "LGroupDesk$Places;") (by decide +kernel)
  have iX2 : ∀ w ∈ u_ws RX2 TX2 2, w ∈ wsX2_get := by decide +kernel
  refine lv_iload_n hx hb dX2_get_0 rfl (lv_at hl 1 rfl) ?_
  refine m_rS (As := [.int x]) (rest := []) ⟨hx, hb, hml, hown, hts⟩ (c_X2_isCell l dC dI cI x) (va_cwS 1 hts gX2_get_X2_isCell rfl rfl rfl (by decide +kernel) ⟨Nat.le_of_ble_eq_true rfl, Nat.le_of_ble_eq_true rfl⟩) ma_nil hK rfl hl.1 rfl (Nat.le_of_ble_eq_true rfl) dX2_get_1 ⟨Nat.zero_le _, Nat.zero_le _⟩ (fun r hw => ?_)
  subst hw
  refine lv_if_ne (tgt := 17) hx hb dX2_get_4 (by decide) (fun c4 => ?_) (fun c4 => ?_)
  · have hj := b2i_n c4
    have hix := isR_of (by decide) hj
    have h7 := hix.1
    refine lv_aload_n hx hb dX2_get_17 rfl (lv_at hl 0 rfl) ?_
    refine va_get (D := (dC, dI)) (ci := 2) (v := .ref p0) (C := RX2) (T := TX2) (N := 2) hx hb hts iX2 hown hK hP 0 rfl rfl 1 (by decide) l21 (fun _ h9 => h9) rfl dX2_get_18 ?_
    refine lv_iload_n hx hb dX2_get_21 rfl (lv_at hl 1 rfl) ?_
    refine mv_top (v := nI (rj x)) (hix.2) ?_
    refine m_rV (As := [.int (nI (rj x))]) (rest := []) ⟨hx, hb, hml, hown, hts⟩ (c_X0_valueAt l dC dI cI r0 p0 p1 p2 p3 p4 p5 p6 ki va sp sg sk sv sc og (nI (rj x))) (cwV 1 hts gX2_get_X0_valueAt rfl rfl rfl (by decide +kernel) ⟨Nat.le_of_ble_eq_true rfl, Nat.le_of_ble_eq_true rfl⟩) (ma_Pl (ma_P hP)) hK 0 0 rfl rfl rfl hl.1 rfl (Nat.le_of_ble_eq_true rfl) dX2_get_22 ⟨Nat.zero_le _, Nat.zero_le _⟩ (fun r hw => ?_)
    subst hw
    refine mv_top (v := va (rj x)) (atP_nI _ (by omega)) ?_
    exact hret (va (rj x)) (()) (rfl) (⟨hj, rfl⟩) hP hD hS dX2_get_25
  · have hj := b2i_0 c4
    obtain ⟨sa, hsa⟩ := hxs.2.1
    exact hthr 70 sa "no such cell" (hj) hsa hl.1 (Nat.le_of_ble_eq_true rfl) dX2_get_7 dX2_get_10 dX2_get_11 dX2_get_13 dX2_get_16
set_option maxHeartbeats 4000000 in
set_option maxRecDepth 100000 in
theorem c_X2_about (l : Launch) (dC : Nat → ClassId) (dI : Nat → Nat → Nat) (g0 r0 p0 : Nat) (cI : ClassId) (p1 p2 p3 p4 p5 p6 : Nat) (ki va : Nat → Int32) (sp sg : Nat → Nat) (sk sv : Nat → Int32) (sc og r1 r2 r3 r4 : Nat) (nu : Nat → Int32) (st le : Nat → Nat) (te : Nat → Int32) (ma ds dl : Nat) (ke : Int32) (x y : Int32) (hl0 : l.stackTraces = false) (hm : ma ≤ 513) : mXi l yX2_about wsX2_about ({ frames := 6, cells := 1, slots := 6, locals := 91 }) (dC, dI) cI [.ref g0, .int x, .int y] (wG g0 r0 p0 ++ (wP cI r0 p0 p1 p2 p3 p4 p5 p6 ki va sp sg sk sv sc og ++ wR cI r0 r1 r2 r3 r4 nu st le te ma ds dl ke)) (fun r _ => (isR 1000 x && wOk y) = true ∧ r = dAbout x y (ki, va, sp, sg, sk, sv, sc, og, nu, st, le, te, ma, ds, dl, ke)) (fun u : Unit => wG g0 r0 p0 ++ (wP cI r0 p0 p1 p2 p3 p4 p5 p6 ki va sp sg sk sv sc og ++ wR cI r0 r1 r2 r3 r4 nu st le te ma ds dl ke)) ((isR 1000 x && wOk y) = false) := by
  refine m_ofXi hl0 (cc := cX2_about) (maxL := 5) (by decide) rfl rfl (Nat.le_of_ble_eq_true rfl) rfl rfl (Nat.le_of_ble_eq_true rfl) (Nat.le_of_ble_eq_true rfl) (by decide +kernel) (by decide +kernel) (fun w h => List.mem_cons_of_mem _ (List.mem_append_right _ h)) ?_
  intro p e s m args below meth c ls A Q hx hb hts hown hml hP hK hD hA hS hl hret hxs hthr
  have hown : s.vm.findClass RX2 = some m.cls := hown
  have hl : lv_has ls 5 [(0, .ref g0), (1, .int x), (2, .int y)] := hl
  have l21 := hts (.fieldLink RX2 21 "GroupDesk" "places" "LGroupDesk$Places;") (by decide +kernel)
  have l12 := hts (.fieldLink RX2 12 "GroupDesk" "rows" "LGroupDesk$Rows;") (by decide +kernel)
  have iX2 : ∀ w ∈ u_ws RX2 TX2 2, w ∈ wsX2_about := by decide +kernel
  refine lv_iload_n hx hb dX2_about_0 rfl (lv_at hl 1 rfl) ?_
  refine m_rS (As := [.int x]) (rest := []) ⟨hx, hb, hml, hown, hts⟩ (c_X2_isName l dC dI cI x) (va_cwS 1 hts gX2_about_X2_isName rfl rfl rfl (by decide +kernel) ⟨Nat.le_of_ble_eq_true rfl, Nat.le_of_ble_eq_true rfl⟩) ma_nil hK rfl hl.1 rfl (Nat.le_of_ble_eq_true rfl) dX2_about_1 ⟨Nat.zero_le _, Nat.zero_le _⟩ (fun r hw => ?_)
  subst hw
  refine lv_if_eq (tgt := 16) hx hb dX2_about_4 (by decide) (fun c4 => ?_) (fun c4 => ?_)
  · have hj := b2i_0 c4
    obtain ⟨sa, hsa⟩ := hxs.2.2.1
    exact hthr 72 sa "no such name or what" (by rw [hj, Bool.false_and]) hsa hl.1 (Nat.le_of_ble_eq_true rfl) dX2_about_16 dX2_about_19 dX2_about_20 dX2_about_22 dX2_about_25
  · have hj := b2i_n c4
    have hix := isR_of (by decide) hj
    have h7 := hix.1
    refine lv_iload_n hx hb dX2_about_7 rfl (lv_at hl 2 rfl) ?_
    refine lv_if_lt (tgt := 16) hx hb dX2_about_8 (by decide) (fun c8 => ?_) (fun c8 => ?_)
    · obtain ⟨sa, hsa⟩ := hxs.2.2.1
      exact hthr 72 sa "no such name or what" (by unfold wOk; rw [decide_eq_false (not_not_intro c8), Bool.false_and, Bool.and_false]) hsa hl.1 (Nat.le_of_ble_eq_true rfl) dX2_about_16 dX2_about_19 dX2_about_20 dX2_about_22 dX2_about_25
    · refine lv_iload_n hx hb dX2_about_11 rfl (lv_at hl 2 rfl) ?_
      refine lv_iconst (v := 1) hx hb dX2_about_12 (by decide) ?_
      refine lv_icmp_le (tgt := 26) hx hb dX2_about_13 (by decide) (fun c13 => ?_) (fun c13 => ?_)
      · refine lv_aload_n hx hb dX2_about_26 rfl (lv_at hl 0 rfl) ?_
        refine va_get (D := (dC, dI)) (ci := 2) (v := .ref p0) (C := RX2) (T := TX2) (N := 2) hx hb hts iX2 hown hK hP 0 rfl rfl 1 (by decide) l21 (fun _ h9 => h9) rfl dX2_about_27 ?_
        refine lv_sipush (v := nI 2366) hx hb dX2_about_30 (by decide) ?_
        refine lv_iload_n hx hb dX2_about_33 rfl (lv_at hl 1 rfl) ?_
        refine lv_iadd hx hb dX2_about_34 ?_
        refine mv_top (v := nI (2366 + rj x)) (by rw [hix.2, rj_nI (by have := hix.1; omega)]; exact nI_add 2366 _) ?_
        refine m_rV (As := [.int (nI (2366 + rj x))]) (rest := []) ⟨hx, hb, hml, hown, hts⟩ (c_X0_kindAt l dC dI cI r0 p0 p1 p2 p3 p4 p5 p6 ki va sp sg sk sv sc og (nI (2366 + rj x))) (cwV 1 hts gX2_about_X0_kindAt rfl rfl rfl (by decide +kernel) ⟨Nat.le_of_ble_eq_true rfl, Nat.le_of_ble_eq_true rfl⟩) (ma_Pl (ma_P hP)) hK 0 0 rfl rfl rfl hl.1 rfl (Nat.le_of_ble_eq_true rfl) dX2_about_35 ⟨Nat.zero_le _, Nat.zero_le _⟩ (fun r hw => ?_)
        subst hw
        refine mv_top (v := ki (2366 + rj x)) (atP_nI _ (by omega)) ?_
        refine lv_istore_n (lv' := [(3, .int (ki (2366 + rj x))), (0, .ref g0), (1, .int x), (2, .int y)]) hx hb dX2_about_38 rfl hl (by decide) rfl (fun ls hl => ?_)
        refine lv_iload_n hx hb dX2_about_39 rfl (lv_at hl 3 rfl) ?_
        refine lv_if_ne (tgt := 45) hx hb dX2_about_40 (by decide) (fun c40 => ?_) (fun c40 => ?_)
        · refine lv_aload_n hx hb dX2_about_45 rfl (lv_at hl 1 rfl) ?_
          refine va_get (D := (dC, dI)) (ci := 2) (v := .ref p0) (C := RX2) (T := TX2) (N := 2) hx hb hts iX2 hown hK hP 0 rfl rfl 1 (by decide) l21 (fun _ h9 => h9) rfl dX2_about_46 ?_
          refine lv_sipush (v := nI 2366) hx hb dX2_about_49 (by decide) ?_
          refine lv_iload_n hx hb dX2_about_52 rfl (lv_at hl 2 rfl) ?_
          refine lv_iadd hx hb dX2_about_53 ?_
          refine mv_top (v := nI (2366 + rj x)) (by rw [hix.2, rj_nI (by have := hix.1; omega)]; exact nI_add 2366 _) ?_
          refine m_rV (As := [.int (nI (2366 + rj x))]) (rest := []) ⟨hx, hb, hml, hown, hts⟩ (c_X0_valueAt l dC dI cI r0 p0 p1 p2 p3 p4 p5 p6 ki va sp sg sk sv sc og (nI (2366 + rj x))) (cwV 1 hts gX2_about_X0_valueAt rfl rfl rfl (by decide +kernel) ⟨Nat.le_of_ble_eq_true rfl, Nat.le_of_ble_eq_true rfl⟩) (ma_Pl (ma_P hP)) hK 0 0 rfl rfl rfl hl.1 rfl (Nat.le_of_ble_eq_true rfl) dX2_about_54 ⟨Nat.zero_le _, Nat.zero_le _⟩ (fun r hw => ?_)
          subst hw
          refine mv_top (v := va (2366 + rj x)) (atP_nI _ (by omega)) ?_
          refine lv_istore (lv' := [(4, .int (va (2366 + rj x))), (3, .int (ki (2366 + rj x))), (0, .ref g0), (1, .int x), (2, .int y)]) hx hb dX2_about_57 hl (by decide) rfl (fun ls hl => ?_)
          refine lv_iload_n hx hb dX2_about_59 rfl (lv_at hl 1 rfl) ?_
          refine lv_iconst (v := 3) hx hb dX2_about_60 (by decide) ?_
          refine lv_icmp_ne (tgt := 76) hx hb dX2_about_61 (by decide) (fun c61 => ?_) (fun c61 => ?_)
          · refine lv_iload hx hb dX2_about_76 (lv_at hl 0 rfl) ?_
            exact hret (va (2366 + rj x)) (()) (rfl) (⟨by unfold wOk; rw [hj, decide_eq_true c8, decide_eq_true c13]; rfl, by unfold dAbout; rw [if_neg c40, if_neg c61]⟩) hP hD hS dX2_about_78
          · refine lv_aload_n hx hb dX2_about_64 rfl (lv_at hl 2 rfl) ?_
            refine va_get (D := (dC, dI)) (ci := 2) (v := .ref r0) (C := RX2) (T := TX2) (N := 2) hx hb hts iX2 hown hK hP 0 rfl rfl 0 (by decide) l12 (fun _ h9 => h9) rfl dX2_about_65 ?_
            refine lv_iload hx hb dX2_about_68 (lv_at hl 0 rfl) ?_
            refine m_rV (As := [.int (va (2366 + rj x))]) (rest := []) ⟨hx, hb, hml, hown, hts⟩ (c_X1_lengthOf l dC dI cI r0 r1 r2 r3 r4 nu st le te ma ds dl ke (va (2366 + rj x)) hm) (cwV 1 hts gX2_about_X1_lengthOf rfl rfl rfl (by decide +kernel) ⟨Nat.le_of_ble_eq_true rfl, Nat.le_of_ble_eq_true rfl⟩) (ma_P (ma_P hP)) hK 1 0 rfl rfl rfl hl.1 rfl (Nat.le_of_ble_eq_true rfl) dX2_about_70 ⟨Nat.zero_le _, Nat.zero_le _⟩ (fun r hw => ?_)
            subst hw
            refine lv_goto (tgt := 78) hx hb dX2_about_73 (by decide) ?_
            exact hret (lenR ma le (va (2366 + rj x))) (()) (rfl) (⟨by unfold wOk; rw [hj, decide_eq_true c8, decide_eq_true c13]; rfl, by unfold dAbout; rw [if_neg c40, if_pos c61]; rfl⟩) hP hD hS dX2_about_78
        · refine lv_iload_n hx hb dX2_about_43 rfl (lv_at hl 0 rfl) ?_
          exact hret (ki (2366 + rj x)) (()) (rfl) (⟨by unfold wOk; rw [hj, decide_eq_true c8, decide_eq_true c13]; rfl, by unfold dAbout; rw [if_pos c40]⟩) hP hD hS dX2_about_44
      · obtain ⟨sa, hsa⟩ := hxs.2.2.1
        exact hthr 72 sa "no such name or what" (by unfold wOk; rw [decide_eq_false c13, Bool.and_false, Bool.and_false]) hsa hl.1 (Nat.le_of_ble_eq_true rfl) dX2_about_16 dX2_about_19 dX2_about_20 dX2_about_22 dX2_about_25
set_option maxHeartbeats 4000000 in
set_option maxRecDepth 100000 in
theorem c_X2_number (l : Launch) (dC : Nat → ClassId) (dI : Nat → Nat → Nat) (g0 r0 p0 : Nat) (cI : ClassId) (p1 p2 p3 p4 p5 p6 : Nat) (ki va : Nat → Int32) (sp sg : Nat → Nat) (sk sv : Nat → Int32) (sc og r1 r2 r3 r4 : Nat) (nu : Nat → Int32) (st le : Nat → Nat) (te : Nat → Int32) (ma ds dl : Nat) (ke : Int32) (x y : Int32) (hl0 : l.stackTraces = false) (hm : ma ≤ 513) (hst : ∀ j, j < ma → st j + le j ≤ 512) : mXi l yX2_number wsX2_number ({ frames := 6, cells := 1, slots := 6, locals := 91 }) (dC, dI) cI [.ref g0, .int x, .int y] (wG g0 r0 p0 ++ (wP cI r0 p0 p1 p2 p3 p4 p5 p6 ki va sp sg sk sv sc og ++ wR cI r0 r1 r2 r3 r4 nu st le te ma ds dl ke)) (fun r _ => ((x = -1 ∧ y = -1) ∨ dHas x y (ki, va, sp, sg, sk, sv, sc, og, nu, st, le, te, ma, ds, dl, ke) = true) ∧ r = dNum x y (ki, va, sp, sg, sk, sv, sc, og, nu, st, le, te, ma, ds, dl, ke)) (fun u : Unit => wG g0 r0 p0 ++ (wP cI r0 p0 p1 p2 p3 p4 p5 p6 ki va sp sg sk sv sc og ++ wR cI r0 r1 r2 r3 r4 nu st le te ma ds dl ke)) (¬ (x = -1 ∧ y = -1) ∧ dHas x y (ki, va, sp, sg, sk, sv, sc, og, nu, st, le, te, ma, ds, dl, ke) = false) := by
  refine m_ofXi hl0 (cc := cX2_number) (maxL := 4) (by decide) rfl rfl (Nat.le_of_ble_eq_true rfl) rfl rfl (Nat.le_of_ble_eq_true rfl) (Nat.le_of_ble_eq_true rfl) (by decide +kernel) (by decide +kernel) (fun w h => List.mem_cons_of_mem _ (List.mem_append_right _ h)) ?_
  intro p e s m args below meth c ls A Q hx hb hts hown hml hP hK hD hA hS hl hret hxs hthr
  have hown : s.vm.findClass RX2 = some m.cls := hown
  have hl : lv_has ls 4 [(0, .ref g0), (1, .int x), (2, .int y)] := hl
  have l12 := hts (.fieldLink RX2 12 "GroupDesk" "rows" "LGroupDesk$Rows;") (by decide +kernel)
  have iX2 : ∀ w ∈ u_ws RX2 TX2 2, w ∈ wsX2_number := by decide +kernel
  refine lv_aload_n hx hb dX2_number_0 rfl (lv_at hl 0 rfl) ?_
  refine lv_iload_n hx hb dX2_number_1 rfl (lv_at hl 1 rfl) ?_
  refine m_rV (As := [.int x]) (rest := []) ⟨hx, hb, hml, hown, hts⟩ (c_X2_rowOf l dC dI g0 r0 p0 cI p1 p2 p3 p4 p5 p6 ki va sp sg sk sv sc og r1 r2 r3 r4 nu st le te ma ds dl ke x) (cwV 1 hts gX2_number_X2_rowOf rfl rfl rfl (by decide +kernel) ⟨Nat.le_of_ble_eq_true rfl, Nat.le_of_ble_eq_true rfl⟩) hP hK 2 0 rfl rfl rfl hl.1 rfl (Nat.le_of_ble_eq_true rfl) dX2_number_2 ⟨Nat.zero_le _, Nat.zero_le _⟩ (fun r hw => ?_)
  subst hw
  refine lv_istore_n (lv' := [(3, .int (dRow x (ki, va, sp, sg, sk, sv, sc, og, nu, st, le, te, ma, ds, dl, ke))), (0, .ref g0), (1, .int x), (2, .int y)]) hx hb dX2_number_5 rfl hl (by decide) rfl (fun ls hl => ?_)
  refine lv_iload_n hx hb dX2_number_6 rfl (lv_at hl 2 rfl) ?_
  refine lv_iconst (v := (-1)) hx hb dX2_number_7 (by decide) ?_
  refine lv_icmp_ne (tgt := 25) hx hb dX2_number_8 (by decide) (fun c8 => ?_) (fun c8 => ?_)
  · refine lv_aload_n hx hb dX2_number_25 rfl (lv_at hl 1 rfl) ?_
    refine va_get (D := (dC, dI)) (ci := 2) (v := .ref r0) (C := RX2) (T := TX2) (N := 2) hx hb hts iX2 hown hK hP 0 rfl rfl 0 (by decide) l12 (fun _ h9 => h9) rfl dX2_number_26 ?_
    refine lv_iload_n hx hb dX2_number_29 rfl (lv_at hl 0 rfl) ?_
    refine lv_iload_n hx hb dX2_number_30 rfl (lv_at hl 3 rfl) ?_
    refine m_rV (As := [.int (dRow x (ki, va, sp, sg, sk, sv, sc, og, nu, st, le, te, ma, ds, dl, ke)), .int y]) (rest := []) ⟨hx, hb, hml, hown, hts⟩ (c_X1_has l dC dI cI r0 r1 r2 r3 r4 nu st le te ma ds dl ke (dRow x (ki, va, sp, sg, sk, sv, sc, og, nu, st, le, te, ma, ds, dl, ke)) y hm) (cwV 2 hts gX2_number_X1_has rfl rfl rfl (by decide +kernel) ⟨Nat.le_of_ble_eq_true rfl, Nat.le_of_ble_eq_true rfl⟩) (ma_P (ma_P hP)) hK 1 0 rfl rfl rfl hl.1 rfl (Nat.le_of_ble_eq_true rfl) dX2_number_31 ⟨Nat.zero_le _, Nat.zero_le _⟩ (fun r hw => ?_)
    subst hw
    refine lv_if_ne (tgt := 47) hx hb dX2_number_34 (by decide) (fun c34 => ?_) (fun c34 => ?_)
    · refine lv_aload_n hx hb dX2_number_47 rfl (lv_at hl 1 rfl) ?_
      refine va_get (D := (dC, dI)) (ci := 2) (v := .ref r0) (C := RX2) (T := TX2) (N := 2) hx hb hts iX2 hown hK hP 0 rfl rfl 0 (by decide) l12 (fun _ h9 => h9) rfl dX2_number_48 ?_
      refine lv_iload_n hx hb dX2_number_51 rfl (lv_at hl 0 rfl) ?_
      refine lv_iload_n hx hb dX2_number_52 rfl (lv_at hl 3 rfl) ?_
      refine m_rV (As := [.int (dRow x (ki, va, sp, sg, sk, sv, sc, og, nu, st, le, te, ma, ds, dl, ke)), .int y]) (rest := []) ⟨hx, hb, hml, hown, hts⟩ (c_X1_numberAt l dC dI cI r0 r1 r2 r3 r4 nu st le te ma ds dl ke (dRow x (ki, va, sp, sg, sk, sv, sc, og, nu, st, le, te, ma, ds, dl, ke)) y hm hst) (cwV 2 hts gX2_number_X1_numberAt rfl rfl rfl (by decide +kernel) ⟨Nat.le_of_ble_eq_true rfl, Nat.le_of_ble_eq_true rfl⟩) (ma_P (ma_P hP)) hK 1 0 rfl rfl rfl hl.1 rfl (Nat.le_of_ble_eq_true rfl) dX2_number_53 ⟨Nat.zero_le _, Nat.zero_le _⟩ (fun r hw => ?_)
      subst hw
      exact hret (numR ma st le nu (dRow x (ki, va, sp, sg, sk, sv, sc, og, nu, st, le, te, ma, ds, dl, ke)) y) (()) (rfl) (⟨Or.inr (b2i_n c34), by unfold dNum; rw [if_neg (fun h => c8 h.1)]⟩) hP hD hS dX2_number_56
    · obtain ⟨sa, hsa⟩ := hxs.2.2.2
      exact hthr 81 sa "no such number" (⟨fun h => c8 h.1, b2i_0 c34⟩) hsa hl.1 (Nat.le_of_ble_eq_true rfl) dX2_number_37 dX2_number_40 dX2_number_41 dX2_number_43 dX2_number_46
  · refine lv_iload_n hx hb dX2_number_11 rfl (lv_at hl 3 rfl) ?_
    refine lv_iconst (v := (-1)) hx hb dX2_number_12 (by decide) ?_
    refine lv_icmp_ne (tgt := 25) hx hb dX2_number_13 (by decide) (fun c13 => ?_) (fun c13 => ?_)
    · refine lv_aload_n hx hb dX2_number_25 rfl (lv_at hl 1 rfl) ?_
      refine va_get (D := (dC, dI)) (ci := 2) (v := .ref r0) (C := RX2) (T := TX2) (N := 2) hx hb hts iX2 hown hK hP 0 rfl rfl 0 (by decide) l12 (fun _ h9 => h9) rfl dX2_number_26 ?_
      refine lv_iload_n hx hb dX2_number_29 rfl (lv_at hl 0 rfl) ?_
      refine lv_iload_n hx hb dX2_number_30 rfl (lv_at hl 3 rfl) ?_
      refine m_rV (As := [.int (dRow x (ki, va, sp, sg, sk, sv, sc, og, nu, st, le, te, ma, ds, dl, ke)), .int y]) (rest := []) ⟨hx, hb, hml, hown, hts⟩ (c_X1_has l dC dI cI r0 r1 r2 r3 r4 nu st le te ma ds dl ke (dRow x (ki, va, sp, sg, sk, sv, sc, og, nu, st, le, te, ma, ds, dl, ke)) y hm) (cwV 2 hts gX2_number_X1_has rfl rfl rfl (by decide +kernel) ⟨Nat.le_of_ble_eq_true rfl, Nat.le_of_ble_eq_true rfl⟩) (ma_P (ma_P hP)) hK 1 0 rfl rfl rfl hl.1 rfl (Nat.le_of_ble_eq_true rfl) dX2_number_31 ⟨Nat.zero_le _, Nat.zero_le _⟩ (fun r hw => ?_)
      subst hw
      refine lv_if_ne (tgt := 47) hx hb dX2_number_34 (by decide) (fun c34 => ?_) (fun c34 => ?_)
      · refine lv_aload_n hx hb dX2_number_47 rfl (lv_at hl 1 rfl) ?_
        refine va_get (D := (dC, dI)) (ci := 2) (v := .ref r0) (C := RX2) (T := TX2) (N := 2) hx hb hts iX2 hown hK hP 0 rfl rfl 0 (by decide) l12 (fun _ h9 => h9) rfl dX2_number_48 ?_
        refine lv_iload_n hx hb dX2_number_51 rfl (lv_at hl 0 rfl) ?_
        refine lv_iload_n hx hb dX2_number_52 rfl (lv_at hl 3 rfl) ?_
        refine m_rV (As := [.int (dRow x (ki, va, sp, sg, sk, sv, sc, og, nu, st, le, te, ma, ds, dl, ke)), .int y]) (rest := []) ⟨hx, hb, hml, hown, hts⟩ (c_X1_numberAt l dC dI cI r0 r1 r2 r3 r4 nu st le te ma ds dl ke (dRow x (ki, va, sp, sg, sk, sv, sc, og, nu, st, le, te, ma, ds, dl, ke)) y hm hst) (cwV 2 hts gX2_number_X1_numberAt rfl rfl rfl (by decide +kernel) ⟨Nat.le_of_ble_eq_true rfl, Nat.le_of_ble_eq_true rfl⟩) (ma_P (ma_P hP)) hK 1 0 rfl rfl rfl hl.1 rfl (Nat.le_of_ble_eq_true rfl) dX2_number_53 ⟨Nat.zero_le _, Nat.zero_le _⟩ (fun r hw => ?_)
        subst hw
        exact hret (numR ma st le nu (dRow x (ki, va, sp, sg, sk, sv, sc, og, nu, st, le, te, ma, ds, dl, ke)) y) (()) (rfl) (⟨Or.inr (b2i_n c34), by unfold dNum; rw [if_neg (fun h => c13 h.2)]⟩) hP hD hS dX2_number_56
      · obtain ⟨sa, hsa⟩ := hxs.2.2.2
        exact hthr 81 sa "no such number" (⟨fun h => c13 h.2, b2i_0 c34⟩) hsa hl.1 (Nat.le_of_ble_eq_true rfl) dX2_number_37 dX2_number_40 dX2_number_41 dX2_number_43 dX2_number_46
    · refine lv_aload_n hx hb dX2_number_16 rfl (lv_at hl 1 rfl) ?_
      refine va_get (D := (dC, dI)) (ci := 2) (v := .ref r0) (C := RX2) (T := TX2) (N := 2) hx hb hts iX2 hown hK hP 0 rfl rfl 0 (by decide) l12 (fun _ h9 => h9) rfl dX2_number_17 ?_
      refine lv_iload_n hx hb dX2_number_20 rfl (lv_at hl 0 rfl) ?_
      refine m_rV (As := [.int (dRow x (ki, va, sp, sg, sk, sv, sc, og, nu, st, le, te, ma, ds, dl, ke))]) (rest := []) ⟨hx, hb, hml, hown, hts⟩ (c_X1_lengthOf l dC dI cI r0 r1 r2 r3 r4 nu st le te ma ds dl ke (dRow x (ki, va, sp, sg, sk, sv, sc, og, nu, st, le, te, ma, ds, dl, ke)) hm) (cwV 1 hts gX2_number_X1_lengthOf rfl rfl rfl (by decide +kernel) ⟨Nat.le_of_ble_eq_true rfl, Nat.le_of_ble_eq_true rfl⟩) (ma_P (ma_P hP)) hK 1 0 rfl rfl rfl hl.1 rfl (Nat.le_of_ble_eq_true rfl) dX2_number_21 ⟨Nat.zero_le _, Nat.zero_le _⟩ (fun r hw => ?_)
      subst hw
      exact hret (lenR ma le (dRow x (ki, va, sp, sg, sk, sv, sc, og, nu, st, le, te, ma, ds, dl, ke))) (()) (rfl) (⟨Or.inl ⟨c8, c13⟩, by unfold dNum; rw [if_pos ⟨c8, c13⟩]; rfl⟩) hP hD hS dX2_number_24
