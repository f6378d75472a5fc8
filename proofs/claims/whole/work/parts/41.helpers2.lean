abbrev wD (cI : ClassId) (g0 r0 r1 r2 r3 r4 p0 p1 p2 p3 p4 p5 p6 : Nat) (D : DS) : va_W := wG g0 r0 p0 ++ (wP cI r0 p0 p1 p2 p3 p4 p5 p6 D.1 D.2.1 D.2.2.1 D.2.2.2.1 D.2.2.2.2.1 D.2.2.2.2.2.1 D.2.2.2.2.2.2.1 D.2.2.2.2.2.2.2.1 ++ wR cI r0 r1 r2 r3 r4 D.2.2.2.2.2.2.2.2.1 D.2.2.2.2.2.2.2.2.2.1 D.2.2.2.2.2.2.2.2.2.2.1 D.2.2.2.2.2.2.2.2.2.2.2.1 D.2.2.2.2.2.2.2.2.2.2.2.2.1 D.2.2.2.2.2.2.2.2.2.2.2.2.2.1 D.2.2.2.2.2.2.2.2.2.2.2.2.2.2.1 D.2.2.2.2.2.2.2.2.2.2.2.2.2.2.2)
set_option maxHeartbeats 4000000 in
set_option maxRecDepth 100000 in
theorem c_L_define (l : Launch) (dC : Nat → ClassId) (dI : Nat → Nat → Nat) (cI cL : ClassId) (g0 r0 r1 r2 r3 r4 p0 p1 p2 p3 p4 p5 p6 o0 : Nat) (ol : Nat → Int64) (D : DS) (x g : Int32) (hl0 : l.stackTraces = false) (hm : D.2.2.2.2.2.2.2.2.2.2.2.2.1 ≤ 513) (hsc : D.2.2.2.2.2.2.1 ≤ 512) (hog : D.2.2.2.2.2.2.2.1 < 2 ^ 31) (hsg : ∀ j, j < D.2.2.2.2.2.2.1 → D.2.2.2.1 j < 2 ^ 31) (hsp : ∀ j, j < D.2.2.2.2.2.2.1 → D.2.2.1 j < 3367) (hd : D.2.2.2.2.2.2.2.2.2.2.2.2.2.1 + D.2.2.2.2.2.2.2.2.2.2.2.2.2.2.1 ≤ 512) : mHi l yL_define wsL_define ({ frames := 7, cells := 1, slots := 6, locals := 134 }) (dC, dI) cI cL [.ref g0, .int x, .int g, .ref o0] o0 ol D (fun r u => isR 1000 x = true ∧ r = (dDefine x g D).1 ∧ u = (dDefine x g D).2) (fun u : DS => wD cI g0 r0 r1 r2 r3 r4 p0 p1 p2 p3 p4 p5 p6 u) (isR 1000 x = false) := by
  refine m_ofH (cc := cL_define) (maxL := 5) (hh := [(0, 10, 13, 13)]) (by decide) rfl (Nat.le_of_ble_eq_true rfl) ?_
  intro p e s m args below meth c ls A Q hx hb hts hown hml htab hP hK2 hD hA hS hE hl hret
  have hown : s.vm.findClass RL = some m.cls := hown
  have hK := hK2.sub (tys' := [(cI, .int)]) [0] rfl
  have hP : va_P (dC, dI) vwCl (wO o0 cL ol ++ wD cI g0 r0 r1 r2 r3 r4 p0 p1 p2 p3 p4 p5 p6 D) s.heap := hP
  have hD : va_D A (wO o0 cL ol ++ wD cI g0 r0 r1 r2 r3 r4 p0 p1 p2 p3 p4 p5 p6 D) := hD
  have hl : lv_has ls 5 [(0, .ref g0), (1, .int x), (2, .int g), (3, .ref o0)] := hl
  refine lv_aload_n hx hb dL_define_0 rfl (lv_at hl 3 rfl) ?_
  refine lv_iconst (v := 0) hx hb dL_define_1 (by decide) ?_
  refine lv_aload_n hx hb dL_define_2 rfl (lv_at hl 0 rfl) ?_
  refine lv_iload_n hx hb dL_define_3 rfl (lv_at hl 1 rfl) ?_
  refine lv_iload_n hx hb dL_define_4 rfl (lv_at hl 2 rfl) ?_
  refine m_xVi (As := [.int x, .int g]) (rest := [.int 0, .ref o0]) ⟨hx, hb, hml, hown, hts⟩ (c_X2_define l dC dI g0 r0 p0 cI p1 p2 p3 p4 p5 p6 D.1 D.2.1 D.2.2.1 D.2.2.2.1 D.2.2.2.2.1 D.2.2.2.2.2.1 D.2.2.2.2.2.2.1 D.2.2.2.2.2.2.2.1 r1 r2 r3 r4 D.2.2.2.2.2.2.2.2.1 D.2.2.2.2.2.2.2.2.2.1 D.2.2.2.2.2.2.2.2.2.2.1 D.2.2.2.2.2.2.2.2.2.2.2.1 D.2.2.2.2.2.2.2.2.2.2.2.2.1 D.2.2.2.2.2.2.2.2.2.2.2.2.2.1 D.2.2.2.2.2.2.2.2.2.2.2.2.2.2.1 D.2.2.2.2.2.2.2.2.2.2.2.2.2.2.2 x g hl0 hm hsc hog hsg hsp hd) (cwV 2 hts gL_define_X2_define rfl rfl rfl (by decide +kernel) ⟨Nat.le_of_ble_eq_true rfl, Nat.le_of_ble_eq_true rfl⟩) hP hK hE hD hS hA 2 0 rfl rfl rfl hl.1 rfl (Nat.le_of_ble_eq_true rfl) dL_define_5 ⟨Nat.le_of_ble_eq_true rfl, Nat.le_of_ble_eq_true rfl⟩ (fun ce q9 H locs hpx hP hD hS hce hcv hcl => ?_) (fun r u H locs hw hP hD hS => ?_)
  · refine cx_catch hown ⟨0, 10, 13, 13⟩ htab (by decide) (by decide) (hts (.classLink RL 13 xN) (by decide +kernel)) (va_Nw.use rfl (hE.2.1 _ (by decide +kernel))) hce hcv hcl ?_
    refine lv_astore (lv' := [(4, .ref q9), (0, .ref g0), (1, .int x), (2, .int g), (3, .ref o0)]) hx hb dL_define_13 hl (by decide) rfl (fun ls hl => ?_)
    refine lv_iconst (v := 1) hx hb dL_define_15 (by decide) ?_
    exact hret 1 (ol, D) (Or.inl ⟨rfl, hpx, rfl⟩) hP hD hS dL_define_16
  · refine lv_i2l (v := r.toInt64) hx hb dL_define_8 rfl ?_
    refine va_last hx hb hK2 hP hD hS 0 1 rfl rfl (vp_in_nI (n := 0) (by decide) (by decide)) dL_define_9 (fun H locs hP hD hS => ?_)
    refine lv_goto (tgt := 17) hx hb dL_define_10 (by decide) ?_
    refine lv_iconst (v := 0) hx hb dL_define_17 (by decide) ?_
    exact hret 0 (vp_updL ol 0 r.toInt64, u) (Or.inr ⟨r, rfl, hw, rfl⟩) hP hD hS dL_define_18
set_option maxHeartbeats 4000000 in
set_option maxRecDepth 100000 in
theorem c_L_get (l : Launch) (dC : Nat → ClassId) (dI : Nat → Nat → Nat) (cI cL : ClassId) (g0 r0 r1 r2 r3 r4 p0 p1 p2 p3 p4 p5 p6 o0 : Nat) (ol : Nat → Int64) (D : DS) (x : Int32) (hl0 : l.stackTraces = false)  : mHi l yL_get wsL_get ({ frames := 7, cells := 1, slots := 6, locals := 112 }) (dC, dI) cI cL [.ref g0, .int x, .ref o0] o0 ol () (fun r _ => isR 2366 x = true ∧ r = dGet x D) (fun u : Unit => wD cI g0 r0 r1 r2 r3 r4 p0 p1 p2 p3 p4 p5 p6 D) (isR 2366 x = false) := by
  refine m_ofH (cc := cL_get) (maxL := 4) (hh := [(0, 9, 12, 13)]) (by decide) rfl (Nat.le_of_ble_eq_true rfl) ?_
  intro p e s m args below meth c ls A Q hx hb hts hown hml htab hP hK2 hD hA hS hE hl hret
  have hown : s.vm.findClass RL = some m.cls := hown
  have hK := hK2.sub (tys' := [(cI, .int)]) [0] rfl
  have hP : va_P (dC, dI) vwCl (wO o0 cL ol ++ wD cI g0 r0 r1 r2 r3 r4 p0 p1 p2 p3 p4 p5 p6 D) s.heap := hP
  have hD : va_D A (wO o0 cL ol ++ wD cI g0 r0 r1 r2 r3 r4 p0 p1 p2 p3 p4 p5 p6 D) := hD
  have hl : lv_has ls 4 [(0, .ref g0), (1, .int x), (2, .ref o0)] := hl
  refine lv_aload_n hx hb dL_get_0 rfl (lv_at hl 2 rfl) ?_
  refine lv_iconst (v := 0) hx hb dL_get_1 (by decide) ?_
  refine lv_aload_n hx hb dL_get_2 rfl (lv_at hl 0 rfl) ?_
  refine lv_iload_n hx hb dL_get_3 rfl (lv_at hl 1 rfl) ?_
  refine m_xVi (As := [.int x]) (rest := [.int 0, .ref o0]) ⟨hx, hb, hml, hown, hts⟩ (c_X2_get l dC dI g0 r0 p0 cI p1 p2 p3 p4 p5 p6 D.1 D.2.1 D.2.2.1 D.2.2.2.1 D.2.2.2.2.1 D.2.2.2.2.2.1 D.2.2.2.2.2.2.1 D.2.2.2.2.2.2.2.1 r1 r2 r3 r4 D.2.2.2.2.2.2.2.2.1 D.2.2.2.2.2.2.2.2.2.1 D.2.2.2.2.2.2.2.2.2.2.1 D.2.2.2.2.2.2.2.2.2.2.2.1 D.2.2.2.2.2.2.2.2.2.2.2.2.1 D.2.2.2.2.2.2.2.2.2.2.2.2.2.1 D.2.2.2.2.2.2.2.2.2.2.2.2.2.2.1 D.2.2.2.2.2.2.2.2.2.2.2.2.2.2.2 x hl0) (cwV 1 hts gL_get_X2_get rfl rfl rfl (by decide +kernel) ⟨Nat.le_of_ble_eq_true rfl, Nat.le_of_ble_eq_true rfl⟩) hP hK hE hD hS hA 2 0 rfl rfl rfl hl.1 rfl (Nat.le_of_ble_eq_true rfl) dL_get_4 ⟨Nat.le_of_ble_eq_true rfl, Nat.le_of_ble_eq_true rfl⟩ (fun ce q9 H locs hpx hP hD hS hce hcv hcl => ?_) (fun r u H locs hw hP hD hS => ?_)
  · refine cx_catch hown ⟨0, 9, 12, 13⟩ htab (by decide) (by decide) (hts (.classLink RL 13 xN) (by decide +kernel)) (va_Nw.use rfl (hE.2.1 _ (by decide +kernel))) hce hcv hcl ?_
    refine lv_astore_n (lv' := [(3, .ref q9), (0, .ref g0), (1, .int x), (2, .ref o0)]) hx hb dL_get_12 rfl hl (by decide) rfl (fun ls hl => ?_)
    refine lv_iconst (v := 1) hx hb dL_get_13 (by decide) ?_
    exact hret 1 (ol, ()) (Or.inl ⟨rfl, hpx, rfl⟩) hP hD hS dL_get_14
  · refine lv_i2l (v := r.toInt64) hx hb dL_get_7 rfl ?_
    refine va_last hx hb hK2 hP hD hS 0 1 rfl rfl (vp_in_nI (n := 0) (by decide) (by decide)) dL_get_8 (fun H locs hP hD hS => ?_)
    refine lv_goto (tgt := 15) hx hb dL_get_9 (by decide) ?_
    refine lv_iconst (v := 0) hx hb dL_get_15 (by decide) ?_
    exact hret 0 (vp_updL ol 0 r.toInt64, u) (Or.inr ⟨r, rfl, hw, rfl⟩) hP hD hS dL_get_16
set_option maxHeartbeats 4000000 in
set_option maxRecDepth 100000 in
theorem c_L_about (l : Launch) (dC : Nat → ClassId) (dI : Nat → Nat → Nat) (cI cL : ClassId) (g0 r0 r1 r2 r3 r4 p0 p1 p2 p3 p4 p5 p6 o0 : Nat) (ol : Nat → Int64) (D : DS) (x y : Int32) (hl0 : l.stackTraces = false) (hm : D.2.2.2.2.2.2.2.2.2.2.2.2.1 ≤ 513) : mHi l yL_about wsL_about ({ frames := 7, cells := 1, slots := 6, locals := 115 }) (dC, dI) cI cL [.ref g0, .int x, .int y, .ref o0] o0 ol () (fun r _ => (isR 1000 x && wOk y) = true ∧ r = dAbout x y D) (fun u : Unit => wD cI g0 r0 r1 r2 r3 r4 p0 p1 p2 p3 p4 p5 p6 D) ((isR 1000 x && wOk y) = false) := by
  refine m_ofH (cc := cL_about) (maxL := 5) (hh := [(0, 10, 13, 13)]) (by decide) rfl (Nat.le_of_ble_eq_true rfl) ?_
  intro p e s m args below meth c ls A Q hx hb hts hown hml htab hP hK2 hD hA hS hE hl hret
  have hown : s.vm.findClass RL = some m.cls := hown
  have hK := hK2.sub (tys' := [(cI, .int)]) [0] rfl
  have hP : va_P (dC, dI) vwCl (wO o0 cL ol ++ wD cI g0 r0 r1 r2 r3 r4 p0 p1 p2 p3 p4 p5 p6 D) s.heap := hP
  have hD : va_D A (wO o0 cL ol ++ wD cI g0 r0 r1 r2 r3 r4 p0 p1 p2 p3 p4 p5 p6 D) := hD
  have hl : lv_has ls 5 [(0, .ref g0), (1, .int x), (2, .int y), (3, .ref o0)] := hl
  refine lv_aload_n hx hb dL_about_0 rfl (lv_at hl 3 rfl) ?_
  refine lv_iconst (v := 0) hx hb dL_about_1 (by decide) ?_
  refine lv_aload_n hx hb dL_about_2 rfl (lv_at hl 0 rfl) ?_
  refine lv_iload_n hx hb dL_about_3 rfl (lv_at hl 1 rfl) ?_
  refine lv_iload_n hx hb dL_about_4 rfl (lv_at hl 2 rfl) ?_
  refine m_xVi (As := [.int x, .int y]) (rest := [.int 0, .ref o0]) ⟨hx, hb, hml, hown, hts⟩ (c_X2_about l dC dI g0 r0 p0 cI p1 p2 p3 p4 p5 p6 D.1 D.2.1 D.2.2.1 D.2.2.2.1 D.2.2.2.2.1 D.2.2.2.2.2.1 D.2.2.2.2.2.2.1 D.2.2.2.2.2.2.2.1 r1 r2 r3 r4 D.2.2.2.2.2.2.2.2.1 D.2.2.2.2.2.2.2.2.2.1 D.2.2.2.2.2.2.2.2.2.2.1 D.2.2.2.2.2.2.2.2.2.2.2.1 D.2.2.2.2.2.2.2.2.2.2.2.2.1 D.2.2.2.2.2.2.2.2.2.2.2.2.2.1 D.2.2.2.2.2.2.2.2.2.2.2.2.2.2.1 D.2.2.2.2.2.2.2.2.2.2.2.2.2.2.2 x y hl0 hm) (cwV 2 hts gL_about_X2_about rfl rfl rfl (by decide +kernel) ⟨Nat.le_of_ble_eq_true rfl, Nat.le_of_ble_eq_true rfl⟩) hP hK hE hD hS hA 2 0 rfl rfl rfl hl.1 rfl (Nat.le_of_ble_eq_true rfl) dL_about_5 ⟨Nat.le_of_ble_eq_true rfl, Nat.le_of_ble_eq_true rfl⟩ (fun ce q9 H locs hpx hP hD hS hce hcv hcl => ?_) (fun r u H locs hw hP hD hS => ?_)
  · refine cx_catch hown ⟨0, 10, 13, 13⟩ htab (by decide) (by decide) (hts (.classLink RL 13 xN) (by decide +kernel)) (va_Nw.use rfl (hE.2.1 _ (by decide +kernel))) hce hcv hcl ?_
    refine lv_astore (lv' := [(4, .ref q9), (0, .ref g0), (1, .int x), (2, .int y), (3, .ref o0)]) hx hb dL_about_13 hl (by decide) rfl (fun ls hl => ?_)
    refine lv_iconst (v := 1) hx hb dL_about_15 (by decide) ?_
    exact hret 1 (ol, ()) (Or.inl ⟨rfl, hpx, rfl⟩) hP hD hS dL_about_16
  · refine lv_i2l (v := r.toInt64) hx hb dL_about_8 rfl ?_
    refine va_last hx hb hK2 hP hD hS 0 1 rfl rfl (vp_in_nI (n := 0) (by decide) (by decide)) dL_about_9 (fun H locs hP hD hS => ?_)
    refine lv_goto (tgt := 17) hx hb dL_about_10 (by decide) ?_
    refine lv_iconst (v := 0) hx hb dL_about_17 (by decide) ?_
    exact hret 0 (vp_updL ol 0 r.toInt64, u) (Or.inr ⟨r, rfl, hw, rfl⟩) hP hD hS dL_about_18
set_option maxHeartbeats 4000000 in
set_option maxRecDepth 100000 in
theorem c_L_number (l : Launch) (dC : Nat → ClassId) (dI : Nat → Nat → Nat) (cI cL : ClassId) (g0 r0 r1 r2 r3 r4 p0 p1 p2 p3 p4 p5 p6 o0 : Nat) (ol : Nat → Int64) (D : DS) (x y : Int32) (hl0 : l.stackTraces = false) (hm : D.2.2.2.2.2.2.2.2.2.2.2.2.1 ≤ 513) (hst : ∀ j, j < D.2.2.2.2.2.2.2.2.2.2.2.2.1 → D.2.2.2.2.2.2.2.2.2.1 j + D.2.2.2.2.2.2.2.2.2.2.1 j ≤ 512) : mHi l yL_number wsL_number ({ frames := 7, cells := 1, slots := 6, locals := 114 }) (dC, dI) cI cL [.ref g0, .int x, .int y, .ref o0] o0 ol () (fun r _ => ((x = -1 ∧ y = -1) ∨ dHas x y D = true) ∧ r = dNum x y D) (fun u : Unit => wD cI g0 r0 r1 r2 r3 r4 p0 p1 p2 p3 p4 p5 p6 D) (¬ (x = -1 ∧ y = -1) ∧ dHas x y D = false) := by
  refine m_ofH (cc := cL_number) (maxL := 5) (hh := [(0, 10, 13, 13)]) (by decide) rfl (Nat.le_of_ble_eq_true rfl) ?_
  intro p e s m args below meth c ls A Q hx hb hts hown hml htab hP hK2 hD hA hS hE hl hret
  have hown : s.vm.findClass RL = some m.cls := hown
  have hK := hK2.sub (tys' := [(cI, .int)]) [0] rfl
  have hP : va_P (dC, dI) vwCl (wO o0 cL ol ++ wD cI g0 r0 r1 r2 r3 r4 p0 p1 p2 p3 p4 p5 p6 D) s.heap := hP
  have hD : va_D A (wO o0 cL ol ++ wD cI g0 r0 r1 r2 r3 r4 p0 p1 p2 p3 p4 p5 p6 D) := hD
  have hl : lv_has ls 5 [(0, .ref g0), (1, .int x), (2, .int y), (3, .ref o0)] := hl
  refine lv_aload_n hx hb dL_number_0 rfl (lv_at hl 3 rfl) ?_
  refine lv_iconst (v := 0) hx hb dL_number_1 (by decide) ?_
  refine lv_aload_n hx hb dL_number_2 rfl (lv_at hl 0 rfl) ?_
  refine lv_iload_n hx hb dL_number_3 rfl (lv_at hl 1 rfl) ?_
  refine lv_iload_n hx hb dL_number_4 rfl (lv_at hl 2 rfl) ?_
  refine m_xVi (As := [.int x, .int y]) (rest := [.int 0, .ref o0]) ⟨hx, hb, hml, hown, hts⟩ (c_X2_number l dC dI g0 r0 p0 cI p1 p2 p3 p4 p5 p6 D.1 D.2.1 D.2.2.1 D.2.2.2.1 D.2.2.2.2.1 D.2.2.2.2.2.1 D.2.2.2.2.2.2.1 D.2.2.2.2.2.2.2.1 r1 r2 r3 r4 D.2.2.2.2.2.2.2.2.1 D.2.2.2.2.2.2.2.2.2.1 D.2.2.2.2.2.2.2.2.2.2.1 D.2.2.2.2.2.2.2.2.2.2.2.1 D.2.2.2.2.2.2.2.2.2.2.2.2.1 D.2.2.2.2.2.2.2.2.2.2.2.2.2.1 D.2.2.2.2.2.2.2.2.2.2.2.2.2.2.1 D.2.2.2.2.2.2.2.2.2.2.2.2.2.2.2 x y hl0 hm hst) (cwV 2 hts gL_number_X2_number rfl rfl rfl (by decide +kernel) ⟨Nat.le_of_ble_eq_true rfl, Nat.le_of_ble_eq_true rfl⟩) hP hK hE hD hS hA 2 0 rfl rfl rfl hl.1 rfl (Nat.le_of_ble_eq_true rfl) dL_number_5 ⟨Nat.le_of_ble_eq_true rfl, Nat.le_of_ble_eq_true rfl⟩ (fun ce q9 H locs hpx hP hD hS hce hcv hcl => ?_) (fun r u H locs hw hP hD hS => ?_)
  · refine cx_catch hown ⟨0, 10, 13, 13⟩ htab (by decide) (by decide) (hts (.classLink RL 13 xN) (by decide +kernel)) (va_Nw.use rfl (hE.2.1 _ (by decide +kernel))) hce hcv hcl ?_
    refine lv_astore (lv' := [(4, .ref q9), (0, .ref g0), (1, .int x), (2, .int y), (3, .ref o0)]) hx hb dL_number_13 hl (by decide) rfl (fun ls hl => ?_)
    refine lv_iconst (v := 1) hx hb dL_number_15 (by decide) ?_
    exact hret 1 (ol, ()) (Or.inl ⟨rfl, hpx, rfl⟩) hP hD hS dL_number_16
  · refine lv_i2l (v := r.toInt64) hx hb dL_number_8 rfl ?_
    refine va_last hx hb hK2 hP hD hS 0 1 rfl rfl (vp_in_nI (n := 0) (by decide) (by decide)) dL_number_9 (fun H locs hP hD hS => ?_)
    refine lv_goto (tgt := 17) hx hb dL_number_10 (by decide) ?_
    refine lv_iconst (v := 0) hx hb dL_number_17 (by decide) ?_
    exact hret 0 (vp_updL ol 0 r.toInt64, u) (Or.inr ⟨r, rfl, hw, rfl⟩) hP hD hS dL_number_18
