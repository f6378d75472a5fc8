theorem law_cond {L k : Nat} (hL : L ≤ 2560) (hk : k ≤ 3000) (h : ¬ (Int32.ofNat L - 5 < nI k)) : k + 5 ≤ L := by
  have e : (nI L - nI 5).toInt = (L : Int) - 5 := pk_sub_toInt (by omega) (by decide)
  have h1 : nI k ≤ nI L - nI 5 := Int32.not_lt.mp h
  rw [Int32.le_iff_toInt_le, e, nI_toInt (by omega)] at h1
  omega
set_option maxHeartbeats 4000000 in
set_option maxRecDepth 100000 in
theorem law_loop {p : Program} {l : Launch} {e : Env} {s : State} {m : MethodId} {below : List Frame} {meth : Method} {c : Code} {b L : Nat} {xs : Nat → Int32} {dC : Nat → ClassId} {dI : Nat → Nat → Nat} {cI cL : ClassId} {ad : Nat → Nat} (hr : meth.sig.returnType = ret) (hlocks : meth.locks = false) (hC : LC p l s m c b L xs dC dI cI cL) :
    ∀ (n j : Nat) (D : DS) (M : MS) (ol : Nat → Int64) (H : Heap) (locs : List Loc) (ls : Array Slot) (φ : Nat → Nat), n + j = 513 → Rel j φ D M → LI s dC dI cI cL ad D M ol H locs → lv_has ls 7 (lvL b ad j) → W p l e room_1 s m #[Value.ref b] below meth c H locs (21 + j) (36264 + 6 * j) (lw_Z below #[Value.ref b] s) (F0 m 23 ls []) := by
  intro n
  induction n with
  | zero =>
    intro j D M ol H locs ls φ hn hR
    exfalso
    obtain ⟨ki, va, sp, sg, sk, sv, sc, og, nu, st, le, te, ma, ds, dl, ke⟩ := D
    obtain ⟨th0, gr, co, o, g, kd, vl, ro, fr, nm, dr⟩ := M
    have := hR.out.1.2.2.2.2
    omega
  | succ n ih =>
    intro j D M ol H locs ls φ hn hR hI hl
    obtain ⟨⟨hx, hb, hml, hown, hts⟩, ⟨hX, hbl, hL⟩, hK2, hE, hl0⟩ := id hC
    obtain ⟨hP, hD, hS⟩ := id hI
    have hbA : ¬ (fun q : Nat => s.heap.size ≤ q) b := Nat.not_le.mpr hbl
    refine lv_iload hx hb dL_law_23 (lv_at hl 4 rfl) ?_
    refine lv_aload_n hx hb dL_law_25 rfl (lv_at hl 0 rfl) ?_
    refine va_slen hx hb hX hbl hbA hS dL_law_26 ?_
    refine lv_iconst (v := 5) hx hb dL_law_27 (by decide) ?_
    refine lv_isub hx hb dL_law_28 ?_
    refine lv_icmp_gt (tgt := 706) hx hb dL_law_29 (by decide) (fun c9 => ?_) (fun c9 => ?_)
    · refine lv_iconst (v := 1) hx hb dL_law_706 (by decide) ?_
      refine va_forget (fun q hq => hS.2.2 q hq) ?_
      refine W.widen (k := 1049) (n := 44480) (by omega) (by omega) ?_
      exact lw_ret hx hb hr hlocks dL_law_707
    · have hj : 5 * j + 5 ≤ L := law_cond hL (by omega) c9
      have next : LN p l e s m below meth c b dC dI cI cL ad j (21 + j) (36264 + 6 * j) (lw_Z below #[Value.ref b] s) := by
        intro D M ol H locs ls hRx hI hl
        obtain ⟨φ2, hR2⟩ := hRx
        refine lv_iinc (v := nI (5 * (j + 1))) (lv' := [(4, .int (nI (5 * (j + 1)))), (0, .ref b), (1, .ref (ad 0)), (2, .ref (ad 14)), (3, .ref (ad 13))]) hx hb dL_law_700 hl (k := 4) rfl (show nI (5 * j) + Int32.ofInt 5 = nI (5 * (j + 1)) from nI_add (5 * j) 5) (by decide) rfl (fun ls hl => ?_)
        refine lv_goto (tgt := 23) hx hb dL_law_703 (by decide) ?_
        refine W.widen (k := 21 + (j + 1)) (n := 36264 + 6 * (j + 1)) (by omega) (by omega) ?_
        exact ih (j + 1) D M ol H locs ls φ2 (by omega) hR2 hI (lv_sub hl [1, 2, 3, 4, 0] rfl)
      have hcs : 21 + j + 1 ≤ 1049 ∧ 36264 + 6 * j + 6 ≤ 44480 := ⟨by omega, by omega⟩
      refine lv_aload_n hx hb dL_law_32 rfl (lv_at hl 0 rfl) ?_
      refine lv_iload hx hb dL_law_33 (lv_at hl 4 rfl) ?_
      refine mv_sld hx hb hX hbl hbA hS (k := 5 * j) rfl (by omega) hL dL_law_35 ?_
      refine lv_bipush (v := nI 15) hx hb dL_law_36 (by decide) ?_
      refine lv_iand hx hb dL_law_38 ?_
      obtain ⟨q, hq, eq⟩ := pk_andE (xs (5 * j)) (m := nI 15) 4 (by decide)
      refine mv_top (v := nI q) eq ?_
      have hq : q < 16 := hq
      rcases (show q = 0 ∨ q = 1 ∨ q = 2 ∨ q = 3 ∨ q = 4 ∨ q = 5 ∨ q = 6 ∨ q = 7 ∨ q = 8 ∨ q = 9 ∨ q = 10 ∨ q = 11 ∨ q = 12 ∨ q = 13 ∨ q = 14 ∨ q = 15 by omega) with rfl | rfl | rfl | rfl | rfl | rfl | rfl | rfl | rfl | rfl | rfl | rfl | rfl | rfl | rfl | rfl
      · refine lv_tableIn (tgt := 100) hx hb dL_law_39 (by decide) (by decide) rfl (by decide) ?_
        exact lc_open p l e s m below meth c b L xs dC dI cI cL ad j _ _ _ D M ol H locs ls φ hC hj hcs hR hI hl next
      · refine lv_tableIn (tgt := 113) hx hb dL_law_39 (by decide) (by decide) rfl (by decide) ?_
        exact lc_close p l e s m below meth c b L xs dC dI cI cL ad j _ _ _ D M ol H locs ls φ hC hj hcs hR hI hl next
      · refine lv_tableIn (tgt := 126) hx hb dL_law_39 (by decide) (by decide) rfl (by decide) ?_
        exact lc_set p l e s m below meth c b L xs dC dI cI cL ad j _ _ _ D M ol H locs ls φ hC hj hcs hR hI hl next
      · refine lv_tableIn (tgt := 191) hx hb dL_law_39 (by decide) (by decide) rfl (by decide) ?_
        exact lc_mean p l e s m below meth c b L xs dC dI cI cL ad j _ _ _ D M ol H locs ls φ hC hj hcs hR hI hl next
      · refine lv_tableIn (tgt := 268) hx hb dL_law_39 (by decide) (by decide) rfl (by decide) ?_
        exact lc_draft p l e s m below meth c b L xs dC dI cI cL ad j _ _ _ D M ol H locs ls φ hC hj hcs hR hI hl next
      · refine lv_tableIn (tgt := 293) hx hb dL_law_39 (by decide) (by decide) rfl (by decide) ?_
        exact lc_define p l e s m below meth c b L xs dC dI cI cL ad j _ _ _ D M ol H locs ls φ hC hj hcs hR hI hl next
      · refine lv_tableIn (tgt := 377) hx hb dL_law_39 (by decide) (by decide) rfl (by decide) ?_
        exact lc_let p l e s m below meth c b L xs dC dI cI cL ad j _ _ _ D M ol H locs ls φ hC hj hcs hR hI hl next
      · refine lv_tableIn (tgt := 442) hx hb dL_law_39 (by decide) (by decide) rfl (by decide) ?_
        exact lc_shape p l e s m below meth c b L xs dC dI cI cL ad j _ _ _ D M ol H locs ls φ hC hj hcs hR hI hl next
      · refine lv_tableIn (tgt := 483) hx hb dL_law_39 (by decide) (by decide) rfl (by decide) ?_
        exact lc_get p l e s m below meth c b L xs dC dI cI cL ad j _ _ _ D M ol H locs ls φ hC hj hcs hR hI hl next
      · refine lv_tableIn (tgt := 539) hx hb dL_law_39 (by decide) (by decide) rfl (by decide) ?_
        exact lc_about p l e s m below meth c b L xs dC dI cI cL ad j _ _ _ D M ol H locs ls φ hC hj hcs hR hI hl next
      · refine lv_tableIn (tgt := 607) hx hb dL_law_39 (by decide) (by decide) rfl (by decide) ?_
        exact lc_number p l e s m below meth c b L xs dC dI cI cL ad j _ _ _ D M ol H locs ls φ hC hj hcs hR hI hl next
      · refine lv_tableIn (tgt := 675) hx hb dL_law_39 (by decide) (by decide) rfl (by decide) ?_
        exact lc_count p l e s m below meth c b L xs dC dI cI cL ad j _ _ _ D M ol H locs ls φ hC hj hcs hR hI hl next
      · refine lv_tableOut (tgt := 700) hx hb dL_law_39 (by decide) (by decide) ?_
        refine W.widen (k := 21 + j + 1) (n := 36264 + 6 * j + 6) (by omega) (by omega) ?_
        exact next D M ol H locs ls ⟨φ, r_same (th := M.1) hR (by omega)⟩ hI hl
      · refine lv_tableOut (tgt := 700) hx hb dL_law_39 (by decide) (by decide) ?_
        refine W.widen (k := 21 + j + 1) (n := 36264 + 6 * j + 6) (by omega) (by omega) ?_
        exact next D M ol H locs ls ⟨φ, r_same (th := M.1) hR (by omega)⟩ hI hl
      · refine lv_tableOut (tgt := 700) hx hb dL_law_39 (by decide) (by decide) ?_
        refine W.widen (k := 21 + j + 1) (n := 36264 + 6 * j + 6) (by omega) (by omega) ?_
        exact next D M ol H locs ls ⟨φ, r_same (th := M.1) hR (by omega)⟩ hI hl
      · refine lv_tableOut (tgt := 700) hx hb dL_law_39 (by decide) (by decide) ?_
        refine W.widen (k := 21 + j + 1) (n := 36264 + 6 * j + 6) (by omega) (by omega) ?_
        exact next D M ol H locs ls ⟨φ, r_same (th := M.1) hR (by omega)⟩ hI hl
