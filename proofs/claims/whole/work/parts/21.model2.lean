/-- the reference's state: thrown, groups, count, of, group, kind, value, rows, from, numbers, drafted -/
abbrev MS : Type := Int32 × Nat × Nat × (Nat → Nat) × (Nat → Nat) × (Nat → Int32) × (Nat → Int32) × Nat × (Nat → Nat) × (Nat → Int32) × Nat
def mOpen : MS → Int32 × MS
  | (_, gr, co, o, g, k, v, ro, fr, nm, dr) => if gr = 200 then (0, 0, gr, co, o, g, k, v, ro, fr, nm, dr) else (1, 0, gr + 1, co, o, g, k, v, ro, fr, nm, dr)
def mClose : MS → Int32 × MS
  | (_, gr, co, o, g, k, v, ro, fr, nm, dr) => if gr = 0 then (0, 0, gr, co, o, g, k, v, ro, fr, nm, dr) else (1, 0, gr - 1, (dropF (kp (-1) gr) co 0 0 o g k v).1, (dropF (kp (-1) gr) co 0 0 o g k v).2.1, (dropF (kp (-1) gr) co 0 0 o g k v).2.2.1, (dropF (kp (-1) gr) co 0 0 o g k v).2.2.2.1, (dropF (kp (-1) gr) co 0 0 o g k v).2.2.2.2, ro, fr, nm, dr)
def mAsg (w : Nat) (kk vv gg : Int32) : MS → MS
  | (th, gr, co, o, g, k, v, ro, fr, nm, dr) => (th, gr, (asgM w kk vv gg gr co o g k v).1, (asgM w kk vv gg gr co o g k v).2.1, (asgM w kk vv gg gr co o g k v).2.2.1, (asgM w kk vv gg gr co o g k v).2.2.2.1, (asgM w kk vv gg gr co o g k v).2.2.2.2, ro, fr, nm, dr)
def mSet (cell vv gg : Int32) : MS → Int32 × MS
  | (_, gr, co, o, g, k, v, ro, fr, nm, dr) => if isR 2366 cell then (1, mAsg (rj cell) 0 vv gg (0, gr, co, o, g, k, v, ro, fr, nm, dr)) else (0, 0, gr, co, o, g, k, v, ro, fr, nm, dr)
def kOk (k : Int32) : Bool := decide (¬ k < 0) && decide (¬ nI 8 < k) && decide (¬ k = 3)
def mMean (name kk vv gg : Int32) : MS → Int32 × MS
  | (_, gr, co, o, g, k, v, ro, fr, nm, dr) => if (isR 1000 name && kOk kk) = true then (1, mAsg (3000 + rj name) kk vv gg (0, gr, co, o, g, k, v, ro, fr, nm, dr)) else (0, 0, gr, co, o, g, k, v, ro, fr, nm, dr)
def mDraft (x : Int32) : MS → Int32 × MS
  | (_, gr, co, o, g, k, v, ro, fr, nm, dr) => if dr = 200 then (0, 0, gr, co, o, g, k, v, ro, fr, nm, dr) else (1, 0, gr, co, o, g, k, v, ro, fr, upd nm (fr ro + dr) x, dr + 1)
def mTake : MS → MS
  | (th, gr, co, o, g, k, v, ro, fr, nm, dr) => (th, gr, co, o, g, k, v, ro + 1, va_up fr (ro + 1) (fr ro + dr), nm, 0)
def mDefine (name gg : Int32) : MS → Int32 × MS
  | (_, gr, co, o, g, k, v, ro, fr, nm, dr) => if isR 1000 name then (sizeM (va_up fr (ro + 1) (fr ro + dr)) ro, mAsg (3000 + rj name) 3 (nI ro) gg (mTake (0, gr, co, o, g, k, v, ro, fr, nm, dr))) else (0, 1, gr, co, o, g, k, v, ro, fr, nm, dr)
def mLet (name other gg : Int32) : MS → Int32 × MS
  | (_, gr, co, o, g, k, v, ro, fr, nm, dr) => if (isR 1000 name && isR 1000 other) = true then (1, mAsg (3000 + rj name) (atM o k (3000 + rj other) co) (atM o v (3000 + rj other) co) gg (0, gr, co, o, g, k, v, ro, fr, nm, dr)) else (0, 0, gr, co, o, g, k, v, ro, fr, nm, dr)
def mShape (gg : Int32) : MS → Int32 × MS
  | (_, gr, co, o, g, k, v, ro, fr, nm, dr) => (sizeM (va_up fr (ro + 1) (fr ro + dr)) ro, mAsg 4000 3 (nI ro) gg (mTake (0, gr, co, o, g, k, v, ro, fr, nm, dr)))
def mGet (cell : Int32) : MS → Int32 × MS
  | (_, gr, co, o, g, k, v, ro, fr, nm, dr) => if isR 2366 cell then (atM o v (rj cell) co, 0, gr, co, o, g, k, v, ro, fr, nm, dr) else (0, 1, gr, co, o, g, k, v, ro, fr, nm, dr)
def wOk (x : Int32) : Bool := decide (¬ x < 0) && decide (x ≤ 1)
def mAbout (name what : Int32) : MS → Int32 × MS
  | (_, gr, co, o, g, k, v, ro, fr, nm, dr) => if (isR 1000 name && wOk what) = true then ((if what = 0 then atM o k (3000 + rj name) co else if atM o k (3000 + rj name) co = 3 then sizeM fr (rj (atM o v (3000 + rj name) co)) else atM o v (3000 + rj name) co), 0, gr, co, o, g, k, v, ro, fr, nm, dr) else (0, 1, gr, co, o, g, k, v, ro, fr, nm, dr)
/-- the row that number looks at -/
def mRow (name : Int32) (co : Nat) (o : Nat → Nat) (k v : Nat → Int32) : Nat := if name = -1 then rj (atM o v 4000 co) else if isR 1000 name then (if atM o k (3000 + rj name) co = 3 then rj (atM o v (3000 + rj name) co) else 0) else 0
def nOk (fr : Nat → Nat) (row : Nat) (x : Int32) : Bool := decide (¬ x < 0) && decide (x < sizeM fr row)
def mNumber (name x : Int32) : MS → Int32 × MS
  | (_, gr, co, o, g, k, v, ro, fr, nm, dr) => if name = -1 ∧ x = -1 then (sizeM fr (rj (atM o v 4000 co)), 0, gr, co, o, g, k, v, ro, fr, nm, dr)
    else if nOk fr (mRow name co o k v) x then (nm (fr (mRow name co o k v) + rj x), 0, gr, co, o, g, k, v, ro, fr, nm, dr) else (0, 1, gr, co, o, g, k, v, ro, fr, nm, dr)
def mCount (what : Int32) : MS → Int32 × MS
  | (_, gr, co, o, g, k, v, ro, fr, nm, dr) => ((if what = 0 then nI gr else if what = 1 then nI dr else if what = 2 then keptM o k v fr co (ro - 1) else -1), 0, gr, co, o, g, k, v, ro, fr, nm, dr)
set_option maxHeartbeats 4000000 in
set_option maxRecDepth 100000 in
theorem c_X3_kept (l : Launch) (dC : Nat → ClassId) (dI : Nat → Nat → Nat) (cI : ClassId) (m0 m1 m2 m3 m4 m5 m6 : Nat) (th : Int32) (gr co : Nat) (ofs grp : Nat → Nat) (kd vl : Nat → Int32) (ro : Nat) (fr : Nat → Nat) (nm : Nat → Int32) (dr : Nat)  (hco : co ≤ 4200) (hof : ∀ i, i < co → ofs i < 2 ^ 31) (h1 : 1 ≤ ro) (hro : ro + 1 < 4200) : mRi l yX3_kept wsX3_kept ({ frames := 1, cells := 0, slots := 0, locals := 21 }) (dC, dI) cI [.ref m0] (wM cI m0 m1 m2 m3 m4 m5 m6 th gr co ofs grp kd vl ro fr nm dr) (fun r => r = keptM ofs kd vl fr co (ro - 1)) := by
  refine m_ofR (cc := cX3_kept) (maxL := 5) (by decide) rfl (Nat.le_of_ble_eq_true rfl) ?_
  intro p e s m args below meth c ls Q hx hb hts hown hml hP hK hl hret
  have hown : s.vm.findClass RX3 = some m.cls := hown
  have hl : lv_has ls 5 [(0, .ref m0)] := hl
  have l22 := hts (.fieldLink RX3 22 "GroupDeskModel" "rows" "I") (by decide +kernel)
  have l38 := hts (.fieldLink RX3 38 "GroupDeskModel" "count" "I") (by decide +kernel)
  have l7 := hts (.fieldLink RX3 7 "GroupDeskModel" "of" "[I") (by decide +kernel)
  have l16 := hts (.fieldLink RX3 16 "GroupDeskModel" "kind" "[I") (by decide +kernel)
  have l19 := hts (.fieldLink RX3 19 "GroupDeskModel" "value" "[I") (by decide +kernel)
  have iX3 : ∀ w ∈ u_ws RX3 TX3 11, w ∈ wsX3_kept := by decide +kernel
  have inner : ∀ (row n q : Nat) (z : Int32) (ls : Array Slot), row + 1 < ro + 1 → n + q = co → lv_has ls 5 [(0, .ref m0), (1, .int z), (2, .int (nI row)), (3, .int (b2i (tolM ofs kd vl row q))), (4, .int (nI q))] → (∀ ls : Array Slot, lv_has ls 5 [(0, .ref m0), (1, .int z), (2, .int (nI row)), (3, .int (b2i (tolM ofs kd vl row co)))] → W p l e ({ frames := 1, cells := 0, slots := 0, locals := 21 }) s m args below meth c s.heap [] 0 0 Q (F0 m 90 ls [])) → W p l e ({ frames := 1, cells := 0, slots := 0, locals := 21 }) s m args below meth c s.heap [] 0 0 Q (F0 m 17 ls []) := by
    intro row n
    induction n with
    | zero =>
      intro q z ls hrow hn hl hk
      refine lv_iload hx hb dX3_kept_17 (lv_at hl 4 rfl) ?_
      refine lv_aload_n hx hb dX3_kept_19 rfl (lv_at hl 0 rfl) ?_
      refine va_get (D := (dC, dI)) (ci := 3) (v := .int (nI co)) (C := RX3) (T := TX3) (N := 11) hx hb hts iX3 hown hK hP 0 rfl rfl 2 (by decide) l38 (fun _ h9 => h9) rfl dX3_kept_20 ?_
      refine lv_icmp_ge (tgt := 90) hx hb dX3_kept_23 (by decide) (fun c23 => ?_) (fun c23 => ?_)
      · have e9 : q = co := by omega
        subst e9
        exact hk ls (lv_sub hl [0, 1, 2, 3] rfl)
      · exact absurd (nI_le (by omega) (by omega)) c23
    | succ n ih =>
      intro q z ls hrow hn hl hk
      have h4 := hof q (by omega)
      refine lv_iload hx hb dX3_kept_17 (lv_at hl 4 rfl) ?_
      refine lv_aload_n hx hb dX3_kept_19 rfl (lv_at hl 0 rfl) ?_
      refine va_get (D := (dC, dI)) (ci := 3) (v := .int (nI co)) (C := RX3) (T := TX3) (N := 11) hx hb hts iX3 hown hK hP 0 rfl rfl 2 (by decide) l38 (fun _ h9 => h9) rfl dX3_kept_20 ?_
      refine lv_icmp_ge (tgt := 90) hx hb dX3_kept_23 (by decide) (fun c23 => ?_) (fun c23 => ?_)
      · exact absurd c23 (nI_ge (by omega) (by omega))
      · refine lv_iload_n hx hb dX3_kept_26 rfl (lv_at hl 3 rfl) ?_
        refine lv_if_ne (tgt := 78) hx hb dX3_kept_27 (by decide) (fun c27 => ?_) (fun c27 => ?_)
        · refine lv_iconst (v := 1) hx hb dX3_kept_78 (by decide) ?_
          refine lv_goto (tgt := 83) hx hb dX3_kept_79 (by decide) ?_
          refine lv_istore_n (lv' := [(3, .int 1), (0, .ref m0), (1, .int z), (2, .int (nI row)), (4, .int (nI q))]) hx hb dX3_kept_83 rfl hl (by decide) rfl (fun ls hl => ?_)
          refine lv_iinc (v := nI (q + 1)) (lv' := [(4, .int (nI (q + 1))), (3, .int 1), (0, .ref m0), (1, .int z), (2, .int (nI row))]) hx hb dX3_kept_84 hl (k := 4) rfl (show (nI q) + Int32.ofInt (1) = nI (q + 1) from nI_1 q) (by decide) rfl (fun ls hl => ?_)
          refine lv_goto (tgt := 17) hx hb dX3_kept_87 (by decide) ?_
          have e9 : (1 : Int32) = b2i (tolM ofs kd vl row (q + 1)) := by rw [tolM, b2i_n c27, Bool.true_or]; rfl
          have hl := (lv_sub hl [2, 3, 4, 1, 0] rfl)
          have hl : lv_has ls 5 [(0, .ref m0), (1, .int z), (2, .int (nI row)), (3, .int 1), (4, .int (nI (q + 1)))] := hl
          rw [e9] at hl
          exact ih _ _ ls hrow (by omega) hl hk
        · refine lv_aload_n hx hb dX3_kept_30 rfl (lv_at hl 0 rfl) ?_
          refine va_get (D := (dC, dI)) (ci := 3) (v := .ref m1) (C := RX3) (T := TX3) (N := 11) hx hb hts iX3 hown hK hP 0 rfl rfl 3 (by decide) l7 (fun _ h9 => h9) rfl dX3_kept_31 ?_
          refine lv_iload hx hb dX3_kept_34 (lv_at hl 4 rfl) ?_
          refine mv_iald hx hb hK hP 1 0 rfl rfl (k := q) (rfl) (by omega) (by decide) (v := nI (ofs q)) rfl dX3_kept_36 ?_
          refine lv_sipush (v := nI 3000) hx hb dX3_kept_37 (by decide) ?_
          refine lv_icmp_lt (tgt := 82) hx hb dX3_kept_40 (by decide) (fun c40 => ?_) (fun c40 => ?_)
          · refine lv_iconst (v := 0) hx hb dX3_kept_82 (by decide) ?_
            refine lv_istore_n (lv' := [(3, .int 0), (0, .ref m0), (1, .int z), (2, .int (nI row)), (4, .int (nI q))]) hx hb dX3_kept_83 rfl hl (by decide) rfl (fun ls hl => ?_)
            refine lv_iinc (v := nI (q + 1)) (lv' := [(4, .int (nI (q + 1))), (3, .int 0), (0, .ref m0), (1, .int z), (2, .int (nI row))]) hx hb dX3_kept_84 hl (k := 4) rfl (show (nI q) + Int32.ofInt (1) = nI (q + 1) from nI_1 q) (by decide) rfl (fun ls hl => ?_)
            refine lv_goto (tgt := 17) hx hb dX3_kept_87 (by decide) ?_
            have e9 : (0 : Int32) = b2i (tolM ofs kd vl row (q + 1)) := by rw [tolM, b2i_0 c27, decide_eq_false (fun h => absurd h (Nat.not_le.mpr ((nI_ltI h4 (by decide)).mp c40))), Bool.false_and, Bool.false_and, Bool.false_and, Bool.or_self]; rfl
            have hl := (lv_sub hl [2, 3, 4, 1, 0] rfl)
            have hl : lv_has ls 5 [(0, .ref m0), (1, .int z), (2, .int (nI row)), (3, .int 0), (4, .int (nI (q + 1)))] := hl
            rw [e9] at hl
            exact ih _ _ ls hrow (by omega) hl hk
          · refine lv_aload_n hx hb dX3_kept_43 rfl (lv_at hl 0 rfl) ?_
            refine va_get (D := (dC, dI)) (ci := 3) (v := .ref m1) (C := RX3) (T := TX3) (N := 11) hx hb hts iX3 hown hK hP 0 rfl rfl 3 (by decide) l7 (fun _ h9 => h9) rfl dX3_kept_44 ?_
            refine lv_iload hx hb dX3_kept_47 (lv_at hl 4 rfl) ?_
            refine mv_iald hx hb hK hP 1 0 rfl rfl (k := q) (rfl) (by omega) (by decide) (v := nI (ofs q)) rfl dX3_kept_49 ?_
            refine lv_sipush (v := nI 4000) hx hb dX3_kept_50 (by decide) ?_
            refine lv_icmp_ge (tgt := 82) hx hb dX3_kept_53 (by decide) (fun c53 => ?_) (fun c53 => ?_)
            · refine lv_iconst (v := 0) hx hb dX3_kept_82 (by decide) ?_
              refine lv_istore_n (lv' := [(3, .int 0), (0, .ref m0), (1, .int z), (2, .int (nI row)), (4, .int (nI q))]) hx hb dX3_kept_83 rfl hl (by decide) rfl (fun ls hl => ?_)
              refine lv_iinc (v := nI (q + 1)) (lv' := [(4, .int (nI (q + 1))), (3, .int 0), (0, .ref m0), (1, .int z), (2, .int (nI row))]) hx hb dX3_kept_84 hl (k := 4) rfl (show (nI q) + Int32.ofInt (1) = nI (q + 1) from nI_1 q) (by decide) rfl (fun ls hl => ?_)
              refine lv_goto (tgt := 17) hx hb dX3_kept_87 (by decide) ?_
              have e9 : (0 : Int32) = b2i (tolM ofs kd vl row (q + 1)) := by rw [tolM, b2i_0 c27, decide_eq_false (fun h => absurd h (Nat.not_lt.mpr ((nI_leI (by decide) h4).mp c53))), Bool.and_false, Bool.false_and, Bool.false_and, Bool.or_self]; rfl
              have hl := (lv_sub hl [2, 3, 4, 1, 0] rfl)
              have hl : lv_has ls 5 [(0, .ref m0), (1, .int z), (2, .int (nI row)), (3, .int 0), (4, .int (nI (q + 1)))] := hl
              rw [e9] at hl
              exact ih _ _ ls hrow (by omega) hl hk
            · refine lv_aload_n hx hb dX3_kept_56 rfl (lv_at hl 0 rfl) ?_
              refine va_get (D := (dC, dI)) (ci := 3) (v := .ref m3) (C := RX3) (T := TX3) (N := 11) hx hb hts iX3 hown hK hP 0 rfl rfl 5 (by decide) l16 (fun _ h9 => h9) rfl dX3_kept_57 ?_
              refine lv_iload hx hb dX3_kept_60 (lv_at hl 4 rfl) ?_
              refine mv_iald hx hb hK hP 3 0 rfl rfl (k := q) (rfl) (by omega) (by decide) (v := kd q) rfl dX3_kept_62 ?_
              refine lv_iconst (v := 3) hx hb dX3_kept_63 (by decide) ?_
              refine lv_icmp_ne (tgt := 82) hx hb dX3_kept_64 (by decide) (fun c64 => ?_) (fun c64 => ?_)
              · refine lv_iconst (v := 0) hx hb dX3_kept_82 (by decide) ?_
                refine lv_istore_n (lv' := [(3, .int 0), (0, .ref m0), (1, .int z), (2, .int (nI row)), (4, .int (nI q))]) hx hb dX3_kept_83 rfl hl (by decide) rfl (fun ls hl => ?_)
                refine lv_iinc (v := nI (q + 1)) (lv' := [(4, .int (nI (q + 1))), (3, .int 0), (0, .ref m0), (1, .int z), (2, .int (nI row))]) hx hb dX3_kept_84 hl (k := 4) rfl (show (nI q) + Int32.ofInt (1) = nI (q + 1) from nI_1 q) (by decide) rfl (fun ls hl => ?_)
                refine lv_goto (tgt := 17) hx hb dX3_kept_87 (by decide) ?_
                have e9 : (0 : Int32) = b2i (tolM ofs kd vl row (q + 1)) := by rw [tolM, b2i_0 c27, decide_eq_false c64, Bool.and_false, Bool.false_and, Bool.or_self]; rfl
                have hl := (lv_sub hl [2, 3, 4, 1, 0] rfl)
                have hl : lv_has ls 5 [(0, .ref m0), (1, .int z), (2, .int (nI row)), (3, .int 0), (4, .int (nI (q + 1)))] := hl
                rw [e9] at hl
                exact ih _ _ ls hrow (by omega) hl hk
              · refine lv_aload_n hx hb dX3_kept_67 rfl (lv_at hl 0 rfl) ?_
                refine va_get (D := (dC, dI)) (ci := 3) (v := .ref m4) (C := RX3) (T := TX3) (N := 11) hx hb hts iX3 hown hK hP 0 rfl rfl 6 (by decide) l19 (fun _ h9 => h9) rfl dX3_kept_68 ?_
                refine lv_iload hx hb dX3_kept_71 (lv_at hl 4 rfl) ?_
                refine mv_iald hx hb hK hP 4 0 rfl rfl (k := q) (rfl) (by omega) (by decide) (v := vl q) rfl dX3_kept_73 ?_
                refine lv_iload_n hx hb dX3_kept_74 rfl (lv_at hl 2 rfl) ?_
                refine lv_icmp_ne (tgt := 82) hx hb dX3_kept_75 (by decide) (fun c75 => ?_) (fun c75 => ?_)
                · refine lv_iconst (v := 0) hx hb dX3_kept_82 (by decide) ?_
                  refine lv_istore_n (lv' := [(3, .int 0), (0, .ref m0), (1, .int z), (2, .int (nI row)), (4, .int (nI q))]) hx hb dX3_kept_83 rfl hl (by decide) rfl (fun ls hl => ?_)
                  refine lv_iinc (v := nI (q + 1)) (lv' := [(4, .int (nI (q + 1))), (3, .int 0), (0, .ref m0), (1, .int z), (2, .int (nI row))]) hx hb dX3_kept_84 hl (k := 4) rfl (show (nI q) + Int32.ofInt (1) = nI (q + 1) from nI_1 q) (by decide) rfl (fun ls hl => ?_)
                  refine lv_goto (tgt := 17) hx hb dX3_kept_87 (by decide) ?_
                  have e9 : (0 : Int32) = b2i (tolM ofs kd vl row (q + 1)) := by rw [tolM, b2i_0 c27, decide_eq_false c75, Bool.and_false, Bool.or_self]; rfl
                  have hl := (lv_sub hl [2, 3, 4, 1, 0] rfl)
                  have hl : lv_has ls 5 [(0, .ref m0), (1, .int z), (2, .int (nI row)), (3, .int 0), (4, .int (nI (q + 1)))] := hl
                  rw [e9] at hl
                  exact ih _ _ ls hrow (by omega) hl hk
                · refine lv_iconst (v := 1) hx hb dX3_kept_78 (by decide) ?_
                  refine lv_goto (tgt := 83) hx hb dX3_kept_79 (by decide) ?_
                  refine lv_istore_n (lv' := [(3, .int 1), (0, .ref m0), (1, .int z), (2, .int (nI row)), (4, .int (nI q))]) hx hb dX3_kept_83 rfl hl (by decide) rfl (fun ls hl => ?_)
                  refine lv_iinc (v := nI (q + 1)) (lv' := [(4, .int (nI (q + 1))), (3, .int 1), (0, .ref m0), (1, .int z), (2, .int (nI row))]) hx hb dX3_kept_84 hl (k := 4) rfl (show (nI q) + Int32.ofInt (1) = nI (q + 1) from nI_1 q) (by decide) rfl (fun ls hl => ?_)
                  refine lv_goto (tgt := 17) hx hb dX3_kept_87 (by decide) ?_
                  have e9 : (1 : Int32) = b2i (tolM ofs kd vl row (q + 1)) := by rw [tolM, b2i_0 c27, decide_eq_true (Nat.le_of_not_lt fun h => c40 ((nI_ltI h4 (by decide)).mpr h)), decide_eq_true (Nat.lt_of_not_le fun h => c53 ((nI_leI (by decide) h4).mpr h)), decide_eq_true c64, decide_eq_true c75]; rfl
                  have hl := (lv_sub hl [2, 3, 4, 1, 0] rfl)
                  have hl : lv_has ls 5 [(0, .ref m0), (1, .int z), (2, .int (nI row)), (3, .int 1), (4, .int (nI (q + 1)))] := hl
                  rw [e9] at hl
                  exact ih _ _ ls hrow (by omega) hl hk
  have outer : ∀ (n j : Nat) (ls : Array Slot), n + j + 1 = ro → lv_has ls 5 [(0, .ref m0), (1, .int (keptM ofs kd vl fr co j)), (2, .int (nI (j + 1)))] → W p l e ({ frames := 1, cells := 0, slots := 0, locals := 21 }) s m args below meth c s.heap [] 0 0 Q (F0 m 4 ls []) := by
    intro n
    induction n with
    | zero =>
      intro j ls hn hl
      refine lv_iload_n hx hb dX3_kept_4 rfl (lv_at hl 2 rfl) ?_
      refine lv_aload_n hx hb dX3_kept_5 rfl (lv_at hl 0 rfl) ?_
      refine va_get (D := (dC, dI)) (ci := 3) (v := .int (nI ro)) (C := RX3) (T := TX3) (N := 11) hx hb hts iX3 hown hK hP 0 rfl rfl 7 (by decide) l22 (fun _ h9 => h9) rfl dX3_kept_6 ?_
      refine lv_icmp_ge (tgt := 112) hx hb dX3_kept_9 (by decide) (fun c9 => ?_) (fun c9 => ?_)
      · refine lv_iload_n hx hb dX3_kept_112 rfl (lv_at hl 1 rfl) ?_
        exact hret (keptM ofs kd vl fr co j) (rfl) (by rw [show ro - 1 = j by omega]) dX3_kept_113
      · exact absurd (nI_le (by omega) (by omega)) c9
    | succ n ih =>
      intro j ls hn hl
      refine lv_iload_n hx hb dX3_kept_4 rfl (lv_at hl 2 rfl) ?_
      refine lv_aload_n hx hb dX3_kept_5 rfl (lv_at hl 0 rfl) ?_
      refine va_get (D := (dC, dI)) (ci := 3) (v := .int (nI ro)) (C := RX3) (T := TX3) (N := 11) hx hb hts iX3 hown hK hP 0 rfl rfl 7 (by decide) l22 (fun _ h9 => h9) rfl dX3_kept_6 ?_
      refine lv_icmp_ge (tgt := 112) hx hb dX3_kept_9 (by decide) (fun c9 => ?_) (fun c9 => ?_)
      · exact absurd c9 (nI_ge (by omega) (by omega))
      · refine lv_iconst (v := 0) hx hb dX3_kept_12 (by decide) ?_
        refine lv_istore_n (lv' := [(3, .int 0), (0, .ref m0), (1, .int (keptM ofs kd vl fr co j)), (2, .int (nI (j + 1)))]) hx hb dX3_kept_13 rfl hl (by decide) rfl (fun ls hl => ?_)
        refine lv_iconst (v := 0) hx hb dX3_kept_14 (by decide) ?_
        refine lv_istore (lv' := [(4, .int 0), (3, .int 0), (0, .ref m0), (1, .int (keptM ofs kd vl fr co j)), (2, .int (nI (j + 1)))]) hx hb dX3_kept_15 hl (by decide) rfl (fun ls hl => ?_)
        refine inner (j + 1) co 0 _ ls (by omega) rfl (lv_sub hl [2, 3, 4, 1, 0] rfl) (fun ls hl => ?_)
        refine lv_iload_n hx hb dX3_kept_90 rfl (lv_at hl 1 rfl) ?_
        refine lv_iload_n hx hb dX3_kept_91 rfl (lv_at hl 3 rfl) ?_
        refine lv_if_eq (tgt := 103) hx hb dX3_kept_92 (by decide) (fun c92 => ?_) (fun c92 => ?_)
        · refine lv_iconst (v := 0) hx hb dX3_kept_103 (by decide) ?_
          refine lv_iadd hx hb dX3_kept_104 ?_
          refine lv_istore_n (lv' := [(1, .int ((keptM ofs kd vl fr co j) + 0)), (0, .ref m0), (2, .int (nI (j + 1))), (3, .int (b2i (tolM ofs kd vl (j + 1) co)))]) hx hb dX3_kept_105 rfl hl (by decide) rfl (fun ls hl => ?_)
          refine lv_iinc (v := nI (j + 1 + 1)) (lv' := [(2, .int (nI (j + 1 + 1))), (1, .int ((keptM ofs kd vl fr co j) + 0)), (0, .ref m0), (3, .int (b2i (tolM ofs kd vl (j + 1) co)))]) hx hb dX3_kept_106 hl (k := 2) rfl (show (nI (j + 1)) + Int32.ofInt (1) = nI (j + 1 + 1) from nI_1 (j + 1)) (by decide) rfl (fun ls hl => ?_)
          refine lv_goto (tgt := 4) hx hb dX3_kept_109 (by decide) ?_
          have e9 : ((keptM ofs kd vl fr co j) + 0 : Int32) = keptM ofs kd vl fr co (j + 1) := by rw [keptM, b2i_0 c92]; rfl
          have hl := (lv_sub hl [2, 1, 0] rfl)
          have hl : lv_has ls 5 [(0, .ref m0), (1, .int ((keptM ofs kd vl fr co j) + 0)), (2, .int (nI (j + 1 + 1)))] := hl
          rw [e9] at hl
          exact ih _ ls (by omega) hl
        · refine lv_aload_n hx hb dX3_kept_95 rfl (lv_at hl 0 rfl) ?_
          refine lv_iload_n hx hb dX3_kept_96 rfl (lv_at hl 2 rfl) ?_
          refine m_rV (As := [.int (nI (j + 1))]) (rest := [.int (keptM ofs kd vl fr co j)]) ⟨hx, hb, hml, hown, hts⟩ (c_X3_size l dC dI cI m0 m1 m2 m3 m4 m5 m6 th gr co ofs grp kd vl ro fr nm dr (j + 1) (by omega)) (cwV 1 hts gX3_kept_X3_size rfl rfl rfl (by decide +kernel) ⟨Nat.le_of_ble_eq_true rfl, Nat.le_of_ble_eq_true rfl⟩) hP hK 3 0 rfl rfl rfl hl.1 rfl (Nat.le_of_ble_eq_true rfl) dX3_kept_97 ⟨Nat.zero_le _, Nat.zero_le _⟩ (fun r hw => ?_)
          subst hw
          refine lv_goto (tgt := 104) hx hb dX3_kept_100 (by decide) ?_
          refine lv_iadd hx hb dX3_kept_104 ?_
          refine lv_istore_n (lv' := [(1, .int ((keptM ofs kd vl fr co j) + (sizeM fr (j + 1)))), (0, .ref m0), (2, .int (nI (j + 1))), (3, .int (b2i (tolM ofs kd vl (j + 1) co)))]) hx hb dX3_kept_105 rfl hl (by decide) rfl (fun ls hl => ?_)
          refine lv_iinc (v := nI (j + 1 + 1)) (lv' := [(2, .int (nI (j + 1 + 1))), (1, .int ((keptM ofs kd vl fr co j) + (sizeM fr (j + 1)))), (0, .ref m0), (3, .int (b2i (tolM ofs kd vl (j + 1) co)))]) hx hb dX3_kept_106 hl (k := 2) rfl (show (nI (j + 1)) + Int32.ofInt (1) = nI (j + 1 + 1) from nI_1 (j + 1)) (by decide) rfl (fun ls hl => ?_)
          refine lv_goto (tgt := 4) hx hb dX3_kept_109 (by decide) ?_
          have e9 : ((keptM ofs kd vl fr co j) + (sizeM fr (j + 1)) : Int32) = keptM ofs kd vl fr co (j + 1) := by rw [keptM, b2i_n c92]; rfl
          have hl := (lv_sub hl [2, 1, 0] rfl)
          have hl : lv_has ls 5 [(0, .ref m0), (1, .int ((keptM ofs kd vl fr co j) + (sizeM fr (j + 1)))), (2, .int (nI (j + 1 + 1)))] := hl
          rw [e9] at hl
          exact ih _ ls (by omega) hl
  refine lv_iconst (v := 0) hx hb dX3_kept_0 (by decide) ?_
  refine lv_istore_n (lv' := [(1, .int 0), (0, .ref m0)]) hx hb dX3_kept_1 rfl hl (by decide) rfl (fun ls hl => ?_)
  refine lv_iconst (v := 1) hx hb dX3_kept_2 (by decide) ?_
  refine lv_istore_n (lv' := [(2, .int 1), (1, .int 0), (0, .ref m0)]) hx hb dX3_kept_3 rfl hl (by decide) rfl (fun ls hl => ?_)
  have hl := (lv_sub hl [2, 1, 0] rfl)
  have hl : lv_has ls 5 [(0, .ref m0), (1, .int (keptM ofs kd vl fr co 0)), (2, .int (nI (0 + 1)))] := hl
  exact outer (ro - 1) 0 ls (by omega) hl
set_option maxHeartbeats 4000000 in
set_option maxRecDepth 100000 in
theorem c_X3_open (l : Launch) (dC : Nat → ClassId) (dI : Nat → Nat → Nat) (cI : ClassId) (m0 m1 m2 m3 m4 m5 m6 : Nat) (th : Int32) (gr co : Nat) (ofs grp : Nat → Nat) (kd vl : Nat → Int32) (ro : Nat) (fr : Nat → Nat) (nm : Nat → Int32) (dr : Nat)  (hg : gr < 2 ^ 31) : mWi l yX3_open wsX3_open ({ frames := 0, cells := 0, slots := 0, locals := 0 }) (dC, dI) cI [.ref m0] (wM cI m0 m1 m2 m3 m4 m5 m6 th gr co ofs grp kd vl ro fr nm dr) (fun r u => r = (mOpen (th, gr, co, ofs, grp, kd, vl, ro, fr, nm, dr)).1 ∧ u = (mOpen (th, gr, co, ofs, grp, kd, vl, ro, fr, nm, dr)).2) (fun u : MS => wM cI m0 m1 m2 m3 m4 m5 m6 u.1 u.2.1 u.2.2.1 u.2.2.2.1 u.2.2.2.2.1 u.2.2.2.2.2.1 u.2.2.2.2.2.2.1 u.2.2.2.2.2.2.2.1 u.2.2.2.2.2.2.2.2.1 u.2.2.2.2.2.2.2.2.2.1 u.2.2.2.2.2.2.2.2.2.2) := by
  refine m_ofWi (cc := cX3_open) (maxL := 1) (by decide) rfl (Nat.le_of_ble_eq_true rfl) ?_
  intro p e s m args below meth c ls A Q hx hb hts hown hml hP hK hD hA hS hl hret
  have hown : s.vm.findClass RX3 = some m.cls := hown
  have hl : lv_has ls 1 [(0, .ref m0)] := hl
  have l32 := hts (.fieldLink RX3 32 "GroupDeskModel" "thrown" "I") (by decide +kernel)
  have l35 := hts (.fieldLink RX3 35 "GroupDeskModel" "groups" "I") (by decide +kernel)
  have iX3 : ∀ w ∈ u_ws RX3 TX3 11, w ∈ wsX3_open := by decide +kernel
  refine lv_aload_n hx hb dX3_open_0 rfl (lv_at hl 0 rfl) ?_
  refine lv_iconst (v := 0) hx hb dX3_open_1 (by decide) ?_
  refine va_put (D := (dC, dI)) (ci := 3) (v := .int 0) (ty := .int) (C := RX3) (T := TX3) (N := 11) hx hb hts iX3 tyX3 tyX3_ok nmX3 hown hK hP hD hS 0 rfl rfl 0 (by decide) l32 (fun _ h9 => h9) rfl (by decide +kernel) rfl rfl (Nat.le_of_ble_eq_true rfl) dX3_open_2 (fun H locs hP hD hS => ?_)
  have hP : va_P (dC, dI) vwCl (wM cI m0 m1 m2 m3 m4 m5 m6 0 gr co ofs grp kd vl ro fr nm dr) _ := hP
  have hD : va_D A (wM cI m0 m1 m2 m3 m4 m5 m6 0 gr co ofs grp kd vl ro fr nm dr) := hD
  refine lv_aload_n hx hb dX3_open_5 rfl (lv_at hl 0 rfl) ?_
  refine va_get (D := (dC, dI)) (ci := 3) (v := .int (nI gr)) (C := RX3) (T := TX3) (N := 11) hx hb hts iX3 hown hK hP 0 rfl rfl 1 (by decide) l35 (fun _ h9 => h9) rfl dX3_open_6 ?_
  refine lv_sipush (v := nI 200) hx hb dX3_open_9 (by decide) ?_
  refine lv_icmp_ne (tgt := 17) hx hb dX3_open_12 (by decide) (fun c12 => ?_) (fun c12 => ?_)
  · refine lv_aload_n hx hb dX3_open_17 rfl (lv_at hl 0 rfl) ?_
    refine lv_dup hx hb dX3_open_18 rfl ?_
    refine va_get (D := (dC, dI)) (ci := 3) (v := .int (nI gr)) (C := RX3) (T := TX3) (N := 11) hx hb hts iX3 hown hK hP 0 rfl rfl 1 (by decide) l35 (fun _ h9 => h9) rfl dX3_open_19 ?_
    refine lv_iconst (v := 1) hx hb dX3_open_22 (by decide) ?_
    refine lv_iadd hx hb dX3_open_23 ?_
    refine mv_top (v := nI (gr + 1)) (nI_1 gr) ?_
    refine va_put (D := (dC, dI)) (ci := 3) (v := .int (nI (gr + 1))) (ty := .int) (C := RX3) (T := TX3) (N := 11) hx hb hts iX3 tyX3 tyX3_ok nmX3 hown hK hP hD hS 0 rfl rfl 1 (by decide) l35 (fun _ h9 => h9) rfl (by decide +kernel) rfl rfl (Nat.le_of_ble_eq_true rfl) dX3_open_24 (fun H locs hP hD hS => ?_)
    have hP : va_P (dC, dI) vwCl (wM cI m0 m1 m2 m3 m4 m5 m6 0 (gr + 1) co ofs grp kd vl ro fr nm dr) _ := hP
    have hD : va_D A (wM cI m0 m1 m2 m3 m4 m5 m6 0 (gr + 1) co ofs grp kd vl ro fr nm dr) := hD
    refine lv_iconst (v := 1) hx hb dX3_open_27 (by decide) ?_
    exact hret 1 ((0, gr + 1, co, ofs, grp, kd, vl, ro, fr, nm, dr)) (rfl) (by simp only [mOpen]; rw [if_neg (fun h => c12 (by rw [h]))]; exact ⟨rfl, rfl⟩) hP hD hS dX3_open_28
  · refine lv_iconst (v := 0) hx hb dX3_open_15 (by decide) ?_
    exact hret 0 ((0, gr, co, ofs, grp, kd, vl, ro, fr, nm, dr)) (rfl) (by simp only [mOpen]; rw [if_pos ((nI_eq hg (by decide)).mp c12)]; exact ⟨rfl, rfl⟩) hP hD hS dX3_open_16
set_option maxHeartbeats 4000000 in
set_option maxRecDepth 100000 in
theorem c_X3_close (l : Launch) (dC : Nat → ClassId) (dI : Nat → Nat → Nat) (cI : ClassId) (m0 m1 m2 m3 m4 m5 m6 : Nat) (th : Int32) (gr co : Nat) (ofs grp : Nat → Nat) (kd vl : Nat → Int32) (ro : Nat) (fr : Nat → Nat) (nm : Nat → Int32) (dr : Nat)  (hco : co < 4200) (hg : gr < 2 ^ 31) (hgr : ∀ i, i < co → grp i < 2 ^ 31) : mWi l yX3_close wsX3_close ({ frames := 1, cells := 0, slots := 0, locals := 24 }) (dC, dI) cI [.ref m0] (wM cI m0 m1 m2 m3 m4 m5 m6 th gr co ofs grp kd vl ro fr nm dr) (fun r u => r = (mClose (th, gr, co, ofs, grp, kd, vl, ro, fr, nm, dr)).1 ∧ u = (mClose (th, gr, co, ofs, grp, kd, vl, ro, fr, nm, dr)).2) (fun u : MS => wM cI m0 m1 m2 m3 m4 m5 m6 u.1 u.2.1 u.2.2.1 u.2.2.2.1 u.2.2.2.2.1 u.2.2.2.2.2.1 u.2.2.2.2.2.2.1 u.2.2.2.2.2.2.2.1 u.2.2.2.2.2.2.2.2.1 u.2.2.2.2.2.2.2.2.2.1 u.2.2.2.2.2.2.2.2.2.2) := by
  refine m_ofWi (cc := cX3_close) (maxL := 1) (by decide) rfl (Nat.le_of_ble_eq_true rfl) ?_
  intro p e s m args below meth c ls A Q hx hb hts hown hml hP hK hD hA hS hl hret
  have hown : s.vm.findClass RX3 = some m.cls := hown
  have hl : lv_has ls 1 [(0, .ref m0)] := hl
  have l32 := hts (.fieldLink RX3 32 "GroupDeskModel" "thrown" "I") (by decide +kernel)
  have l35 := hts (.fieldLink RX3 35 "GroupDeskModel" "groups" "I") (by decide +kernel)
  have iX3 : ∀ w ∈ u_ws RX3 TX3 11, w ∈ wsX3_close := by decide +kernel
  refine lv_aload_n hx hb dX3_close_0 rfl (lv_at hl 0 rfl) ?_
  refine lv_iconst (v := 0) hx hb dX3_close_1 (by decide) ?_
  refine va_put (D := (dC, dI)) (ci := 3) (v := .int 0) (ty := .int) (C := RX3) (T := TX3) (N := 11) hx hb hts iX3 tyX3 tyX3_ok nmX3 hown hK hP hD hS 0 rfl rfl 0 (by decide) l32 (fun _ h9 => h9) rfl (by decide +kernel) rfl rfl (Nat.le_of_ble_eq_true rfl) dX3_close_2 (fun H locs hP hD hS => ?_)
  have hP : va_P (dC, dI) vwCl (wM cI m0 m1 m2 m3 m4 m5 m6 0 gr co ofs grp kd vl ro fr nm dr) _ := hP
  have hD : va_D A (wM cI m0 m1 m2 m3 m4 m5 m6 0 gr co ofs grp kd vl ro fr nm dr) := hD
  refine lv_aload_n hx hb dX3_close_5 rfl (lv_at hl 0 rfl) ?_
  refine va_get (D := (dC, dI)) (ci := 3) (v := .int (nI gr)) (C := RX3) (T := TX3) (N := 11) hx hb hts iX3 hown hK hP 0 rfl rfl 1 (by decide) l35 (fun _ h9 => h9) rfl dX3_close_6 ?_
  refine lv_if_ne (tgt := 14) hx hb dX3_close_9 (by decide) (fun c9 => ?_) (fun c9 => ?_)
  · refine lv_aload_n hx hb dX3_close_14 rfl (lv_at hl 0 rfl) ?_
    refine lv_iconst (v := (-1)) hx hb dX3_close_15 (by decide) ?_
    refine lv_aload_n hx hb dX3_close_16 rfl (lv_at hl 0 rfl) ?_
    refine va_get (D := (dC, dI)) (ci := 3) (v := .int (nI gr)) (C := RX3) (T := TX3) (N := 11) hx hb hts iX3 hown hK hP 0 rfl rfl 1 (by decide) l35 (fun _ h9 => h9) rfl dX3_close_17 ?_
    have hP : va_P (dC, dI) vwCl ([] ++ (wM cI m0 m1 m2 m3 m4 m5 m6 0 gr co ofs grp kd vl ro fr nm dr)) _ := hP
    have hD : va_D A ([] ++ (wM cI m0 m1 m2 m3 m4 m5 m6 0 gr co ofs grp kd vl ro fr nm dr)) := hD
    refine m_wVv (As := [.int ((-1)), .int (nI gr)]) (rest := []) ⟨hx, hb, hml, hown, hts⟩ (c_X3_drop l dC dI cI m0 m1 m2 m3 m4 m5 m6 0 gr co ofs grp kd vl ro fr nm dr ((-1)) gr (by omega) hg hgr) (cwV 2 hts gX3_close_X3_drop rfl rfl rfl (by decide +kernel) ⟨Nat.le_of_ble_eq_true rfl, Nat.le_of_ble_eq_true rfl⟩) hP hK hD hS hA 3 0 rfl rfl rfl hl.1 rfl (Nat.le_of_ble_eq_true rfl) dX3_close_20 ⟨Nat.zero_le _, Nat.zero_le _⟩ (fun u H locs hw hP hD hS => ?_)
    subst hw
    have hP : va_P (dC, dI) vwCl (wM cI m0 m1 m2 m3 m4 m5 m6 0 gr ((dropF (kp ((-1)) gr) co 0 0 ofs grp kd vl).1) ((dropF (kp ((-1)) gr) co 0 0 ofs grp kd vl).2.1) ((dropF (kp ((-1)) gr) co 0 0 ofs grp kd vl).2.2.1) ((dropF (kp ((-1)) gr) co 0 0 ofs grp kd vl).2.2.2.1) ((dropF (kp ((-1)) gr) co 0 0 ofs grp kd vl).2.2.2.2) ro fr nm dr) _ := hP
    have hD : va_D A (wM cI m0 m1 m2 m3 m4 m5 m6 0 gr ((dropF (kp ((-1)) gr) co 0 0 ofs grp kd vl).1) ((dropF (kp ((-1)) gr) co 0 0 ofs grp kd vl).2.1) ((dropF (kp ((-1)) gr) co 0 0 ofs grp kd vl).2.2.1) ((dropF (kp ((-1)) gr) co 0 0 ofs grp kd vl).2.2.2.1) ((dropF (kp ((-1)) gr) co 0 0 ofs grp kd vl).2.2.2.2) ro fr nm dr) := hD
    refine lv_aload_n hx hb dX3_close_23 rfl (lv_at hl 0 rfl) ?_
    refine lv_dup hx hb dX3_close_24 rfl ?_
    refine va_get (D := (dC, dI)) (ci := 3) (v := .int (nI gr)) (C := RX3) (T := TX3) (N := 11) hx hb hts iX3 hown hK hP 0 rfl rfl 1 (by decide) l35 (fun _ h9 => h9) rfl dX3_close_25 ?_
    refine lv_iconst (v := 1) hx hb dX3_close_28 (by decide) ?_
    refine lv_isub hx hb dX3_close_29 ?_
    refine mv_top (v := nI (gr - 1)) (by rw [show (1 : Int32) = nI 1 from rfl]; exact pk_sub (by have h7 : ¬ gr = 0 := fun h => c9 (by rw [h]; rfl); omega)) ?_
    refine va_put (D := (dC, dI)) (ci := 3) (v := .int (nI (gr - 1))) (ty := .int) (C := RX3) (T := TX3) (N := 11) hx hb hts iX3 tyX3 tyX3_ok nmX3 hown hK hP hD hS 0 rfl rfl 1 (by decide) l35 (fun _ h9 => h9) rfl (by decide +kernel) rfl rfl (Nat.le_of_ble_eq_true rfl) dX3_close_30 (fun H locs hP hD hS => ?_)
    have hP : va_P (dC, dI) vwCl (wM cI m0 m1 m2 m3 m4 m5 m6 0 (gr - 1) ((dropF (kp ((-1)) gr) co 0 0 ofs grp kd vl).1) ((dropF (kp ((-1)) gr) co 0 0 ofs grp kd vl).2.1) ((dropF (kp ((-1)) gr) co 0 0 ofs grp kd vl).2.2.1) ((dropF (kp ((-1)) gr) co 0 0 ofs grp kd vl).2.2.2.1) ((dropF (kp ((-1)) gr) co 0 0 ofs grp kd vl).2.2.2.2) ro fr nm dr) _ := hP
    have hD : va_D A (wM cI m0 m1 m2 m3 m4 m5 m6 0 (gr - 1) ((dropF (kp ((-1)) gr) co 0 0 ofs grp kd vl).1) ((dropF (kp ((-1)) gr) co 0 0 ofs grp kd vl).2.1) ((dropF (kp ((-1)) gr) co 0 0 ofs grp kd vl).2.2.1) ((dropF (kp ((-1)) gr) co 0 0 ofs grp kd vl).2.2.2.1) ((dropF (kp ((-1)) gr) co 0 0 ofs grp kd vl).2.2.2.2) ro fr nm dr) := hD
    refine lv_iconst (v := 1) hx hb dX3_close_33 (by decide) ?_
    exact hret 1 ((0, gr - 1, (dropF (kp ((-1)) gr) co 0 0 ofs grp kd vl).1, (dropF (kp ((-1)) gr) co 0 0 ofs grp kd vl).2.1, (dropF (kp ((-1)) gr) co 0 0 ofs grp kd vl).2.2.1, (dropF (kp ((-1)) gr) co 0 0 ofs grp kd vl).2.2.2.1, (dropF (kp ((-1)) gr) co 0 0 ofs grp kd vl).2.2.2.2, ro, fr, nm, dr)) (rfl) (by simp only [mClose]; rw [if_neg (fun h => c9 (by rw [h]; rfl))]; exact ⟨rfl, rfl⟩) hP hD hS dX3_close_34
  · refine lv_iconst (v := 0) hx hb dX3_close_12 (by decide) ?_
    exact hret 0 ((0, gr, co, ofs, grp, kd, vl, ro, fr, nm, dr)) (rfl) (by simp only [mClose]; rw [if_pos ((nI_eq hg (by decide)).mp (c9.trans nI_0.symm))]; exact ⟨rfl, rfl⟩) hP hD hS dX3_close_13
set_option maxHeartbeats 4000000 in
set_option maxRecDepth 100000 in
theorem c_X3_set (l : Launch) (dC : Nat → ClassId) (dI : Nat → Nat → Nat) (cI : ClassId) (m0 m1 m2 m3 m4 m5 m6 : Nat) (th : Int32) (gr co : Nat) (ofs grp : Nat → Nat) (kd vl : Nat → Int32) (ro : Nat) (fr : Nat → Nat) (nm : Nat → Int32) (dr : Nat) (x y g : Int32) (hco : co < 4200) (hg : gr < 2 ^ 31) (hgr : ∀ i, i < co → grp i < 2 ^ 31) : mWi l yX3_set wsX3_set ({ frames := 2, cells := 0, slots := 0, locals := 49 }) (dC, dI) cI [.ref m0, .int x, .int y, .int g] (wM cI m0 m1 m2 m3 m4 m5 m6 th gr co ofs grp kd vl ro fr nm dr) (fun r u => r = (mSet x y g (th, gr, co, ofs, grp, kd, vl, ro, fr, nm, dr)).1 ∧ u = (mSet x y g (th, gr, co, ofs, grp, kd, vl, ro, fr, nm, dr)).2) (fun u : MS => wM cI m0 m1 m2 m3 m4 m5 m6 u.1 u.2.1 u.2.2.1 u.2.2.2.1 u.2.2.2.2.1 u.2.2.2.2.2.1 u.2.2.2.2.2.2.1 u.2.2.2.2.2.2.2.1 u.2.2.2.2.2.2.2.2.1 u.2.2.2.2.2.2.2.2.2.1 u.2.2.2.2.2.2.2.2.2.2) := by
  refine m_ofWi (cc := cX3_set) (maxL := 4) (by decide) rfl (Nat.le_of_ble_eq_true rfl) ?_
  intro p e s m args below meth c ls A Q hx hb hts hown hml hP hK hD hA hS hl hret
  have hown : s.vm.findClass RX3 = some m.cls := hown
  have hl : lv_has ls 4 [(0, .ref m0), (1, .int x), (2, .int y), (3, .int g)] := hl
  have l32 := hts (.fieldLink RX3 32 "GroupDeskModel" "thrown" "I") (by decide +kernel)
  have iX3 : ∀ w ∈ u_ws RX3 TX3 11, w ∈ wsX3_set := by decide +kernel
  refine lv_aload_n hx hb dX3_set_0 rfl (lv_at hl 0 rfl) ?_
  refine lv_iconst (v := 0) hx hb dX3_set_1 (by decide) ?_
  refine va_put (D := (dC, dI)) (ci := 3) (v := .int 0) (ty := .int) (C := RX3) (T := TX3) (N := 11) hx hb hts iX3 tyX3 tyX3_ok nmX3 hown hK hP hD hS 0 rfl rfl 0 (by decide) l32 (fun _ h9 => h9) rfl (by decide +kernel) rfl rfl (Nat.le_of_ble_eq_true rfl) dX3_set_2 (fun H locs hP hD hS => ?_)
  have hP : va_P (dC, dI) vwCl (wM cI m0 m1 m2 m3 m4 m5 m6 0 gr co ofs grp kd vl ro fr nm dr) _ := hP
  have hD : va_D A (wM cI m0 m1 m2 m3 m4 m5 m6 0 gr co ofs grp kd vl ro fr nm dr) := hD
  refine lv_iload_n hx hb dX3_set_5 rfl (lv_at hl 1 rfl) ?_
  refine m_rS (As := [.int x]) (rest := []) ⟨hx, hb, hml, hown, hts⟩ (c_X3_isCell l dC dI cI x) (va_cwS 1 hts gX3_set_X3_isCell rfl rfl rfl (by decide +kernel) ⟨Nat.le_of_ble_eq_true rfl, Nat.le_of_ble_eq_true rfl⟩) ma_nil hK rfl hl.1 rfl (Nat.le_of_ble_eq_true rfl) dX3_set_6 ⟨Nat.zero_le _, Nat.zero_le _⟩ (fun r hw => ?_)
  subst hw
  refine lv_if_ne (tgt := 14) hx hb dX3_set_9 (by decide) (fun c9 => ?_) (fun c9 => ?_)
  · have hj := b2i_n c9
    have hi := isR_of (by decide) hj
    refine lv_aload_n hx hb dX3_set_14 rfl (lv_at hl 0 rfl) ?_
    refine lv_iload_n hx hb dX3_set_15 rfl (lv_at hl 1 rfl) ?_
    refine mv_top (v := nI (rj x)) (hi.2) ?_
    refine lv_iconst (v := 0) hx hb dX3_set_16 (by decide) ?_
    refine lv_iload_n hx hb dX3_set_17 rfl (lv_at hl 2 rfl) ?_
    refine lv_iload_n hx hb dX3_set_18 rfl (lv_at hl 3 rfl) ?_
    have hP : va_P (dC, dI) vwCl ([] ++ (wM cI m0 m1 m2 m3 m4 m5 m6 0 gr co ofs grp kd vl ro fr nm dr)) _ := hP
    have hD : va_D A ([] ++ (wM cI m0 m1 m2 m3 m4 m5 m6 0 gr co ofs grp kd vl ro fr nm dr)) := hD
    refine m_wVv (As := [.int (nI (rj x)), .int 0, .int y, .int g]) (rest := []) ⟨hx, hb, hml, hown, hts⟩ (c_X3_assign l dC dI cI m0 m1 m2 m3 m4 m5 m6 0 gr co ofs grp kd vl ro fr nm dr (rj x) 0 y g hco hg hgr) (cwV 4 hts gX3_set_X3_assign rfl rfl rfl (by decide +kernel) ⟨Nat.le_of_ble_eq_true rfl, Nat.le_of_ble_eq_true rfl⟩) hP hK hD hS hA 3 0 rfl rfl rfl hl.1 rfl (Nat.le_of_ble_eq_true rfl) dX3_set_19 ⟨Nat.zero_le _, Nat.zero_le _⟩ (fun u H locs hw hP hD hS => ?_)
    subst hw
    have hP : va_P (dC, dI) vwCl (wM cI m0 m1 m2 m3 m4 m5 m6 0 gr ((asgM (rj x) 0 y g gr co ofs grp kd vl).1) ((asgM (rj x) 0 y g gr co ofs grp kd vl).2.1) ((asgM (rj x) 0 y g gr co ofs grp kd vl).2.2.1) ((asgM (rj x) 0 y g gr co ofs grp kd vl).2.2.2.1) ((asgM (rj x) 0 y g gr co ofs grp kd vl).2.2.2.2) ro fr nm dr) _ := hP
    have hD : va_D A (wM cI m0 m1 m2 m3 m4 m5 m6 0 gr ((asgM (rj x) 0 y g gr co ofs grp kd vl).1) ((asgM (rj x) 0 y g gr co ofs grp kd vl).2.1) ((asgM (rj x) 0 y g gr co ofs grp kd vl).2.2.1) ((asgM (rj x) 0 y g gr co ofs grp kd vl).2.2.2.1) ((asgM (rj x) 0 y g gr co ofs grp kd vl).2.2.2.2) ro fr nm dr) := hD
    refine lv_iconst (v := 1) hx hb dX3_set_22 (by decide) ?_
    exact hret 1 ((0, gr, (asgM (rj x) 0 y g gr co ofs grp kd vl).1, (asgM (rj x) 0 y g gr co ofs grp kd vl).2.1, (asgM (rj x) 0 y g gr co ofs grp kd vl).2.2.1, (asgM (rj x) 0 y g gr co ofs grp kd vl).2.2.2.1, (asgM (rj x) 0 y g gr co ofs grp kd vl).2.2.2.2, ro, fr, nm, dr)) (rfl) (by simp only [mSet, mAsg]; rw [if_pos hj]; exact ⟨rfl, rfl⟩) hP hD hS dX3_set_23
  · have hj := b2i_0 c9
    refine lv_iconst (v := 0) hx hb dX3_set_12 (by decide) ?_
    exact hret 0 ((0, gr, co, ofs, grp, kd, vl, ro, fr, nm, dr)) (rfl) (by simp only [mSet, mAsg]; rw [if_neg (by rw [hj]; decide)]; exact ⟨rfl, rfl⟩) hP hD hS dX3_set_13
set_option maxHeartbeats 4000000 in
set_option maxRecDepth 100000 in
theorem c_X3_mean (l : Launch) (dC : Nat → ClassId) (dI : Nat → Nat → Nat) (cI : ClassId) (m0 m1 m2 m3 m4 m5 m6 : Nat) (th : Int32) (gr co : Nat) (ofs grp : Nat → Nat) (kd vl : Nat → Int32) (ro : Nat) (fr : Nat → Nat) (nm : Nat → Int32) (dr : Nat) (x k y g : Int32) (hco : co < 4200) (hg : gr < 2 ^ 31) (hgr : ∀ i, i < co → grp i < 2 ^ 31) : mWi l yX3_mean wsX3_mean ({ frames := 2, cells := 0, slots := 0, locals := 49 }) (dC, dI) cI [.ref m0, .int x, .int k, .int y, .int g] (wM cI m0 m1 m2 m3 m4 m5 m6 th gr co ofs grp kd vl ro fr nm dr) (fun r u => r = (mMean x k y g (th, gr, co, ofs, grp, kd, vl, ro, fr, nm, dr)).1 ∧ u = (mMean x k y g (th, gr, co, ofs, grp, kd, vl, ro, fr, nm, dr)).2) (fun u : MS => wM cI m0 m1 m2 m3 m4 m5 m6 u.1 u.2.1 u.2.2.1 u.2.2.2.1 u.2.2.2.2.1 u.2.2.2.2.2.1 u.2.2.2.2.2.2.1 u.2.2.2.2.2.2.2.1 u.2.2.2.2.2.2.2.2.1 u.2.2.2.2.2.2.2.2.2.1 u.2.2.2.2.2.2.2.2.2.2) := by
  refine m_ofWi (cc := cX3_mean) (maxL := 5) (by decide) rfl (Nat.le_of_ble_eq_true rfl) ?_
  intro p e s m args below meth c ls A Q hx hb hts hown hml hP hK hD hA hS hl hret
  have hown : s.vm.findClass RX3 = some m.cls := hown
  have hl : lv_has ls 5 [(0, .ref m0), (1, .int x), (2, .int k), (3, .int y), (4, .int g)] := hl
  have l32 := hts (.fieldLink RX3 32 "GroupDeskModel" "thrown" "I") (by decide +kernel)
  have iX3 : ∀ w ∈ u_ws RX3 TX3 11, w ∈ wsX3_mean := by decide +kernel
  refine lv_aload_n hx hb dX3_mean_0 rfl (lv_at hl 0 rfl) ?_
  refine lv_iconst (v := 0) hx hb dX3_mean_1 (by decide) ?_
  refine va_put (D := (dC, dI)) (ci := 3) (v := .int 0) (ty := .int) (C := RX3) (T := TX3) (N := 11) hx hb hts iX3 tyX3 tyX3_ok nmX3 hown hK hP hD hS 0 rfl rfl 0 (by decide) l32 (fun _ h9 => h9) rfl (by decide +kernel) rfl rfl (Nat.le_of_ble_eq_true rfl) dX3_mean_2 (fun H locs hP hD hS => ?_)
  have hP : va_P (dC, dI) vwCl (wM cI m0 m1 m2 m3 m4 m5 m6 0 gr co ofs grp kd vl ro fr nm dr) _ := hP
  have hD : va_D A (wM cI m0 m1 m2 m3 m4 m5 m6 0 gr co ofs grp kd vl ro fr nm dr) := hD
  refine lv_iload_n hx hb dX3_mean_5 rfl (lv_at hl 1 rfl) ?_
  refine m_rS (As := [.int x]) (rest := []) ⟨hx, hb, hml, hown, hts⟩ (c_X3_isName l dC dI cI x) (va_cwS 1 hts gX3_mean_X3_isName rfl rfl rfl (by decide +kernel) ⟨Nat.le_of_ble_eq_true rfl, Nat.le_of_ble_eq_true rfl⟩) ma_nil hK rfl hl.1 rfl (Nat.le_of_ble_eq_true rfl) dX3_mean_6 ⟨Nat.zero_le _, Nat.zero_le _⟩ (fun r hw => ?_)
  subst hw
  refine lv_if_eq (tgt := 27) hx hb dX3_mean_9 (by decide) (fun c9 => ?_) (fun c9 => ?_)
  · have hj := b2i_0 c9
    refine lv_iconst (v := 0) hx hb dX3_mean_27 (by decide) ?_
    exact hret 0 ((0, gr, co, ofs, grp, kd, vl, ro, fr, nm, dr)) (rfl) (by simp only [mMean, mAsg]; rw [if_neg (by rw [hj, Bool.false_and]; decide)]; exact ⟨rfl, rfl⟩) hP hD hS dX3_mean_28
  · have hj := b2i_n c9
    have hix := isR_of (by decide) hj
    refine lv_iload_n hx hb dX3_mean_12 rfl (lv_at hl 2 rfl) ?_
    refine lv_if_lt (tgt := 27) hx hb dX3_mean_13 (by decide) (fun c13 => ?_) (fun c13 => ?_)
    · refine lv_iconst (v := 0) hx hb dX3_mean_27 (by decide) ?_
      exact hret 0 ((0, gr, co, ofs, grp, kd, vl, ro, fr, nm, dr)) (rfl) (by simp only [mMean, mAsg]; rw [if_neg (by unfold kOk; rw [decide_eq_false (not_not_intro c13), Bool.false_and, Bool.false_and, Bool.and_false]; decide)]; exact ⟨rfl, rfl⟩) hP hD hS dX3_mean_28
    · refine lv_iload_n hx hb dX3_mean_16 rfl (lv_at hl 2 rfl) ?_
      refine lv_bipush (v := nI 8) hx hb dX3_mean_17 (by decide) ?_
      refine lv_icmp_gt (tgt := 27) hx hb dX3_mean_19 (by decide) (fun c19 => ?_) (fun c19 => ?_)
      · refine lv_iconst (v := 0) hx hb dX3_mean_27 (by decide) ?_
        exact hret 0 ((0, gr, co, ofs, grp, kd, vl, ro, fr, nm, dr)) (rfl) (by simp only [mMean, mAsg]; rw [if_neg (by unfold kOk; rw [decide_eq_false (not_not_intro c19), Bool.and_false, Bool.false_and, Bool.and_false]; decide)]; exact ⟨rfl, rfl⟩) hP hD hS dX3_mean_28
      · refine lv_iload_n hx hb dX3_mean_22 rfl (lv_at hl 2 rfl) ?_
        refine lv_iconst (v := 3) hx hb dX3_mean_23 (by decide) ?_
        refine lv_icmp_ne (tgt := 29) hx hb dX3_mean_24 (by decide) (fun c24 => ?_) (fun c24 => ?_)
        · refine lv_aload_n hx hb dX3_mean_29 rfl (lv_at hl 0 rfl) ?_
          refine lv_sipush (v := nI 3000) hx hb dX3_mean_30 (by decide) ?_
          refine lv_iload_n hx hb dX3_mean_33 rfl (lv_at hl 1 rfl) ?_
          refine lv_iadd hx hb dX3_mean_34 ?_
          refine mv_top (v := nI (3000 + rj x)) (by rw [hix.2, rj_nI (by have := hix.1; omega)]; exact nI_add 3000 _) ?_
          refine lv_iload_n hx hb dX3_mean_35 rfl (lv_at hl 2 rfl) ?_
          refine lv_iload_n hx hb dX3_mean_36 rfl (lv_at hl 3 rfl) ?_
          refine lv_iload hx hb dX3_mean_37 (lv_at hl 4 rfl) ?_
          have hP : va_P (dC, dI) vwCl ([] ++ (wM cI m0 m1 m2 m3 m4 m5 m6 0 gr co ofs grp kd vl ro fr nm dr)) _ := hP
          have hD : va_D A ([] ++ (wM cI m0 m1 m2 m3 m4 m5 m6 0 gr co ofs grp kd vl ro fr nm dr)) := hD
          refine m_wVv (As := [.int (nI (3000 + rj x)), .int k, .int y, .int g]) (rest := []) ⟨hx, hb, hml, hown, hts⟩ (c_X3_assign l dC dI cI m0 m1 m2 m3 m4 m5 m6 0 gr co ofs grp kd vl ro fr nm dr (3000 + rj x) k y g hco hg hgr) (cwV 4 hts gX3_mean_X3_assign rfl rfl rfl (by decide +kernel) ⟨Nat.le_of_ble_eq_true rfl, Nat.le_of_ble_eq_true rfl⟩) hP hK hD hS hA 3 0 rfl rfl rfl hl.1 rfl (Nat.le_of_ble_eq_true rfl) dX3_mean_39 ⟨Nat.zero_le _, Nat.zero_le _⟩ (fun u H locs hw hP hD hS => ?_)
          subst hw
          have hP : va_P (dC, dI) vwCl (wM cI m0 m1 m2 m3 m4 m5 m6 0 gr ((asgM (3000 + rj x) k y g gr co ofs grp kd vl).1) ((asgM (3000 + rj x) k y g gr co ofs grp kd vl).2.1) ((asgM (3000 + rj x) k y g gr co ofs grp kd vl).2.2.1) ((asgM (3000 + rj x) k y g gr co ofs grp kd vl).2.2.2.1) ((asgM (3000 + rj x) k y g gr co ofs grp kd vl).2.2.2.2) ro fr nm dr) _ := hP
          have hD : va_D A (wM cI m0 m1 m2 m3 m4 m5 m6 0 gr ((asgM (3000 + rj x) k y g gr co ofs grp kd vl).1) ((asgM (3000 + rj x) k y g gr co ofs grp kd vl).2.1) ((asgM (3000 + rj x) k y g gr co ofs grp kd vl).2.2.1) ((asgM (3000 + rj x) k y g gr co ofs grp kd vl).2.2.2.1) ((asgM (3000 + rj x) k y g gr co ofs grp kd vl).2.2.2.2) ro fr nm dr) := hD
          refine lv_iconst (v := 1) hx hb dX3_mean_42 (by decide) ?_
          exact hret 1 ((0, gr, (asgM (3000 + rj x) k y g gr co ofs grp kd vl).1, (asgM (3000 + rj x) k y g gr co ofs grp kd vl).2.1, (asgM (3000 + rj x) k y g gr co ofs grp kd vl).2.2.1, (asgM (3000 + rj x) k y g gr co ofs grp kd vl).2.2.2.1, (asgM (3000 + rj x) k y g gr co ofs grp kd vl).2.2.2.2, ro, fr, nm, dr)) (rfl) (by simp only [mMean, mAsg]; rw [if_pos (by unfold kOk; rw [hj, decide_eq_true c13, decide_eq_true c19, decide_eq_true c24]; rfl)]; exact ⟨rfl, rfl⟩) hP hD hS dX3_mean_43
        · refine lv_iconst (v := 0) hx hb dX3_mean_27 (by decide) ?_
          exact hret 0 ((0, gr, co, ofs, grp, kd, vl, ro, fr, nm, dr)) (rfl) (by simp only [mMean, mAsg]; rw [if_neg (by unfold kOk; rw [decide_eq_false (not_not_intro c24), Bool.and_false, Bool.and_false]; decide)]; exact ⟨rfl, rfl⟩) hP hD hS dX3_mean_28
set_option maxHeartbeats 4000000 in
set_option maxRecDepth 100000 in
theorem c_X3_draft (l : Launch) (dC : Nat → ClassId) (dI : Nat → Nat → Nat) (cI : ClassId) (m0 m1 m2 m3 m4 m5 m6 : Nat) (th : Int32) (gr co : Nat) (ofs grp : Nat → Nat) (kd vl : Nat → Int32) (ro : Nat) (fr : Nat → Nat) (nm : Nat → Int32) (dr : Nat) (x : Int32) (hro : ro < 4200) (hd : dr < 2 ^ 31) (hfd : fr ro + dr < 4400) : mWi l yX3_draft wsX3_draft ({ frames := 0, cells := 0, slots := 0, locals := 0 }) (dC, dI) cI [.ref m0, .int x] (wM cI m0 m1 m2 m3 m4 m5 m6 th gr co ofs grp kd vl ro fr nm dr) (fun r u => r = (mDraft x (th, gr, co, ofs, grp, kd, vl, ro, fr, nm, dr)).1 ∧ u = (mDraft x (th, gr, co, ofs, grp, kd, vl, ro, fr, nm, dr)).2) (fun u : MS => wM cI m0 m1 m2 m3 m4 m5 m6 u.1 u.2.1 u.2.2.1 u.2.2.2.1 u.2.2.2.2.1 u.2.2.2.2.2.1 u.2.2.2.2.2.2.1 u.2.2.2.2.2.2.2.1 u.2.2.2.2.2.2.2.2.1 u.2.2.2.2.2.2.2.2.2.1 u.2.2.2.2.2.2.2.2.2.2) := by
  refine m_ofWi (cc := cX3_draft) (maxL := 2) (by decide) rfl (Nat.le_of_ble_eq_true rfl) ?_
  intro p e s m args below meth c ls A Q hx hb hts hown hml hP hK hD hA hS hl hret
  have hown : s.vm.findClass RX3 = some m.cls := hown
  have hl : lv_has ls 2 [(0, .ref m0), (1, .int x)] := hl
  have l32 := hts (.fieldLink RX3 32 "GroupDeskModel" "thrown" "I") (by decide +kernel)
  have l60 := hts (.fieldLink RX3 60 "GroupDeskModel" "drafted" "I") (by decide +kernel)
  have l29 := hts (.fieldLink RX3 29 "GroupDeskModel" "numbers" "[I") (by decide +kernel)
  have l26 := hts (.fieldLink RX3 26 "GroupDeskModel" "from" "[I") (by decide +kernel)
  have l22 := hts (.fieldLink RX3 22 "GroupDeskModel" "rows" "I") (by decide +kernel)
  have iX3 : ∀ w ∈ u_ws RX3 TX3 11, w ∈ wsX3_draft := by decide +kernel
  refine lv_aload_n hx hb dX3_draft_0 rfl (lv_at hl 0 rfl) ?_
  refine lv_iconst (v := 0) hx hb dX3_draft_1 (by decide) ?_
  refine va_put (D := (dC, dI)) (ci := 3) (v := .int 0) (ty := .int) (C := RX3) (T := TX3) (N := 11) hx hb hts iX3 tyX3 tyX3_ok nmX3 hown hK hP hD hS 0 rfl rfl 0 (by decide) l32 (fun _ h9 => h9) rfl (by decide +kernel) rfl rfl (Nat.le_of_ble_eq_true rfl) dX3_draft_2 (fun H locs hP hD hS => ?_)
  have hP : va_P (dC, dI) vwCl (wM cI m0 m1 m2 m3 m4 m5 m6 0 gr co ofs grp kd vl ro fr nm dr) _ := hP
  have hD : va_D A (wM cI m0 m1 m2 m3 m4 m5 m6 0 gr co ofs grp kd vl ro fr nm dr) := hD
  refine lv_aload_n hx hb dX3_draft_5 rfl (lv_at hl 0 rfl) ?_
  refine va_get (D := (dC, dI)) (ci := 3) (v := .int (nI dr)) (C := RX3) (T := TX3) (N := 11) hx hb hts iX3 hown hK hP 0 rfl rfl 10 (by decide) l60 (fun _ h9 => h9) rfl dX3_draft_6 ?_
  refine lv_sipush (v := nI 200) hx hb dX3_draft_9 (by decide) ?_
  refine lv_icmp_ne (tgt := 17) hx hb dX3_draft_12 (by decide) (fun c12 => ?_) (fun c12 => ?_)
  · refine lv_aload_n hx hb dX3_draft_17 rfl (lv_at hl 0 rfl) ?_
    refine va_get (D := (dC, dI)) (ci := 3) (v := .ref m6) (C := RX3) (T := TX3) (N := 11) hx hb hts iX3 hown hK hP 0 rfl rfl 9 (by decide) l29 (fun _ h9 => h9) rfl dX3_draft_18 ?_
    refine lv_aload_n hx hb dX3_draft_21 rfl (lv_at hl 0 rfl) ?_
    refine va_get (D := (dC, dI)) (ci := 3) (v := .ref m5) (C := RX3) (T := TX3) (N := 11) hx hb hts iX3 hown hK hP 0 rfl rfl 8 (by decide) l26 (fun _ h9 => h9) rfl dX3_draft_22 ?_
    refine lv_aload_n hx hb dX3_draft_25 rfl (lv_at hl 0 rfl) ?_
    refine va_get (D := (dC, dI)) (ci := 3) (v := .int (nI ro)) (C := RX3) (T := TX3) (N := 11) hx hb hts iX3 hown hK hP 0 rfl rfl 7 (by decide) l22 (fun _ h9 => h9) rfl dX3_draft_26 ?_
    refine mv_iald hx hb hK hP 5 0 rfl rfl (k := ro) (rfl) (by omega) (by decide) (v := nI (fr ro)) rfl dX3_draft_29 ?_
    refine lv_aload_n hx hb dX3_draft_30 rfl (lv_at hl 0 rfl) ?_
    refine va_get (D := (dC, dI)) (ci := 3) (v := .int (nI dr)) (C := RX3) (T := TX3) (N := 11) hx hb hts iX3 hown hK hP 0 rfl rfl 10 (by decide) l60 (fun _ h9 => h9) rfl dX3_draft_31 ?_
    refine lv_iadd hx hb dX3_draft_34 ?_
    refine mv_top (v := nI (fr ro + dr)) (nI_add (fr ro) dr) ?_
    refine lv_iload_n hx hb dX3_draft_35 rfl (lv_at hl 1 rfl) ?_
    refine mv_iast hx hb hK hP hD hS 6 0 rfl rfl (k := fr ro + dr) (rfl) (by omega) (by decide) (f' := upd nm (fr ro + dr) x) (rfl) dX3_draft_36 (fun H locs hP hD hS => ?_)
    have hP : va_P (dC, dI) vwCl (wM cI m0 m1 m2 m3 m4 m5 m6 0 gr co ofs grp kd vl ro fr (upd nm (fr ro + dr) x) dr) _ := hP
    have hD : va_D A (wM cI m0 m1 m2 m3 m4 m5 m6 0 gr co ofs grp kd vl ro fr (upd nm (fr ro + dr) x) dr) := hD
    refine lv_aload_n hx hb dX3_draft_37 rfl (lv_at hl 0 rfl) ?_
    refine lv_dup hx hb dX3_draft_38 rfl ?_
    refine va_get (D := (dC, dI)) (ci := 3) (v := .int (nI dr)) (C := RX3) (T := TX3) (N := 11) hx hb hts iX3 hown hK hP 0 rfl rfl 10 (by decide) l60 (fun _ h9 => h9) rfl dX3_draft_39 ?_
    refine lv_iconst (v := 1) hx hb dX3_draft_42 (by decide) ?_
    refine lv_iadd hx hb dX3_draft_43 ?_
    refine mv_top (v := nI (dr + 1)) (nI_1 dr) ?_
    refine va_put (D := (dC, dI)) (ci := 3) (v := .int (nI (dr + 1))) (ty := .int) (C := RX3) (T := TX3) (N := 11) hx hb hts iX3 tyX3 tyX3_ok nmX3 hown hK hP hD hS 0 rfl rfl 10 (by decide) l60 (fun _ h9 => h9) rfl (by decide +kernel) rfl rfl (Nat.le_of_ble_eq_true rfl) dX3_draft_44 (fun H locs hP hD hS => ?_)
    have hP : va_P (dC, dI) vwCl (wM cI m0 m1 m2 m3 m4 m5 m6 0 gr co ofs grp kd vl ro fr (upd nm (fr ro + dr) x) (dr + 1)) _ := hP
    have hD : va_D A (wM cI m0 m1 m2 m3 m4 m5 m6 0 gr co ofs grp kd vl ro fr (upd nm (fr ro + dr) x) (dr + 1)) := hD
    refine lv_iconst (v := 1) hx hb dX3_draft_47 (by decide) ?_
    exact hret 1 ((0, gr, co, ofs, grp, kd, vl, ro, fr, upd nm (fr ro + dr) x, dr + 1)) (rfl) (by simp only [mDraft]; rw [if_neg (fun h => c12 (by rw [h]))]; exact ⟨rfl, rfl⟩) hP hD hS dX3_draft_48
  · refine lv_iconst (v := 0) hx hb dX3_draft_15 (by decide) ?_
    exact hret 0 ((0, gr, co, ofs, grp, kd, vl, ro, fr, nm, dr)) (rfl) (by simp only [mDraft]; rw [if_pos ((nI_eq hd (by decide)).mp c12)]; exact ⟨rfl, rfl⟩) hP hD hS dX3_draft_16
set_option maxHeartbeats 4000000 in
set_option maxRecDepth 100000 in
theorem c_X3_define (l : Launch) (dC : Nat → ClassId) (dI : Nat → Nat → Nat) (cI : ClassId) (m0 m1 m2 m3 m4 m5 m6 : Nat) (th : Int32) (gr co : Nat) (ofs grp : Nat → Nat) (kd vl : Nat → Int32) (ro : Nat) (fr : Nat → Nat) (nm : Nat → Int32) (dr : Nat) (x g : Int32) (hco : co < 4200) (hg : gr < 2 ^ 31) (hgr : ∀ i, i < co → grp i < 2 ^ 31) (hro : ro + 1 < 4200) : mWi l yX3_define wsX3_define ({ frames := 2, cells := 0, slots := 0, locals := 49 }) (dC, dI) cI [.ref m0, .int x, .int g] (wM cI m0 m1 m2 m3 m4 m5 m6 th gr co ofs grp kd vl ro fr nm dr) (fun r u => r = (mDefine x g (th, gr, co, ofs, grp, kd, vl, ro, fr, nm, dr)).1 ∧ u = (mDefine x g (th, gr, co, ofs, grp, kd, vl, ro, fr, nm, dr)).2) (fun u : MS => wM cI m0 m1 m2 m3 m4 m5 m6 u.1 u.2.1 u.2.2.1 u.2.2.2.1 u.2.2.2.2.1 u.2.2.2.2.2.1 u.2.2.2.2.2.2.1 u.2.2.2.2.2.2.2.1 u.2.2.2.2.2.2.2.2.1 u.2.2.2.2.2.2.2.2.2.1 u.2.2.2.2.2.2.2.2.2.2) := by
  refine m_ofWi (cc := cX3_define) (maxL := 4) (by decide) rfl (Nat.le_of_ble_eq_true rfl) ?_
  intro p e s m args below meth c ls A Q hx hb hts hown hml hP hK hD hA hS hl hret
  have hown : s.vm.findClass RX3 = some m.cls := hown
  have hl : lv_has ls 4 [(0, .ref m0), (1, .int x), (2, .int g)] := hl
  have l32 := hts (.fieldLink RX3 32 "GroupDeskModel" "thrown" "I") (by decide +kernel)
  have iX3 : ∀ w ∈ u_ws RX3 TX3 11, w ∈ wsX3_define := by decide +kernel
  refine lv_iload_n hx hb dX3_define_0 rfl (lv_at hl 1 rfl) ?_
  refine m_rS (As := [.int x]) (rest := []) ⟨hx, hb, hml, hown, hts⟩ (c_X3_isName l dC dI cI x) (va_cwS 1 hts gX3_define_X3_isName rfl rfl rfl (by decide +kernel) ⟨Nat.le_of_ble_eq_true rfl, Nat.le_of_ble_eq_true rfl⟩) ma_nil hK rfl hl.1 rfl (Nat.le_of_ble_eq_true rfl) dX3_define_1 ⟨Nat.zero_le _, Nat.zero_le _⟩ (fun r hw => ?_)
  subst hw
  refine lv_if_ne (tgt := 12) hx hb dX3_define_4 (by decide) (fun c4 => ?_) (fun c4 => ?_)
  · have hj := b2i_n c4
    have hix := isR_of (by decide) hj
    refine lv_aload_n hx hb dX3_define_12 rfl (lv_at hl 0 rfl) ?_
    refine lv_iconst (v := 0) hx hb dX3_define_13 (by decide) ?_
    refine va_put (D := (dC, dI)) (ci := 3) (v := .int 0) (ty := .int) (C := RX3) (T := TX3) (N := 11) hx hb hts iX3 tyX3 tyX3_ok nmX3 hown hK hP hD hS 0 rfl rfl 0 (by decide) l32 (fun _ h9 => h9) rfl (by decide +kernel) rfl rfl (Nat.le_of_ble_eq_true rfl) dX3_define_14 (fun H locs hP hD hS => ?_)
    have hP : va_P (dC, dI) vwCl (wM cI m0 m1 m2 m3 m4 m5 m6 0 gr co ofs grp kd vl ro fr nm dr) _ := hP
    have hD : va_D A (wM cI m0 m1 m2 m3 m4 m5 m6 0 gr co ofs grp kd vl ro fr nm dr) := hD
    refine lv_aload_n hx hb dX3_define_17 rfl (lv_at hl 0 rfl) ?_
    have hP : va_P (dC, dI) vwCl ([] ++ (wM cI m0 m1 m2 m3 m4 m5 m6 0 gr co ofs grp kd vl ro fr nm dr)) _ := hP
    have hD : va_D A ([] ++ (wM cI m0 m1 m2 m3 m4 m5 m6 0 gr co ofs grp kd vl ro fr nm dr)) := hD
    refine m_wVi (As := []) (rest := []) ⟨hx, hb, hml, hown, hts⟩ (c_X3_taken l dC dI cI m0 m1 m2 m3 m4 m5 m6 0 gr co ofs grp kd vl ro fr nm dr hro) (cwV 0 hts gX3_define_X3_taken rfl rfl rfl (by decide +kernel) ⟨Nat.le_of_ble_eq_true rfl, Nat.le_of_ble_eq_true rfl⟩) hP hK hD hS hA 3 0 rfl rfl rfl hl.1 rfl (Nat.le_of_ble_eq_true rfl) dX3_define_18 ⟨Nat.zero_le _, Nat.zero_le _⟩ (fun r u H locs hw hP hD hS => ?_)
    obtain ⟨rfl, rfl⟩ := hw
    have hP : va_P (dC, dI) vwCl (wM cI m0 m1 m2 m3 m4 m5 m6 0 gr co ofs grp kd vl (ro + 1) (va_up fr (ro + 1) (fr ro + dr)) nm 0) _ := hP
    have hD : va_D A (wM cI m0 m1 m2 m3 m4 m5 m6 0 gr co ofs grp kd vl (ro + 1) (va_up fr (ro + 1) (fr ro + dr)) nm 0) := hD
    refine lv_istore_n (lv' := [(3, .int (nI ro)), (0, .ref m0), (1, .int x), (2, .int g)]) hx hb dX3_define_21 rfl hl (by decide) rfl (fun ls hl => ?_)
    refine lv_aload_n hx hb dX3_define_22 rfl (lv_at hl 1 rfl) ?_
    refine lv_sipush (v := nI 3000) hx hb dX3_define_23 (by decide) ?_
    refine lv_iload_n hx hb dX3_define_26 rfl (lv_at hl 2 rfl) ?_
    refine lv_iadd hx hb dX3_define_27 ?_
    refine mv_top (v := nI (3000 + rj x)) (by rw [hix.2, rj_nI (by have := hix.1; omega)]; exact nI_add 3000 _) ?_
    refine lv_iconst (v := 3) hx hb dX3_define_28 (by decide) ?_
    refine lv_iload_n hx hb dX3_define_29 rfl (lv_at hl 0 rfl) ?_
    refine lv_iload_n hx hb dX3_define_30 rfl (lv_at hl 3 rfl) ?_
    have hP : va_P (dC, dI) vwCl ([] ++ (wM cI m0 m1 m2 m3 m4 m5 m6 0 gr co ofs grp kd vl (ro + 1) (va_up fr (ro + 1) (fr ro + dr)) nm 0)) _ := hP
    have hD : va_D A ([] ++ (wM cI m0 m1 m2 m3 m4 m5 m6 0 gr co ofs grp kd vl (ro + 1) (va_up fr (ro + 1) (fr ro + dr)) nm 0)) := hD
    refine m_wVv (As := [.int (nI (3000 + rj x)), .int 3, .int (nI ro), .int g]) (rest := []) ⟨hx, hb, hml, hown, hts⟩ (c_X3_assign l dC dI cI m0 m1 m2 m3 m4 m5 m6 0 gr co ofs grp kd vl (ro + 1) (va_up fr (ro + 1) (fr ro + dr)) nm 0 (3000 + rj x) 3 (nI ro) g hco hg hgr) (cwV 4 hts gX3_define_X3_assign rfl rfl rfl (by decide +kernel) ⟨Nat.le_of_ble_eq_true rfl, Nat.le_of_ble_eq_true rfl⟩) hP hK hD hS hA 3 0 rfl rfl rfl hl.1 rfl (Nat.le_of_ble_eq_true rfl) dX3_define_31 ⟨Nat.zero_le _, Nat.zero_le _⟩ (fun u H locs hw hP hD hS => ?_)
    subst hw
    have hP : va_P (dC, dI) vwCl (wM cI m0 m1 m2 m3 m4 m5 m6 0 gr ((asgM (3000 + rj x) 3 (nI ro) g gr co ofs grp kd vl).1) ((asgM (3000 + rj x) 3 (nI ro) g gr co ofs grp kd vl).2.1) ((asgM (3000 + rj x) 3 (nI ro) g gr co ofs grp kd vl).2.2.1) ((asgM (3000 + rj x) 3 (nI ro) g gr co ofs grp kd vl).2.2.2.1) ((asgM (3000 + rj x) 3 (nI ro) g gr co ofs grp kd vl).2.2.2.2) (ro + 1) (va_up fr (ro + 1) (fr ro + dr)) nm 0) _ := hP
    have hD : va_D A (wM cI m0 m1 m2 m3 m4 m5 m6 0 gr ((asgM (3000 + rj x) 3 (nI ro) g gr co ofs grp kd vl).1) ((asgM (3000 + rj x) 3 (nI ro) g gr co ofs grp kd vl).2.1) ((asgM (3000 + rj x) 3 (nI ro) g gr co ofs grp kd vl).2.2.1) ((asgM (3000 + rj x) 3 (nI ro) g gr co ofs grp kd vl).2.2.2.1) ((asgM (3000 + rj x) 3 (nI ro) g gr co ofs grp kd vl).2.2.2.2) (ro + 1) (va_up fr (ro + 1) (fr ro + dr)) nm 0) := hD
    refine lv_aload_n hx hb dX3_define_34 rfl (lv_at hl 1 rfl) ?_
    refine lv_iload_n hx hb dX3_define_35 rfl (lv_at hl 0 rfl) ?_
    refine m_rV (As := [.int (nI ro)]) (rest := []) ⟨hx, hb, hml, hown, hts⟩ (c_X3_size l dC dI cI m0 m1 m2 m3 m4 m5 m6 0 gr ((asgM (3000 + rj x) 3 (nI ro) g gr co ofs grp kd vl).1) ((asgM (3000 + rj x) 3 (nI ro) g gr co ofs grp kd vl).2.1) ((asgM (3000 + rj x) 3 (nI ro) g gr co ofs grp kd vl).2.2.1) ((asgM (3000 + rj x) 3 (nI ro) g gr co ofs grp kd vl).2.2.2.1) ((asgM (3000 + rj x) 3 (nI ro) g gr co ofs grp kd vl).2.2.2.2) (ro + 1) (va_up fr (ro + 1) (fr ro + dr)) nm 0 ro (by omega)) (cwV 1 hts gX3_define_X3_size rfl rfl rfl (by decide +kernel) ⟨Nat.le_of_ble_eq_true rfl, Nat.le_of_ble_eq_true rfl⟩) hP hK 3 0 rfl rfl rfl hl.1 rfl (Nat.le_of_ble_eq_true rfl) dX3_define_36 ⟨Nat.zero_le _, Nat.zero_le _⟩ (fun r hw => ?_)
    subst hw
    exact hret (sizeM (va_up fr (ro + 1) (fr ro + dr)) ro) ((0, gr, (asgM (3000 + rj x) 3 (nI ro) g gr co ofs grp kd vl).1, (asgM (3000 + rj x) 3 (nI ro) g gr co ofs grp kd vl).2.1, (asgM (3000 + rj x) 3 (nI ro) g gr co ofs grp kd vl).2.2.1, (asgM (3000 + rj x) 3 (nI ro) g gr co ofs grp kd vl).2.2.2.1, (asgM (3000 + rj x) 3 (nI ro) g gr co ofs grp kd vl).2.2.2.2, ro + 1, va_up fr (ro + 1) (fr ro + dr), nm, 0)) (rfl) (by simp only [mDefine, mTake, mAsg]; rw [if_pos hj]; exact ⟨rfl, rfl⟩) hP hD hS dX3_define_39
  · have hj := b2i_0 c4
    refine lv_aload_n hx hb dX3_define_7 rfl (lv_at hl 0 rfl) ?_
    have hP : va_P (dC, dI) vwCl ([] ++ (wM cI m0 m1 m2 m3 m4 m5 m6 th gr co ofs grp kd vl ro fr nm dr)) _ := hP
    have hD : va_D A ([] ++ (wM cI m0 m1 m2 m3 m4 m5 m6 th gr co ofs grp kd vl ro fr nm dr)) := hD
    refine m_wVi (As := []) (rest := []) ⟨hx, hb, hml, hown, hts⟩ (c_X3_fails l dC dI cI m0 m1 m2 m3 m4 m5 m6 th gr co ofs grp kd vl ro fr nm dr) (cwV 0 hts gX3_define_X3_fails rfl rfl rfl (by decide +kernel) ⟨Nat.le_of_ble_eq_true rfl, Nat.le_of_ble_eq_true rfl⟩) hP hK hD hS hA 3 0 rfl rfl rfl hl.1 rfl (Nat.le_of_ble_eq_true rfl) dX3_define_8 ⟨Nat.zero_le _, Nat.zero_le _⟩ (fun r u H locs hw hP hD hS => ?_)
    obtain ⟨rfl, rfl⟩ := hw
    have hP : va_P (dC, dI) vwCl (wM cI m0 m1 m2 m3 m4 m5 m6 1 gr co ofs grp kd vl ro fr nm dr) _ := hP
    have hD : va_D A (wM cI m0 m1 m2 m3 m4 m5 m6 1 gr co ofs grp kd vl ro fr nm dr) := hD
    exact hret 0 ((1, gr, co, ofs, grp, kd, vl, ro, fr, nm, dr)) (rfl) (by simp only [mDefine, mTake, mAsg]; rw [if_neg (by rw [hj]; decide)]; exact ⟨rfl, rfl⟩) hP hD hS dX3_define_11
set_option maxHeartbeats 4000000 in
set_option maxRecDepth 100000 in
theorem c_X3_let (l : Launch) (dC : Nat → ClassId) (dI : Nat → Nat → Nat) (cI : ClassId) (m0 m1 m2 m3 m4 m5 m6 : Nat) (th : Int32) (gr co : Nat) (ofs grp : Nat → Nat) (kd vl : Nat → Int32) (ro : Nat) (fr : Nat → Nat) (nm : Nat → Int32) (dr : Nat) (x y g : Int32) (hco : co < 4200) (hg : gr < 2 ^ 31) (hgr : ∀ i, i < co → grp i < 2 ^ 31) (hof : ∀ i, i < co → ofs i < 2 ^ 31) : mWi l yX3_let wsX3_let ({ frames := 2, cells := 0, slots := 0, locals := 49 }) (dC, dI) cI [.ref m0, .int x, .int y, .int g] (wM cI m0 m1 m2 m3 m4 m5 m6 th gr co ofs grp kd vl ro fr nm dr) (fun r u => r = (mLet x y g (th, gr, co, ofs, grp, kd, vl, ro, fr, nm, dr)).1 ∧ u = (mLet x y g (th, gr, co, ofs, grp, kd, vl, ro, fr, nm, dr)).2) (fun u : MS => wM cI m0 m1 m2 m3 m4 m5 m6 u.1 u.2.1 u.2.2.1 u.2.2.2.1 u.2.2.2.2.1 u.2.2.2.2.2.1 u.2.2.2.2.2.2.1 u.2.2.2.2.2.2.2.1 u.2.2.2.2.2.2.2.2.1 u.2.2.2.2.2.2.2.2.2.1 u.2.2.2.2.2.2.2.2.2.2) := by
  refine m_ofWi (cc := cX3_let) (maxL := 4) (by decide) rfl (Nat.le_of_ble_eq_true rfl) ?_
  intro p e s m args below meth c ls A Q hx hb hts hown hml hP hK hD hA hS hl hret
  have hown : s.vm.findClass RX3 = some m.cls := hown
  have hl : lv_has ls 4 [(0, .ref m0), (1, .int x), (2, .int y), (3, .int g)] := hl
  have l32 := hts (.fieldLink RX3 32 "GroupDeskModel" "thrown" "I") (by decide +kernel)
  have iX3 : ∀ w ∈ u_ws RX3 TX3 11, w ∈ wsX3_let := by decide +kernel
  refine lv_aload_n hx hb dX3_let_0 rfl (lv_at hl 0 rfl) ?_
  refine lv_iconst (v := 0) hx hb dX3_let_1 (by decide) ?_
  refine va_put (D := (dC, dI)) (ci := 3) (v := .int 0) (ty := .int) (C := RX3) (T := TX3) (N := 11) hx hb hts iX3 tyX3 tyX3_ok nmX3 hown hK hP hD hS 0 rfl rfl 0 (by decide) l32 (fun _ h9 => h9) rfl (by decide +kernel) rfl rfl (Nat.le_of_ble_eq_true rfl) dX3_let_2 (fun H locs hP hD hS => ?_)
  have hP : va_P (dC, dI) vwCl (wM cI m0 m1 m2 m3 m4 m5 m6 0 gr co ofs grp kd vl ro fr nm dr) _ := hP
  have hD : va_D A (wM cI m0 m1 m2 m3 m4 m5 m6 0 gr co ofs grp kd vl ro fr nm dr) := hD
  refine lv_iload_n hx hb dX3_let_5 rfl (lv_at hl 1 rfl) ?_
  refine m_rS (As := [.int x]) (rest := []) ⟨hx, hb, hml, hown, hts⟩ (c_X3_isName l dC dI cI x) (va_cwS 1 hts gX3_let_X3_isName rfl rfl rfl (by decide +kernel) ⟨Nat.le_of_ble_eq_true rfl, Nat.le_of_ble_eq_true rfl⟩) ma_nil hK rfl hl.1 rfl (Nat.le_of_ble_eq_true rfl) dX3_let_6 ⟨Nat.zero_le _, Nat.zero_le _⟩ (fun r hw => ?_)
  subst hw
  refine lv_if_eq (tgt := 19) hx hb dX3_let_9 (by decide) (fun c9 => ?_) (fun c9 => ?_)
  · have hj := b2i_0 c9
    refine lv_iconst (v := 0) hx hb dX3_let_19 (by decide) ?_
    exact hret 0 ((0, gr, co, ofs, grp, kd, vl, ro, fr, nm, dr)) (rfl) (by simp only [mLet, mAsg]; rw [if_neg (by rw [hj, Bool.false_and]; decide)]; exact ⟨rfl, rfl⟩) hP hD hS dX3_let_20
  · have hj := b2i_n c9
    have hix := isR_of (by decide) hj
    refine lv_iload_n hx hb dX3_let_12 rfl (lv_at hl 2 rfl) ?_
    refine m_rS (As := [.int y]) (rest := []) ⟨hx, hb, hml, hown, hts⟩ (c_X3_isName l dC dI cI y) (va_cwS 1 hts gX3_let_X3_isName rfl rfl rfl (by decide +kernel) ⟨Nat.le_of_ble_eq_true rfl, Nat.le_of_ble_eq_true rfl⟩) ma_nil hK rfl hl.1 rfl (Nat.le_of_ble_eq_true rfl) dX3_let_13 ⟨Nat.zero_le _, Nat.zero_le _⟩ (fun r hw => ?_)
    subst hw
    refine lv_if_ne (tgt := 21) hx hb dX3_let_16 (by decide) (fun c16 => ?_) (fun c16 => ?_)
    · have hj2 := b2i_n c16
      have hiy := isR_of (by decide) hj2
      have h7 := hix.1
      have h8 := hiy.1
      refine lv_aload_n hx hb dX3_let_21 rfl (lv_at hl 0 rfl) ?_
      refine lv_sipush (v := nI 3000) hx hb dX3_let_22 (by decide) ?_
      refine lv_iload_n hx hb dX3_let_25 rfl (lv_at hl 1 rfl) ?_
      refine lv_iadd hx hb dX3_let_26 ?_
      refine mv_top (v := nI (3000 + rj x)) (by rw [hix.2, rj_nI (by have := hix.1; omega)]; exact nI_add 3000 _) ?_
      refine lv_aload_n hx hb dX3_let_27 rfl (lv_at hl 0 rfl) ?_
      refine lv_sipush (v := nI 3000) hx hb dX3_let_28 (by decide) ?_
      refine lv_iload_n hx hb dX3_let_31 rfl (lv_at hl 2 rfl) ?_
      refine lv_iadd hx hb dX3_let_32 ?_
      refine mv_top (v := nI (3000 + rj y)) (by rw [hiy.2, rj_nI (by have := hiy.1; omega)]; exact nI_add 3000 _) ?_
      refine m_rV (As := [.int (nI (3000 + rj y))]) (rest := [.int (nI (3000 + rj x)), .ref m0]) ⟨hx, hb, hml, hown, hts⟩ (c_X3_kindOf l dC dI cI m0 m1 m2 m3 m4 m5 m6 0 gr co ofs grp kd vl ro fr nm dr (3000 + rj y) (by omega) (by omega) hof) (cwV 1 hts gX3_let_X3_kindOf rfl rfl rfl (by decide +kernel) ⟨Nat.le_of_ble_eq_true rfl, Nat.le_of_ble_eq_true rfl⟩) hP hK 3 0 rfl rfl rfl hl.1 rfl (Nat.le_of_ble_eq_true rfl) dX3_let_33 ⟨Nat.zero_le _, Nat.zero_le _⟩ (fun r hw => ?_)
      subst hw
      refine lv_aload_n hx hb dX3_let_36 rfl (lv_at hl 0 rfl) ?_
      refine lv_sipush (v := nI 3000) hx hb dX3_let_37 (by decide) ?_
      refine lv_iload_n hx hb dX3_let_40 rfl (lv_at hl 2 rfl) ?_
      refine lv_iadd hx hb dX3_let_41 ?_
      refine mv_top (v := nI (3000 + rj y)) (by rw [hiy.2, rj_nI (by have := hiy.1; omega)]; exact nI_add 3000 _) ?_
      refine m_rV (As := [.int (nI (3000 + rj y))]) (rest := [.int (atM ofs kd (3000 + rj y) co), .int (nI (3000 + rj x)), .ref m0]) ⟨hx, hb, hml, hown, hts⟩ (c_X3_valueOf l dC dI cI m0 m1 m2 m3 m4 m5 m6 0 gr co ofs grp kd vl ro fr nm dr (3000 + rj y) (by omega) (by omega) hof) (cwV 1 hts gX3_let_X3_valueOf rfl rfl rfl (by decide +kernel) ⟨Nat.le_of_ble_eq_true rfl, Nat.le_of_ble_eq_true rfl⟩) hP hK 3 0 rfl rfl rfl hl.1 rfl (Nat.le_of_ble_eq_true rfl) dX3_let_42 ⟨Nat.zero_le _, Nat.zero_le _⟩ (fun r hw => ?_)
      subst hw
      refine lv_iload_n hx hb dX3_let_45 rfl (lv_at hl 3 rfl) ?_
      have hP : va_P (dC, dI) vwCl ([] ++ (wM cI m0 m1 m2 m3 m4 m5 m6 0 gr co ofs grp kd vl ro fr nm dr)) _ := hP
      have hD : va_D A ([] ++ (wM cI m0 m1 m2 m3 m4 m5 m6 0 gr co ofs grp kd vl ro fr nm dr)) := hD
      refine m_wVv (As := [.int (nI (3000 + rj x)), .int (atM ofs kd (3000 + rj y) co), .int (atM ofs vl (3000 + rj y) co), .int g]) (rest := []) ⟨hx, hb, hml, hown, hts⟩ (c_X3_assign l dC dI cI m0 m1 m2 m3 m4 m5 m6 0 gr co ofs grp kd vl ro fr nm dr (3000 + rj x) (atM ofs kd (3000 + rj y) co) (atM ofs vl (3000 + rj y) co) g hco hg hgr) (cwV 4 hts gX3_let_X3_assign rfl rfl rfl (by decide +kernel) ⟨Nat.le_of_ble_eq_true rfl, Nat.le_of_ble_eq_true rfl⟩) hP hK hD hS hA 3 0 rfl rfl rfl hl.1 rfl (Nat.le_of_ble_eq_true rfl) dX3_let_46 ⟨Nat.zero_le _, Nat.zero_le _⟩ (fun u H locs hw hP hD hS => ?_)
      subst hw
      have hP : va_P (dC, dI) vwCl (wM cI m0 m1 m2 m3 m4 m5 m6 0 gr ((asgM (3000 + rj x) (atM ofs kd (3000 + rj y) co) (atM ofs vl (3000 + rj y) co) g gr co ofs grp kd vl).1) ((asgM (3000 + rj x) (atM ofs kd (3000 + rj y) co) (atM ofs vl (3000 + rj y) co) g gr co ofs grp kd vl).2.1) ((asgM (3000 + rj x) (atM ofs kd (3000 + rj y) co) (atM ofs vl (3000 + rj y) co) g gr co ofs grp kd vl).2.2.1) ((asgM (3000 + rj x) (atM ofs kd (3000 + rj y) co) (atM ofs vl (3000 + rj y) co) g gr co ofs grp kd vl).2.2.2.1) ((asgM (3000 + rj x) (atM ofs kd (3000 + rj y) co) (atM ofs vl (3000 + rj y) co) g gr co ofs grp kd vl).2.2.2.2) ro fr nm dr) _ := hP
      have hD : va_D A (wM cI m0 m1 m2 m3 m4 m5 m6 0 gr ((asgM (3000 + rj x) (atM ofs kd (3000 + rj y) co) (atM ofs vl (3000 + rj y) co) g gr co ofs grp kd vl).1) ((asgM (3000 + rj x) (atM ofs kd (3000 + rj y) co) (atM ofs vl (3000 + rj y) co) g gr co ofs grp kd vl).2.1) ((asgM (3000 + rj x) (atM ofs kd (3000 + rj y) co) (atM ofs vl (3000 + rj y) co) g gr co ofs grp kd vl).2.2.1) ((asgM (3000 + rj x) (atM ofs kd (3000 + rj y) co) (atM ofs vl (3000 + rj y) co) g gr co ofs grp kd vl).2.2.2.1) ((asgM (3000 + rj x) (atM ofs kd (3000 + rj y) co) (atM ofs vl (3000 + rj y) co) g gr co ofs grp kd vl).2.2.2.2) ro fr nm dr) := hD
      refine lv_iconst (v := 1) hx hb dX3_let_49 (by decide) ?_
      exact hret 1 ((0, gr, (asgM (3000 + rj x) (atM ofs kd (3000 + rj y) co) (atM ofs vl (3000 + rj y) co) g gr co ofs grp kd vl).1, (asgM (3000 + rj x) (atM ofs kd (3000 + rj y) co) (atM ofs vl (3000 + rj y) co) g gr co ofs grp kd vl).2.1, (asgM (3000 + rj x) (atM ofs kd (3000 + rj y) co) (atM ofs vl (3000 + rj y) co) g gr co ofs grp kd vl).2.2.1, (asgM (3000 + rj x) (atM ofs kd (3000 + rj y) co) (atM ofs vl (3000 + rj y) co) g gr co ofs grp kd vl).2.2.2.1, (asgM (3000 + rj x) (atM ofs kd (3000 + rj y) co) (atM ofs vl (3000 + rj y) co) g gr co ofs grp kd vl).2.2.2.2, ro, fr, nm, dr)) (rfl) (by simp only [mLet, mAsg]; rw [if_pos (by rw [hj, hj2]; rfl)]; exact ⟨rfl, rfl⟩) hP hD hS dX3_let_50
    · have hj2 := b2i_0 c16
      refine lv_iconst (v := 0) hx hb dX3_let_19 (by decide) ?_
      exact hret 0 ((0, gr, co, ofs, grp, kd, vl, ro, fr, nm, dr)) (rfl) (by simp only [mLet, mAsg]; rw [if_neg (by rw [hj2, Bool.and_false]; decide)]; exact ⟨rfl, rfl⟩) hP hD hS dX3_let_20
set_option maxHeartbeats 4000000 in
set_option maxRecDepth 100000 in
theorem c_X3_shape (l : Launch) (dC : Nat → ClassId) (dI : Nat → Nat → Nat) (cI : ClassId) (m0 m1 m2 m3 m4 m5 m6 : Nat) (th : Int32) (gr co : Nat) (ofs grp : Nat → Nat) (kd vl : Nat → Int32) (ro : Nat) (fr : Nat → Nat) (nm : Nat → Int32) (dr : Nat) (g : Int32) (hco : co < 4200) (hg : gr < 2 ^ 31) (hgr : ∀ i, i < co → grp i < 2 ^ 31) (hro : ro + 1 < 4200) : mWi l yX3_shape wsX3_shape ({ frames := 2, cells := 0, slots := 0, locals := 49 }) (dC, dI) cI [.ref m0, .int g] (wM cI m0 m1 m2 m3 m4 m5 m6 th gr co ofs grp kd vl ro fr nm dr) (fun r u => r = (mShape g (th, gr, co, ofs, grp, kd, vl, ro, fr, nm, dr)).1 ∧ u = (mShape g (th, gr, co, ofs, grp, kd, vl, ro, fr, nm, dr)).2) (fun u : MS => wM cI m0 m1 m2 m3 m4 m5 m6 u.1 u.2.1 u.2.2.1 u.2.2.2.1 u.2.2.2.2.1 u.2.2.2.2.2.1 u.2.2.2.2.2.2.1 u.2.2.2.2.2.2.2.1 u.2.2.2.2.2.2.2.2.1 u.2.2.2.2.2.2.2.2.2.1 u.2.2.2.2.2.2.2.2.2.2) := by
  refine m_ofWi (cc := cX3_shape) (maxL := 3) (by decide) rfl (Nat.le_of_ble_eq_true rfl) ?_
  intro p e s m args below meth c ls A Q hx hb hts hown hml hP hK hD hA hS hl hret
  have hown : s.vm.findClass RX3 = some m.cls := hown
  have hl : lv_has ls 3 [(0, .ref m0), (1, .int g)] := hl
  have l32 := hts (.fieldLink RX3 32 "GroupDeskModel" "thrown" "I") (by decide +kernel)
  have iX3 : ∀ w ∈ u_ws RX3 TX3 11, w ∈ wsX3_shape := by decide +kernel
  refine lv_aload_n hx hb dX3_shape_0 rfl (lv_at hl 0 rfl) ?_
  refine lv_iconst (v := 0) hx hb dX3_shape_1 (by decide) ?_
  refine va_put (D := (dC, dI)) (ci := 3) (v := .int 0) (ty := .int) (C := RX3) (T := TX3) (N := 11) hx hb hts iX3 tyX3 tyX3_ok nmX3 hown hK hP hD hS 0 rfl rfl 0 (by decide) l32 (fun _ h9 => h9) rfl (by decide +kernel) rfl rfl (Nat.le_of_ble_eq_true rfl) dX3_shape_2 (fun H locs hP hD hS => ?_)
  have hP : va_P (dC, dI) vwCl (wM cI m0 m1 m2 m3 m4 m5 m6 0 gr co ofs grp kd vl ro fr nm dr) _ := hP
  have hD : va_D A (wM cI m0 m1 m2 m3 m4 m5 m6 0 gr co ofs grp kd vl ro fr nm dr) := hD
  refine lv_aload_n hx hb dX3_shape_5 rfl (lv_at hl 0 rfl) ?_
  have hP : va_P (dC, dI) vwCl ([] ++ (wM cI m0 m1 m2 m3 m4 m5 m6 0 gr co ofs grp kd vl ro fr nm dr)) _ := hP
  have hD : va_D A ([] ++ (wM cI m0 m1 m2 m3 m4 m5 m6 0 gr co ofs grp kd vl ro fr nm dr)) := hD
  refine m_wVi (As := []) (rest := []) ⟨hx, hb, hml, hown, hts⟩ (c_X3_taken l dC dI cI m0 m1 m2 m3 m4 m5 m6 0 gr co ofs grp kd vl ro fr nm dr hro) (cwV 0 hts gX3_shape_X3_taken rfl rfl rfl (by decide +kernel) ⟨Nat.le_of_ble_eq_true rfl, Nat.le_of_ble_eq_true rfl⟩) hP hK hD hS hA 3 0 rfl rfl rfl hl.1 rfl (Nat.le_of_ble_eq_true rfl) dX3_shape_6 ⟨Nat.zero_le _, Nat.zero_le _⟩ (fun r u H locs hw hP hD hS => ?_)
  obtain ⟨rfl, rfl⟩ := hw
  have hP : va_P (dC, dI) vwCl (wM cI m0 m1 m2 m3 m4 m5 m6 0 gr co ofs grp kd vl (ro + 1) (va_up fr (ro + 1) (fr ro + dr)) nm 0) _ := hP
  have hD : va_D A (wM cI m0 m1 m2 m3 m4 m5 m6 0 gr co ofs grp kd vl (ro + 1) (va_up fr (ro + 1) (fr ro + dr)) nm 0) := hD
  refine lv_istore_n (lv' := [(2, .int (nI ro)), (0, .ref m0), (1, .int g)]) hx hb dX3_shape_9 rfl hl (by decide) rfl (fun ls hl => ?_)
  refine lv_aload_n hx hb dX3_shape_10 rfl (lv_at hl 1 rfl) ?_
  refine lv_sipush (v := nI 4000) hx hb dX3_shape_11 (by decide) ?_
  refine lv_iconst (v := 3) hx hb dX3_shape_14 (by decide) ?_
  refine lv_iload_n hx hb dX3_shape_15 rfl (lv_at hl 0 rfl) ?_
  refine lv_iload_n hx hb dX3_shape_16 rfl (lv_at hl 2 rfl) ?_
  have hP : va_P (dC, dI) vwCl ([] ++ (wM cI m0 m1 m2 m3 m4 m5 m6 0 gr co ofs grp kd vl (ro + 1) (va_up fr (ro + 1) (fr ro + dr)) nm 0)) _ := hP
  have hD : va_D A ([] ++ (wM cI m0 m1 m2 m3 m4 m5 m6 0 gr co ofs grp kd vl (ro + 1) (va_up fr (ro + 1) (fr ro + dr)) nm 0)) := hD
  refine m_wVv (As := [.int (nI 4000), .int 3, .int (nI ro), .int g]) (rest := []) ⟨hx, hb, hml, hown, hts⟩ (c_X3_assign l dC dI cI m0 m1 m2 m3 m4 m5 m6 0 gr co ofs grp kd vl (ro + 1) (va_up fr (ro + 1) (fr ro + dr)) nm 0 4000 3 (nI ro) g hco hg hgr) (cwV 4 hts gX3_shape_X3_assign rfl rfl rfl (by decide +kernel) ⟨Nat.le_of_ble_eq_true rfl, Nat.le_of_ble_eq_true rfl⟩) hP hK hD hS hA 3 0 rfl rfl rfl hl.1 rfl (Nat.le_of_ble_eq_true rfl) dX3_shape_17 ⟨Nat.zero_le _, Nat.zero_le _⟩ (fun u H locs hw hP hD hS => ?_)
  subst hw
  have hP : va_P (dC, dI) vwCl (wM cI m0 m1 m2 m3 m4 m5 m6 0 gr ((asgM 4000 3 (nI ro) g gr co ofs grp kd vl).1) ((asgM 4000 3 (nI ro) g gr co ofs grp kd vl).2.1) ((asgM 4000 3 (nI ro) g gr co ofs grp kd vl).2.2.1) ((asgM 4000 3 (nI ro) g gr co ofs grp kd vl).2.2.2.1) ((asgM 4000 3 (nI ro) g gr co ofs grp kd vl).2.2.2.2) (ro + 1) (va_up fr (ro + 1) (fr ro + dr)) nm 0) _ := hP
  have hD : va_D A (wM cI m0 m1 m2 m3 m4 m5 m6 0 gr ((asgM 4000 3 (nI ro) g gr co ofs grp kd vl).1) ((asgM 4000 3 (nI ro) g gr co ofs grp kd vl).2.1) ((asgM 4000 3 (nI ro) g gr co ofs grp kd vl).2.2.1) ((asgM 4000 3 (nI ro) g gr co ofs grp kd vl).2.2.2.1) ((asgM 4000 3 (nI ro) g gr co ofs grp kd vl).2.2.2.2) (ro + 1) (va_up fr (ro + 1) (fr ro + dr)) nm 0) := hD
  refine lv_aload_n hx hb dX3_shape_20 rfl (lv_at hl 1 rfl) ?_
  refine lv_iload_n hx hb dX3_shape_21 rfl (lv_at hl 0 rfl) ?_
  refine m_rV (As := [.int (nI ro)]) (rest := []) ⟨hx, hb, hml, hown, hts⟩ (c_X3_size l dC dI cI m0 m1 m2 m3 m4 m5 m6 0 gr ((asgM 4000 3 (nI ro) g gr co ofs grp kd vl).1) ((asgM 4000 3 (nI ro) g gr co ofs grp kd vl).2.1) ((asgM 4000 3 (nI ro) g gr co ofs grp kd vl).2.2.1) ((asgM 4000 3 (nI ro) g gr co ofs grp kd vl).2.2.2.1) ((asgM 4000 3 (nI ro) g gr co ofs grp kd vl).2.2.2.2) (ro + 1) (va_up fr (ro + 1) (fr ro + dr)) nm 0 ro (by omega)) (cwV 1 hts gX3_shape_X3_size rfl rfl rfl (by decide +kernel) ⟨Nat.le_of_ble_eq_true rfl, Nat.le_of_ble_eq_true rfl⟩) hP hK 3 0 rfl rfl rfl hl.1 rfl (Nat.le_of_ble_eq_true rfl) dX3_shape_22 ⟨Nat.zero_le _, Nat.zero_le _⟩ (fun r hw => ?_)
  subst hw
  exact hret (sizeM (va_up fr (ro + 1) (fr ro + dr)) ro) ((0, gr, (asgM 4000 3 (nI ro) g gr co ofs grp kd vl).1, (asgM 4000 3 (nI ro) g gr co ofs grp kd vl).2.1, (asgM 4000 3 (nI ro) g gr co ofs grp kd vl).2.2.1, (asgM 4000 3 (nI ro) g gr co ofs grp kd vl).2.2.2.1, (asgM 4000 3 (nI ro) g gr co ofs grp kd vl).2.2.2.2, ro + 1, va_up fr (ro + 1) (fr ro + dr), nm, 0)) (rfl) (⟨rfl, rfl⟩) hP hD hS dX3_shape_25
set_option maxHeartbeats 4000000 in
set_option maxRecDepth 100000 in
theorem c_X3_get (l : Launch) (dC : Nat → ClassId) (dI : Nat → Nat → Nat) (cI : ClassId) (m0 m1 m2 m3 m4 m5 m6 : Nat) (th : Int32) (gr co : Nat) (ofs grp : Nat → Nat) (kd vl : Nat → Int32) (ro : Nat) (fr : Nat → Nat) (nm : Nat → Int32) (dr : Nat) (x : Int32) (hco : co < 4200) (hof : ∀ i, i < co → ofs i < 2 ^ 31) : mWi l yX3_get wsX3_get ({ frames := 2, cells := 0, slots := 0, locals := 45 }) (dC, dI) cI [.ref m0, .int x] (wM cI m0 m1 m2 m3 m4 m5 m6 th gr co ofs grp kd vl ro fr nm dr) (fun r u => r = (mGet x (th, gr, co, ofs, grp, kd, vl, ro, fr, nm, dr)).1 ∧ u = (mGet x (th, gr, co, ofs, grp, kd, vl, ro, fr, nm, dr)).2) (fun u : MS => wM cI m0 m1 m2 m3 m4 m5 m6 u.1 u.2.1 u.2.2.1 u.2.2.2.1 u.2.2.2.2.1 u.2.2.2.2.2.1 u.2.2.2.2.2.2.1 u.2.2.2.2.2.2.2.1 u.2.2.2.2.2.2.2.2.1 u.2.2.2.2.2.2.2.2.2.1 u.2.2.2.2.2.2.2.2.2.2) := by
  refine m_ofWi (cc := cX3_get) (maxL := 2) (by decide) rfl (Nat.le_of_ble_eq_true rfl) ?_
  intro p e s m args below meth c ls A Q hx hb hts hown hml hP hK hD hA hS hl hret
  have hown : s.vm.findClass RX3 = some m.cls := hown
  have hl : lv_has ls 2 [(0, .ref m0), (1, .int x)] := hl
  have l32 := hts (.fieldLink RX3 32 "GroupDeskModel" "thrown" "I") (by decide +kernel)
  have iX3 : ∀ w ∈ u_ws RX3 TX3 11, w ∈ wsX3_get := by decide +kernel
  refine lv_iload_n hx hb dX3_get_0 rfl (lv_at hl 1 rfl) ?_
  refine m_rS (As := [.int x]) (rest := []) ⟨hx, hb, hml, hown, hts⟩ (c_X3_isCell l dC dI cI x) (va_cwS 1 hts gX3_get_X3_isCell rfl rfl rfl (by decide +kernel) ⟨Nat.le_of_ble_eq_true rfl, Nat.le_of_ble_eq_true rfl⟩) ma_nil hK rfl hl.1 rfl (Nat.le_of_ble_eq_true rfl) dX3_get_1 ⟨Nat.zero_le _, Nat.zero_le _⟩ (fun r hw => ?_)
  subst hw
  refine lv_if_ne (tgt := 12) hx hb dX3_get_4 (by decide) (fun c4 => ?_) (fun c4 => ?_)
  · have hj := b2i_n c4
    have hi := isR_of (by decide) hj
    have h7 := hi.1
    refine lv_aload_n hx hb dX3_get_12 rfl (lv_at hl 0 rfl) ?_
    refine lv_iconst (v := 0) hx hb dX3_get_13 (by decide) ?_
    refine va_put (D := (dC, dI)) (ci := 3) (v := .int 0) (ty := .int) (C := RX3) (T := TX3) (N := 11) hx hb hts iX3 tyX3 tyX3_ok nmX3 hown hK hP hD hS 0 rfl rfl 0 (by decide) l32 (fun _ h9 => h9) rfl (by decide +kernel) rfl rfl (Nat.le_of_ble_eq_true rfl) dX3_get_14 (fun H locs hP hD hS => ?_)
    have hP : va_P (dC, dI) vwCl (wM cI m0 m1 m2 m3 m4 m5 m6 0 gr co ofs grp kd vl ro fr nm dr) _ := hP
    have hD : va_D A (wM cI m0 m1 m2 m3 m4 m5 m6 0 gr co ofs grp kd vl ro fr nm dr) := hD
    refine lv_aload_n hx hb dX3_get_17 rfl (lv_at hl 0 rfl) ?_
    refine lv_iload_n hx hb dX3_get_18 rfl (lv_at hl 1 rfl) ?_
    refine mv_top (v := nI (rj x)) (hi.2) ?_
    refine m_rV (As := [.int (nI (rj x))]) (rest := []) ⟨hx, hb, hml, hown, hts⟩ (c_X3_valueOf l dC dI cI m0 m1 m2 m3 m4 m5 m6 0 gr co ofs grp kd vl ro fr nm dr (rj x) (by omega) (by omega) hof) (cwV 1 hts gX3_get_X3_valueOf rfl rfl rfl (by decide +kernel) ⟨Nat.le_of_ble_eq_true rfl, Nat.le_of_ble_eq_true rfl⟩) hP hK 3 0 rfl rfl rfl hl.1 rfl (Nat.le_of_ble_eq_true rfl) dX3_get_19 ⟨Nat.zero_le _, Nat.zero_le _⟩ (fun r hw => ?_)
    subst hw
    exact hret (atM ofs vl (rj x) co) ((0, gr, co, ofs, grp, kd, vl, ro, fr, nm, dr)) (rfl) (by simp only [mGet]; rw [if_pos hj]; exact ⟨rfl, rfl⟩) hP hD hS dX3_get_22
  · have hj := b2i_0 c4
    refine lv_aload_n hx hb dX3_get_7 rfl (lv_at hl 0 rfl) ?_
    have hP : va_P (dC, dI) vwCl ([] ++ (wM cI m0 m1 m2 m3 m4 m5 m6 th gr co ofs grp kd vl ro fr nm dr)) _ := hP
    have hD : va_D A ([] ++ (wM cI m0 m1 m2 m3 m4 m5 m6 th gr co ofs grp kd vl ro fr nm dr)) := hD
    refine m_wVi (As := []) (rest := []) ⟨hx, hb, hml, hown, hts⟩ (c_X3_fails l dC dI cI m0 m1 m2 m3 m4 m5 m6 th gr co ofs grp kd vl ro fr nm dr) (cwV 0 hts gX3_get_X3_fails rfl rfl rfl (by decide +kernel) ⟨Nat.le_of_ble_eq_true rfl, Nat.le_of_ble_eq_true rfl⟩) hP hK hD hS hA 3 0 rfl rfl rfl hl.1 rfl (Nat.le_of_ble_eq_true rfl) dX3_get_8 ⟨Nat.zero_le _, Nat.zero_le _⟩ (fun r u H locs hw hP hD hS => ?_)
    obtain ⟨rfl, rfl⟩ := hw
    have hP : va_P (dC, dI) vwCl (wM cI m0 m1 m2 m3 m4 m5 m6 1 gr co ofs grp kd vl ro fr nm dr) _ := hP
    have hD : va_D A (wM cI m0 m1 m2 m3 m4 m5 m6 1 gr co ofs grp kd vl ro fr nm dr) := hD
    exact hret 0 ((1, gr, co, ofs, grp, kd, vl, ro, fr, nm, dr)) (rfl) (by simp only [mGet]; rw [if_neg (by rw [hj]; decide)]; exact ⟨rfl, rfl⟩) hP hD hS dX3_get_11
set_option maxHeartbeats 4000000 in
set_option maxRecDepth 100000 in
theorem c_X3_about (l : Launch) (dC : Nat → ClassId) (dI : Nat → Nat → Nat) (cI : ClassId) (m0 m1 m2 m3 m4 m5 m6 : Nat) (th : Int32) (gr co : Nat) (ofs grp : Nat → Nat) (kd vl : Nat → Int32) (ro : Nat) (fr : Nat → Nat) (nm : Nat → Int32) (dr : Nat) (x y : Int32) (hco : co < 4200) (hro : ro + 1 < 4200) (hof : ∀ i, i < co → ofs i < 2 ^ 31) (hv : ∀ j, j < 1000 → atM ofs kd (3000 + j) co = 3 → atM ofs vl (3000 + j) co = nI (rj (atM ofs vl (3000 + j) co)) ∧ rj (atM ofs vl (3000 + j) co) < ro) : mWi l yX3_about wsX3_about ({ frames := 2, cells := 0, slots := 0, locals := 45 }) (dC, dI) cI [.ref m0, .int x, .int y] (wM cI m0 m1 m2 m3 m4 m5 m6 th gr co ofs grp kd vl ro fr nm dr) (fun r u => r = (mAbout x y (th, gr, co, ofs, grp, kd, vl, ro, fr, nm, dr)).1 ∧ u = (mAbout x y (th, gr, co, ofs, grp, kd, vl, ro, fr, nm, dr)).2) (fun u : MS => wM cI m0 m1 m2 m3 m4 m5 m6 u.1 u.2.1 u.2.2.1 u.2.2.2.1 u.2.2.2.2.1 u.2.2.2.2.2.1 u.2.2.2.2.2.2.1 u.2.2.2.2.2.2.2.1 u.2.2.2.2.2.2.2.2.1 u.2.2.2.2.2.2.2.2.2.1 u.2.2.2.2.2.2.2.2.2.2) := by
  refine m_ofWi (cc := cX3_about) (maxL := 4) (by decide) rfl (Nat.le_of_ble_eq_true rfl) ?_
  intro p e s m args below meth c ls A Q hx hb hts hown hml hP hK hD hA hS hl hret
  have hown : s.vm.findClass RX3 = some m.cls := hown
  have hl : lv_has ls 4 [(0, .ref m0), (1, .int x), (2, .int y)] := hl
  have l32 := hts (.fieldLink RX3 32 "GroupDeskModel" "thrown" "I") (by decide +kernel)
  have iX3 : ∀ w ∈ u_ws RX3 TX3 11, w ∈ wsX3_about := by decide +kernel
  refine lv_iload_n hx hb dX3_about_0 rfl (lv_at hl 1 rfl) ?_
  refine m_rS (As := [.int x]) (rest := []) ⟨hx, hb, hml, hown, hts⟩ (c_X3_isName l dC dI cI x) (va_cwS 1 hts gX3_about_X3_isName rfl rfl rfl (by decide +kernel) ⟨Nat.le_of_ble_eq_true rfl, Nat.le_of_ble_eq_true rfl⟩) ma_nil hK rfl hl.1 rfl (Nat.le_of_ble_eq_true rfl) dX3_about_1 ⟨Nat.zero_le _, Nat.zero_le _⟩ (fun r hw => ?_)
  subst hw
  refine lv_if_eq (tgt := 16) hx hb dX3_about_4 (by decide) (fun c4 => ?_) (fun c4 => ?_)
  · have hj := b2i_0 c4
    refine lv_aload_n hx hb dX3_about_16 rfl (lv_at hl 0 rfl) ?_
    have hP : va_P (dC, dI) vwCl ([] ++ (wM cI m0 m1 m2 m3 m4 m5 m6 th gr co ofs grp kd vl ro fr nm dr)) _ := hP
    have hD : va_D A ([] ++ (wM cI m0 m1 m2 m3 m4 m5 m6 th gr co ofs grp kd vl ro fr nm dr)) := hD
    refine m_wVi (As := []) (rest := []) ⟨hx, hb, hml, hown, hts⟩ (c_X3_fails l dC dI cI m0 m1 m2 m3 m4 m5 m6 th gr co ofs grp kd vl ro fr nm dr) (cwV 0 hts gX3_about_X3_fails rfl rfl rfl (by decide +kernel) ⟨Nat.le_of_ble_eq_true rfl, Nat.le_of_ble_eq_true rfl⟩) hP hK hD hS hA 3 0 rfl rfl rfl hl.1 rfl (Nat.le_of_ble_eq_true rfl) dX3_about_17 ⟨Nat.zero_le _, Nat.zero_le _⟩ (fun r u H locs hw hP hD hS => ?_)
    obtain ⟨rfl, rfl⟩ := hw
    have hP : va_P (dC, dI) vwCl (wM cI m0 m1 m2 m3 m4 m5 m6 1 gr co ofs grp kd vl ro fr nm dr) _ := hP
    have hD : va_D A (wM cI m0 m1 m2 m3 m4 m5 m6 1 gr co ofs grp kd vl ro fr nm dr) := hD
    exact hret 0 ((1, gr, co, ofs, grp, kd, vl, ro, fr, nm, dr)) (rfl) (by simp only [mAbout]; rw [if_neg (by rw [hj, Bool.false_and]; decide)]; exact ⟨rfl, rfl⟩) hP hD hS dX3_about_20
  · have hj := b2i_n c4
    have hix := isR_of (by decide) hj
    have h7 := hix.1
    refine lv_iload_n hx hb dX3_about_7 rfl (lv_at hl 2 rfl) ?_
    refine lv_if_lt (tgt := 16) hx hb dX3_about_8 (by decide) (fun c8 => ?_) (fun c8 => ?_)
    · refine lv_aload_n hx hb dX3_about_16 rfl (lv_at hl 0 rfl) ?_
      have hP : va_P (dC, dI) vwCl ([] ++ (wM cI m0 m1 m2 m3 m4 m5 m6 th gr co ofs grp kd vl ro fr nm dr)) _ := hP
      have hD : va_D A ([] ++ (wM cI m0 m1 m2 m3 m4 m5 m6 th gr co ofs grp kd vl ro fr nm dr)) := hD
      refine m_wVi (As := []) (rest := []) ⟨hx, hb, hml, hown, hts⟩ (c_X3_fails l dC dI cI m0 m1 m2 m3 m4 m5 m6 th gr co ofs grp kd vl ro fr nm dr) (cwV 0 hts gX3_about_X3_fails rfl rfl rfl (by decide +kernel) ⟨Nat.le_of_ble_eq_true rfl, Nat.le_of_ble_eq_true rfl⟩) hP hK hD hS hA 3 0 rfl rfl rfl hl.1 rfl (Nat.le_of_ble_eq_true rfl) dX3_about_17 ⟨Nat.zero_le _, Nat.zero_le _⟩ (fun r u H locs hw hP hD hS => ?_)
      obtain ⟨rfl, rfl⟩ := hw
      have hP : va_P (dC, dI) vwCl (wM cI m0 m1 m2 m3 m4 m5 m6 1 gr co ofs grp kd vl ro fr nm dr) _ := hP
      have hD : va_D A (wM cI m0 m1 m2 m3 m4 m5 m6 1 gr co ofs grp kd vl ro fr nm dr) := hD
      exact hret 0 ((1, gr, co, ofs, grp, kd, vl, ro, fr, nm, dr)) (rfl) (by simp only [mAbout]; rw [if_neg (by unfold wOk; rw [decide_eq_false (not_not_intro c8), Bool.false_and, Bool.and_false]; decide)]; exact ⟨rfl, rfl⟩) hP hD hS dX3_about_20
    · refine lv_iload_n hx hb dX3_about_11 rfl (lv_at hl 2 rfl) ?_
      refine lv_iconst (v := 1) hx hb dX3_about_12 (by decide) ?_
      refine lv_icmp_le (tgt := 21) hx hb dX3_about_13 (by decide) (fun c13 => ?_) (fun c13 => ?_)
      · refine lv_aload_n hx hb dX3_about_21 rfl (lv_at hl 0 rfl) ?_
        refine lv_iconst (v := 0) hx hb dX3_about_22 (by decide) ?_
        refine va_put (D := (dC, dI)) (ci := 3) (v := .int 0) (ty := .int) (C := RX3) (T := TX3) (N := 11) hx hb hts iX3 tyX3 tyX3_ok nmX3 hown hK hP hD hS 0 rfl rfl 0 (by decide) l32 (fun _ h9 => h9) rfl (by decide +kernel) rfl rfl (Nat.le_of_ble_eq_true rfl) dX3_about_23 (fun H locs hP hD hS => ?_)
        have hP : va_P (dC, dI) vwCl (wM cI m0 m1 m2 m3 m4 m5 m6 0 gr co ofs grp kd vl ro fr nm dr) _ := hP
        have hD : va_D A (wM cI m0 m1 m2 m3 m4 m5 m6 0 gr co ofs grp kd vl ro fr nm dr) := hD
        refine lv_aload_n hx hb dX3_about_26 rfl (lv_at hl 0 rfl) ?_
        refine lv_sipush (v := nI 3000) hx hb dX3_about_27 (by decide) ?_
        refine lv_iload_n hx hb dX3_about_30 rfl (lv_at hl 1 rfl) ?_
        refine lv_iadd hx hb dX3_about_31 ?_
        refine mv_top (v := nI (3000 + rj x)) (by rw [hix.2, rj_nI (by have := hix.1; omega)]; exact nI_add 3000 _) ?_
        refine m_rV (As := [.int (nI (3000 + rj x))]) (rest := []) ⟨hx, hb, hml, hown, hts⟩ (c_X3_kindOf l dC dI cI m0 m1 m2 m3 m4 m5 m6 0 gr co ofs grp kd vl ro fr nm dr (3000 + rj x) (by omega) (by omega) hof) (cwV 1 hts gX3_about_X3_kindOf rfl rfl rfl (by decide +kernel) ⟨Nat.le_of_ble_eq_true rfl, Nat.le_of_ble_eq_true rfl⟩) hP hK 3 0 rfl rfl rfl hl.1 rfl (Nat.le_of_ble_eq_true rfl) dX3_about_32 ⟨Nat.zero_le _, Nat.zero_le _⟩ (fun r hw => ?_)
        subst hw
        refine lv_istore_n (lv' := [(3, .int (atM ofs kd (3000 + rj x) co)), (0, .ref m0), (1, .int x), (2, .int y)]) hx hb dX3_about_35 rfl hl (by decide) rfl (fun ls hl => ?_)
        refine lv_iload_n hx hb dX3_about_36 rfl (lv_at hl 3 rfl) ?_
        refine lv_if_ne (tgt := 44) hx hb dX3_about_37 (by decide) (fun c37 => ?_) (fun c37 => ?_)
        · refine lv_iload_n hx hb dX3_about_44 rfl (lv_at hl 0 rfl) ?_
          refine lv_iconst (v := 3) hx hb dX3_about_45 (by decide) ?_
          refine lv_icmp_ne (tgt := 65) hx hb dX3_about_46 (by decide) (fun c46 => ?_) (fun c46 => ?_)
          · refine lv_aload_n hx hb dX3_about_65 rfl (lv_at hl 1 rfl) ?_
            refine lv_sipush (v := nI 3000) hx hb dX3_about_66 (by decide) ?_
            refine lv_iload_n hx hb dX3_about_69 rfl (lv_at hl 2 rfl) ?_
            refine lv_iadd hx hb dX3_about_70 ?_
            refine mv_top (v := nI (3000 + rj x)) (by rw [hix.2, rj_nI (by have := hix.1; omega)]; exact nI_add 3000 _) ?_
            refine m_rV (As := [.int (nI (3000 + rj x))]) (rest := []) ⟨hx, hb, hml, hown, hts⟩ (c_X3_valueOf l dC dI cI m0 m1 m2 m3 m4 m5 m6 0 gr co ofs grp kd vl ro fr nm dr (3000 + rj x) (by omega) (by omega) hof) (cwV 1 hts gX3_about_X3_valueOf rfl rfl rfl (by decide +kernel) ⟨Nat.le_of_ble_eq_true rfl, Nat.le_of_ble_eq_true rfl⟩) hP hK 3 0 rfl rfl rfl hl.1 rfl (Nat.le_of_ble_eq_true rfl) dX3_about_71 ⟨Nat.zero_le _, Nat.zero_le _⟩ (fun r hw => ?_)
            subst hw
            exact hret (atM ofs vl (3000 + rj x) co) ((0, gr, co, ofs, grp, kd, vl, ro, fr, nm, dr)) (rfl) (by simp only [mAbout]; rw [if_pos (show (isR 1000 x && wOk y) = true by unfold wOk; rw [hj, decide_eq_true c8, decide_eq_true c13]; rfl), if_neg c37, if_neg c46]; exact ⟨rfl, rfl⟩) hP hD hS dX3_about_74
          · refine lv_aload_n hx hb dX3_about_49 rfl (lv_at hl 1 rfl) ?_
            refine lv_aload_n hx hb dX3_about_50 rfl (lv_at hl 1 rfl) ?_
            refine lv_sipush (v := nI 3000) hx hb dX3_about_51 (by decide) ?_
            refine lv_iload_n hx hb dX3_about_54 rfl (lv_at hl 2 rfl) ?_
            refine lv_iadd hx hb dX3_about_55 ?_
            refine mv_top (v := nI (3000 + rj x)) (by rw [hix.2, rj_nI (by have := hix.1; omega)]; exact nI_add 3000 _) ?_
            refine m_rV (As := [.int (nI (3000 + rj x))]) (rest := [.ref m0]) ⟨hx, hb, hml, hown, hts⟩ (c_X3_valueOf l dC dI cI m0 m1 m2 m3 m4 m5 m6 0 gr co ofs grp kd vl ro fr nm dr (3000 + rj x) (by omega) (by omega) hof) (cwV 1 hts gX3_about_X3_valueOf rfl rfl rfl (by decide +kernel) ⟨Nat.le_of_ble_eq_true rfl, Nat.le_of_ble_eq_true rfl⟩) hP hK 3 0 rfl rfl rfl hl.1 rfl (Nat.le_of_ble_eq_true rfl) dX3_about_56 ⟨Nat.zero_le _, Nat.zero_le _⟩ (fun r hw => ?_)
            subst hw
            refine mv_top (v := nI (rj (atM ofs vl (3000 + rj x) co))) ((hv _ hix.1 c46).1) ?_
            have h9 := (hv _ hix.1 c46).2
            refine m_rV (As := [.int (nI (rj (atM ofs vl (3000 + rj x) co)))]) (rest := []) ⟨hx, hb, hml, hown, hts⟩ (c_X3_size l dC dI cI m0 m1 m2 m3 m4 m5 m6 0 gr co ofs grp kd vl ro fr nm dr (rj (atM ofs vl (3000 + rj x) co)) (by omega)) (cwV 1 hts gX3_about_X3_size rfl rfl rfl (by decide +kernel) ⟨Nat.le_of_ble_eq_true rfl, Nat.le_of_ble_eq_true rfl⟩) hP hK 3 0 rfl rfl rfl hl.1 rfl (Nat.le_of_ble_eq_true rfl) dX3_about_59 ⟨Nat.zero_le _, Nat.zero_le _⟩ (fun r hw => ?_)
            subst hw
            refine lv_goto (tgt := 74) hx hb dX3_about_62 (by decide) ?_
            exact hret (sizeM fr (rj (atM ofs vl (3000 + rj x) co))) ((0, gr, co, ofs, grp, kd, vl, ro, fr, nm, dr)) (rfl) (by simp only [mAbout]; rw [if_pos (show (isR 1000 x && wOk y) = true by unfold wOk; rw [hj, decide_eq_true c8, decide_eq_true c13]; rfl), if_neg c37, if_pos c46]; exact ⟨rfl, rfl⟩) hP hD hS dX3_about_74
        · refine lv_iload_n hx hb dX3_about_40 rfl (lv_at hl 0 rfl) ?_
          refine lv_goto (tgt := 74) hx hb dX3_about_41 (by decide) ?_
          exact hret (atM ofs kd (3000 + rj x) co) ((0, gr, co, ofs, grp, kd, vl, ro, fr, nm, dr)) (rfl) (by simp only [mAbout]; rw [if_pos (show (isR 1000 x && wOk y) = true by unfold wOk; rw [hj, decide_eq_true c8, decide_eq_true c13]; rfl), if_pos c37]; exact ⟨rfl, rfl⟩) hP hD hS dX3_about_74
      · refine lv_aload_n hx hb dX3_about_16 rfl (lv_at hl 0 rfl) ?_
        have hP : va_P (dC, dI) vwCl ([] ++ (wM cI m0 m1 m2 m3 m4 m5 m6 th gr co ofs grp kd vl ro fr nm dr)) _ := hP
        have hD : va_D A ([] ++ (wM cI m0 m1 m2 m3 m4 m5 m6 th gr co ofs grp kd vl ro fr nm dr)) := hD
        refine m_wVi (As := []) (rest := []) ⟨hx, hb, hml, hown, hts⟩ (c_X3_fails l dC dI cI m0 m1 m2 m3 m4 m5 m6 th gr co ofs grp kd vl ro fr nm dr) (cwV 0 hts gX3_about_X3_fails rfl rfl rfl (by decide +kernel) ⟨Nat.le_of_ble_eq_true rfl, Nat.le_of_ble_eq_true rfl⟩) hP hK hD hS hA 3 0 rfl rfl rfl hl.1 rfl (Nat.le_of_ble_eq_true rfl) dX3_about_17 ⟨Nat.zero_le _, Nat.zero_le _⟩ (fun r u H locs hw hP hD hS => ?_)
        obtain ⟨rfl, rfl⟩ := hw
        have hP : va_P (dC, dI) vwCl (wM cI m0 m1 m2 m3 m4 m5 m6 1 gr co ofs grp kd vl ro fr nm dr) _ := hP
        have hD : va_D A (wM cI m0 m1 m2 m3 m4 m5 m6 1 gr co ofs grp kd vl ro fr nm dr) := hD
        exact hret 0 ((1, gr, co, ofs, grp, kd, vl, ro, fr, nm, dr)) (rfl) (by simp only [mAbout]; rw [if_neg (by unfold wOk; rw [decide_eq_false c13, Bool.and_false, Bool.and_false]; decide)]; exact ⟨rfl, rfl⟩) hP hD hS dX3_about_20
theorem nOk_lt {fr : Nat → Nat} {row : Nat} {x : Int32} (h1 : fr row ≤ fr (row + 1)) (h2 : fr (row + 1) < 2 ^ 31) (h : nOk fr row x = true) : x = nI (rj x) ∧ fr row + rj x < fr (row + 1) := by
  unfold nOk at h
  simp only [Bool.and_eq_true, decide_eq_true_eq] at h
  obtain ⟨h3, h4⟩ := h
  unfold sizeM at h4
  by_cases h0 : row = 0
  · rw [if_pos h0] at h4
    exact absurd h4 h3
  · rw [if_neg h0, pk_sub h1] at h4
    have h5 := isR_of (n := fr (row + 1) - fr row) (x := x) (by omega) (isR_t h3 (fun h => absurd h (Int32.not_le.mpr h4)))
    exact ⟨h5.2, by omega⟩
theorem mRow_sh {name : Int32} {co : Nat} {o : Nat → Nat} {k v : Nat → Int32} (h : name = -1) : mRow name co o k v = rj (atM o v 4000 co) := by unfold mRow; rw [if_pos h]
theorem mRow_3 {name : Int32} {co : Nat} {o : Nat → Nat} {k v : Nat → Int32} (h : ¬ name = -1) (hj : isR 1000 name = true) (h3 : atM o k (3000 + rj name) co = 3) : mRow name co o k v = rj (atM o v (3000 + rj name) co) := by unfold mRow; rw [if_neg h, if_pos hj, if_pos h3]
theorem mRow_n3 {name : Int32} {co : Nat} {o : Nat → Nat} {k v : Nat → Int32} (h : ¬ name = -1) (hj : isR 1000 name = true) (h3 : ¬ atM o k (3000 + rj name) co = 3) : mRow name co o k v = 0 := by unfold mRow; rw [if_neg h, if_pos hj, if_neg h3]
theorem mRow_0 {name : Int32} {co : Nat} {o : Nat → Nat} {k v : Nat → Int32} (h : ¬ name = -1) (hj : isR 1000 name = false) : mRow name co o k v = 0 := by unfold mRow; rw [if_neg h, hj]; rfl
set_option maxHeartbeats 4000000 in
set_option maxRecDepth 100000 in
theorem c_X3_number (l : Launch) (dC : Nat → ClassId) (dI : Nat → Nat → Nat) (cI : ClassId) (m0 m1 m2 m3 m4 m5 m6 : Nat) (th : Int32) (gr co : Nat) (ofs grp : Nat → Nat) (kd vl : Nat → Int32) (ro : Nat) (fr : Nat → Nat) (nm : Nat → Int32) (dr : Nat) (x y : Int32) (hco : co < 4200) (hro : ro + 1 < 4200) (hof : ∀ i, i < co → ofs i < 2 ^ 31) (hv : ∀ j, j < 1000 → atM ofs kd (3000 + j) co = 3 → atM ofs vl (3000 + j) co = nI (rj (atM ofs vl (3000 + j) co)) ∧ rj (atM ofs vl (3000 + j) co) < ro) (hs : atM ofs vl 4000 co = nI (rj (atM ofs vl 4000 co)) ∧ rj (atM ofs vl 4000 co) < ro) (hfr : ∀ r, r < ro → fr r ≤ fr (r + 1) ∧ fr (r + 1) ≤ 4400) : mWi l yX3_number wsX3_number ({ frames := 2, cells := 0, slots := 0, locals := 45 }) (dC, dI) cI [.ref m0, .int x, .int y] (wM cI m0 m1 m2 m3 m4 m5 m6 th gr co ofs grp kd vl ro fr nm dr) (fun r u => r = (mNumber x y (th, gr, co, ofs, grp, kd, vl, ro, fr, nm, dr)).1 ∧ u = (mNumber x y (th, gr, co, ofs, grp, kd, vl, ro, fr, nm, dr)).2) (fun u : MS => wM cI m0 m1 m2 m3 m4 m5 m6 u.1 u.2.1 u.2.2.1 u.2.2.2.1 u.2.2.2.2.1 u.2.2.2.2.2.1 u.2.2.2.2.2.2.1 u.2.2.2.2.2.2.2.1 u.2.2.2.2.2.2.2.2.1 u.2.2.2.2.2.2.2.2.2.1 u.2.2.2.2.2.2.2.2.2.2) := by
  refine m_ofWi (cc := cX3_number) (maxL := 5) (by decide) rfl (Nat.le_of_ble_eq_true rfl) ?_
  intro p e s m args below meth c ls A Q hx hb hts hown hml hP hK hD hA hS hl hret
  have hown : s.vm.findClass RX3 = some m.cls := hown
  have hl : lv_has ls 5 [(0, .ref m0), (1, .int x), (2, .int y)] := hl
  have l32 := hts (.fieldLink RX3 32 "GroupDeskModel" "thrown" "I") (by decide +kernel)
  have l29 := hts (.fieldLink RX3 29 "GroupDeskModel" "numbers" "[I") (by decide +kernel)
  have l26 := hts (.fieldLink RX3 26 "GroupDeskModel" "from" "[I") (by decide +kernel)
  have iX3 : ∀ w ∈ u_ws RX3 TX3 11, w ∈ wsX3_number := by decide +kernel
  have h1ro : 1 ≤ ro := by have := hs.2; omega
  have fin : ∀ (row : Nat) (z : Int32) (H : Heap) (locs : List Loc) (ls : Array Slot), row = mRow x co ofs kd vl → row < ro → ¬ (x = -1 ∧ y = -1) → va_P (dC, dI) vwCl (wM cI m0 m1 m2 m3 m4 m5 m6 0 gr co ofs grp kd vl ro fr nm dr) H → va_D A (wM cI m0 m1 m2 m3 m4 m5 m6 0 gr co ofs grp kd vl ro fr nm dr) → va_S A s.heap H locs → lv_has ls 5 [(0, .ref m0), (1, .int x), (2, .int y), (3, .int z), (4, .int (nI row))] → W p l e ({ frames := 2, cells := 0, slots := 0, locals := 45 }) s m args below meth c H locs 0 0 Q (F0 m 86 ls []) := by
    intro row z H locs ls hrow hr9 hnn hP hD hS hl
    have h5 := hfr row hr9
    refine lv_iload_n hx hb dX3_number_86 rfl (lv_at hl 2 rfl) ?_
    refine lv_if_lt (tgt := 100) hx hb dX3_number_87 (by decide) (fun c87 => ?_) (fun c87 => ?_)
    · refine lv_aload_n hx hb dX3_number_100 rfl (lv_at hl 0 rfl) ?_
      have hP : va_P (dC, dI) vwCl ([] ++ (wM cI m0 m1 m2 m3 m4 m5 m6 0 gr co ofs grp kd vl ro fr nm dr)) _ := hP
      have hD : va_D A ([] ++ (wM cI m0 m1 m2 m3 m4 m5 m6 0 gr co ofs grp kd vl ro fr nm dr)) := hD
      refine m_wVi (As := []) (rest := []) ⟨hx, hb, hml, hown, hts⟩ (c_X3_fails l dC dI cI m0 m1 m2 m3 m4 m5 m6 0 gr co ofs grp kd vl ro fr nm dr) (cwV 0 hts gX3_number_X3_fails rfl rfl rfl (by decide +kernel) ⟨Nat.le_of_ble_eq_true rfl, Nat.le_of_ble_eq_true rfl⟩) hP hK hD hS hA 3 0 rfl rfl rfl hl.1 rfl (Nat.le_of_ble_eq_true rfl) dX3_number_101 ⟨Nat.zero_le _, Nat.zero_le _⟩ (fun r u H locs hw hP hD hS => ?_)
      obtain ⟨rfl, rfl⟩ := hw
      have hP : va_P (dC, dI) vwCl (wM cI m0 m1 m2 m3 m4 m5 m6 1 gr co ofs grp kd vl ro fr nm dr) _ := hP
      have hD : va_D A (wM cI m0 m1 m2 m3 m4 m5 m6 1 gr co ofs grp kd vl ro fr nm dr) := hD
      refine lv_goto (tgt := 121) hx hb dX3_number_104 (by decide) ?_
      exact hret 0 ((1, gr, co, ofs, grp, kd, vl, ro, fr, nm, dr)) (rfl) (by simp only [mNumber]; rw [if_neg hnn, ← hrow, if_neg (by unfold nOk; rw [decide_eq_false (not_not_intro c87), Bool.false_and]; decide)]; exact ⟨rfl, rfl⟩) hP hD hS dX3_number_121
    · refine lv_iload_n hx hb dX3_number_90 rfl (lv_at hl 2 rfl) ?_
      refine lv_aload_n hx hb dX3_number_91 rfl (lv_at hl 0 rfl) ?_
      refine lv_iload hx hb dX3_number_92 (lv_at hl 4 rfl) ?_
      refine m_rV (As := [.int (nI row)]) (rest := [.int y]) ⟨hx, hb, hml, hown, hts⟩ (c_X3_size l dC dI cI m0 m1 m2 m3 m4 m5 m6 0 gr co ofs grp kd vl ro fr nm dr row (by omega)) (cwV 1 hts gX3_number_X3_size rfl rfl rfl (by decide +kernel) ⟨Nat.le_of_ble_eq_true rfl, Nat.le_of_ble_eq_true rfl⟩) hP hK 3 0 rfl rfl rfl hl.1 rfl (Nat.le_of_ble_eq_true rfl) dX3_number_94 ⟨Nat.zero_le _, Nat.zero_le _⟩ (fun r hw => ?_)
      subst hw
      refine lv_icmp_lt (tgt := 107) hx hb dX3_number_97 (by decide) (fun c97 => ?_) (fun c97 => ?_)
      · have h9 : nOk fr row y = true := by unfold nOk; rw [decide_eq_true c87, decide_eq_true c97]; rfl
        have h8 := nOk_lt h5.1 (by omega) h9
        refine lv_aload_n hx hb dX3_number_107 rfl (lv_at hl 0 rfl) ?_
        refine va_get (D := (dC, dI)) (ci := 3) (v := .ref m6) (C := RX3) (T := TX3) (N := 11) hx hb hts iX3 hown hK hP 0 rfl rfl 9 (by decide) l29 (fun _ h9 => h9) rfl dX3_number_108 ?_
        refine lv_aload_n hx hb dX3_number_111 rfl (lv_at hl 0 rfl) ?_
        refine va_get (D := (dC, dI)) (ci := 3) (v := .ref m5) (C := RX3) (T := TX3) (N := 11) hx hb hts iX3 hown hK hP 0 rfl rfl 8 (by decide) l26 (fun _ h9 => h9) rfl dX3_number_112 ?_
        refine lv_iload hx hb dX3_number_115 (lv_at hl 4 rfl) ?_
        refine mv_iald hx hb hK hP 5 0 rfl rfl (k := row) (rfl) (by omega) (by decide) (v := nI (fr row)) rfl dX3_number_117 ?_
        refine lv_iload_n hx hb dX3_number_118 rfl (lv_at hl 2 rfl) ?_
        refine lv_iadd hx hb dX3_number_119 ?_
        refine mv_top (v := nI (fr row + rj y)) (by rw [h8.1, rj_nI (by omega)]; exact nI_add _ _) ?_
        refine mv_iald hx hb hK hP 6 0 rfl rfl (k := fr row + rj y) (rfl) (by omega) (by decide) (v := nm (fr row + rj y)) rfl dX3_number_120 ?_
        exact hret (nm (fr row + rj y)) ((0, gr, co, ofs, grp, kd, vl, ro, fr, nm, dr)) (rfl) (by simp only [mNumber]; rw [if_neg hnn, ← hrow, if_pos h9]; exact ⟨rfl, rfl⟩) hP hD hS dX3_number_121
      · refine lv_aload_n hx hb dX3_number_100 rfl (lv_at hl 0 rfl) ?_
        have hP : va_P (dC, dI) vwCl ([] ++ (wM cI m0 m1 m2 m3 m4 m5 m6 0 gr co ofs grp kd vl ro fr nm dr)) _ := hP
        have hD : va_D A ([] ++ (wM cI m0 m1 m2 m3 m4 m5 m6 0 gr co ofs grp kd vl ro fr nm dr)) := hD
        refine m_wVi (As := []) (rest := []) ⟨hx, hb, hml, hown, hts⟩ (c_X3_fails l dC dI cI m0 m1 m2 m3 m4 m5 m6 0 gr co ofs grp kd vl ro fr nm dr) (cwV 0 hts gX3_number_X3_fails rfl rfl rfl (by decide +kernel) ⟨Nat.le_of_ble_eq_true rfl, Nat.le_of_ble_eq_true rfl⟩) hP hK hD hS hA 3 0 rfl rfl rfl hl.1 rfl (Nat.le_of_ble_eq_true rfl) dX3_number_101 ⟨Nat.zero_le _, Nat.zero_le _⟩ (fun r u H locs hw hP hD hS => ?_)
        obtain ⟨rfl, rfl⟩ := hw
        have hP : va_P (dC, dI) vwCl (wM cI m0 m1 m2 m3 m4 m5 m6 1 gr co ofs grp kd vl ro fr nm dr) _ := hP
        have hD : va_D A (wM cI m0 m1 m2 m3 m4 m5 m6 1 gr co ofs grp kd vl ro fr nm dr) := hD
        refine lv_goto (tgt := 121) hx hb dX3_number_104 (by decide) ?_
        exact hret 0 ((1, gr, co, ofs, grp, kd, vl, ro, fr, nm, dr)) (rfl) (by simp only [mNumber]; rw [if_neg hnn, ← hrow, if_neg (by unfold nOk; rw [decide_eq_false c97, Bool.and_false]; decide)]; exact ⟨rfl, rfl⟩) hP hD hS dX3_number_121
  refine lv_aload_n hx hb dX3_number_0 rfl (lv_at hl 0 rfl) ?_
  refine lv_iconst (v := 0) hx hb dX3_number_1 (by decide) ?_
  refine va_put (D := (dC, dI)) (ci := 3) (v := .int 0) (ty := .int) (C := RX3) (T := TX3) (N := 11) hx hb hts iX3 tyX3 tyX3_ok nmX3 hown hK hP hD hS 0 rfl rfl 0 (by decide) l32 (fun _ h9 => h9) rfl (by decide +kernel) rfl rfl (Nat.le_of_ble_eq_true rfl) dX3_number_2 (fun H locs hP hD hS => ?_)
  have hP : va_P (dC, dI) vwCl (wM cI m0 m1 m2 m3 m4 m5 m6 0 gr co ofs grp kd vl ro fr nm dr) _ := hP
  have hD : va_D A (wM cI m0 m1 m2 m3 m4 m5 m6 0 gr co ofs grp kd vl ro fr nm dr) := hD
  refine lv_iload_n hx hb dX3_number_5 rfl (lv_at hl 1 rfl) ?_
  refine lv_iconst (v := (-1)) hx hb dX3_number_6 (by decide) ?_
  refine lv_icmp_ne (tgt := 27) hx hb dX3_number_7 (by decide) (fun c7 => ?_) (fun c7 => ?_)
  · refine lv_iload_n hx hb dX3_number_27 rfl (lv_at hl 1 rfl) ?_
    refine lv_iconst (v := (-1)) hx hb dX3_number_28 (by decide) ?_
    refine lv_icmp_ne (tgt := 38) hx hb dX3_number_29 (by decide) (fun c29 => ?_) (fun c29 => ?_)
    · have h29 := c29
      refine lv_iload_n hx hb dX3_number_38 rfl (lv_at hl 1 rfl) ?_
      refine m_rS (As := [.int x]) (rest := []) ⟨hx, hb, hml, hown, hts⟩ (c_X3_isName l dC dI cI x) (va_cwS 1 hts gX3_number_X3_isName rfl rfl rfl (by decide +kernel) ⟨Nat.le_of_ble_eq_true rfl, Nat.le_of_ble_eq_true rfl⟩) ma_nil hK rfl hl.1 rfl (Nat.le_of_ble_eq_true rfl) dX3_number_39 ⟨Nat.zero_le _, Nat.zero_le _⟩ (fun r hw => ?_)
      subst hw
      refine lv_if_eq (tgt := 53) hx hb dX3_number_42 (by decide) (fun c42 => ?_) (fun c42 => ?_)
      · have hj := b2i_0 c42
        refine lv_iconst (v := (-1)) hx hb dX3_number_53 (by decide) ?_
        refine lv_istore_n (lv' := [(3, .int ((-1))), (0, .ref m0), (1, .int x), (2, .int y)]) hx hb dX3_number_54 rfl hl (by decide) rfl (fun ls hl => ?_)
        refine lv_iload_n hx hb dX3_number_55 rfl (lv_at hl 0 rfl) ?_
        refine lv_if_lt (tgt := 83) hx hb dX3_number_56 (by decide) (fun c56 => ?_) (fun c56 => ?_)
        · have h56 := c56
          refine lv_iconst (v := 0) hx hb dX3_number_83 (by decide) ?_
          refine mv_top (v := nI 0) rfl ?_
          refine lv_istore (lv' := [(4, .int (nI 0)), (3, .int ((-1))), (0, .ref m0), (1, .int x), (2, .int y)]) hx hb dX3_number_84 hl (by decide) rfl (fun ls hl => ?_)
          exact fin _ _ _ _ ls ((mRow_0 c29 hj).symm) (h1ro) (fun h => c7 h.1) hP hD hS (lv_sub hl [2, 3, 4, 1, 0] rfl)
        · exact absurd (by decide) c56
      · have hj := b2i_n c42
        have hix := isR_of (by decide) hj
        have h7 := hix.1
        refine lv_sipush (v := nI 3000) hx hb dX3_number_45 (by decide) ?_
        refine lv_iload_n hx hb dX3_number_48 rfl (lv_at hl 1 rfl) ?_
        refine lv_iadd hx hb dX3_number_49 ?_
        refine mv_top (v := nI (3000 + rj x)) (by rw [hix.2, rj_nI (by have := hix.1; omega)]; exact nI_add 3000 _) ?_
        refine lv_goto (tgt := 54) hx hb dX3_number_50 (by decide) ?_
        refine lv_istore_n (lv' := [(3, .int (nI (3000 + rj x))), (0, .ref m0), (1, .int x), (2, .int y)]) hx hb dX3_number_54 rfl hl (by decide) rfl (fun ls hl => ?_)
        refine lv_iload_n hx hb dX3_number_55 rfl (lv_at hl 0 rfl) ?_
        refine lv_if_lt (tgt := 83) hx hb dX3_number_56 (by decide) (fun c56 => ?_) (fun c56 => ?_)
        · exact absurd c56 (nI_pos (by omega))
        · have h56 := c56
          refine lv_iload_n hx hb dX3_number_59 rfl (lv_at hl 0 rfl) ?_
          refine lv_sipush (v := nI 4000) hx hb dX3_number_60 (by decide) ?_
          refine lv_icmp_eq (tgt := 75) hx hb dX3_number_63 (by decide) (fun c63 => ?_) (fun c63 => ?_)
          · exact absurd ((nI_eq (by omega) (by decide)).mp c63) (by omega)
          · have h63 := c63
            refine lv_aload_n hx hb dX3_number_66 rfl (lv_at hl 1 rfl) ?_
            refine lv_iload_n hx hb dX3_number_67 rfl (lv_at hl 0 rfl) ?_
            refine m_rV (As := [.int (nI (3000 + rj x))]) (rest := []) ⟨hx, hb, hml, hown, hts⟩ (c_X3_kindOf l dC dI cI m0 m1 m2 m3 m4 m5 m6 0 gr co ofs grp kd vl ro fr nm dr (3000 + rj x) (by omega) (by omega) hof) (cwV 1 hts gX3_number_X3_kindOf rfl rfl rfl (by decide +kernel) ⟨Nat.le_of_ble_eq_true rfl, Nat.le_of_ble_eq_true rfl⟩) hP hK 3 0 rfl rfl rfl hl.1 rfl (Nat.le_of_ble_eq_true rfl) dX3_number_68 ⟨Nat.zero_le _, Nat.zero_le _⟩ (fun r hw => ?_)
            subst hw
            refine lv_iconst (v := 3) hx hb dX3_number_71 (by decide) ?_
            refine lv_icmp_ne (tgt := 83) hx hb dX3_number_72 (by decide) (fun c72 => ?_) (fun c72 => ?_)
            · refine lv_iconst (v := 0) hx hb dX3_number_83 (by decide) ?_
              refine mv_top (v := nI 0) rfl ?_
              refine lv_istore (lv' := [(4, .int (nI 0)), (3, .int (nI (3000 + rj x))), (0, .ref m0), (1, .int x), (2, .int y)]) hx hb dX3_number_84 hl (by decide) rfl (fun ls hl => ?_)
              exact fin _ _ _ _ ls ((mRow_n3 c29 hj c72).symm) (h1ro) (fun h => c7 h.1) hP hD hS (lv_sub hl [2, 3, 4, 1, 0] rfl)
            · refine lv_aload_n hx hb dX3_number_75 rfl (lv_at hl 1 rfl) ?_
              refine lv_iload_n hx hb dX3_number_76 rfl (lv_at hl 0 rfl) ?_
              refine m_rV (As := [.int (nI (3000 + rj x))]) (rest := []) ⟨hx, hb, hml, hown, hts⟩ (c_X3_valueOf l dC dI cI m0 m1 m2 m3 m4 m5 m6 0 gr co ofs grp kd vl ro fr nm dr (3000 + rj x) (by omega) (by omega) hof) (cwV 1 hts gX3_number_X3_valueOf rfl rfl rfl (by decide +kernel) ⟨Nat.le_of_ble_eq_true rfl, Nat.le_of_ble_eq_true rfl⟩) hP hK 3 0 rfl rfl rfl hl.1 rfl (Nat.le_of_ble_eq_true rfl) dX3_number_77 ⟨Nat.zero_le _, Nat.zero_le _⟩ (fun r hw => ?_)
              subst hw
              refine lv_goto (tgt := 84) hx hb dX3_number_80 (by decide) ?_
              refine mv_top (v := nI (rj (atM ofs vl (3000 + rj x) co))) ((hv _ hix.1 c72).1) ?_
              refine lv_istore (lv' := [(4, .int (nI (rj (atM ofs vl (3000 + rj x) co)))), (3, .int (nI (3000 + rj x))), (0, .ref m0), (1, .int x), (2, .int y)]) hx hb dX3_number_84 hl (by decide) rfl (fun ls hl => ?_)
              exact fin _ _ _ _ ls ((mRow_3 c29 hj c72).symm) ((hv _ hix.1 c72).2) (fun h => c7 h.1) hP hD hS (lv_sub hl [2, 3, 4, 1, 0] rfl)
    · exact absurd c29 c7
  · refine lv_iload_n hx hb dX3_number_10 rfl (lv_at hl 2 rfl) ?_
    refine lv_iconst (v := (-1)) hx hb dX3_number_11 (by decide) ?_
    refine lv_icmp_ne (tgt := 27) hx hb dX3_number_12 (by decide) (fun c12 => ?_) (fun c12 => ?_)
    · refine lv_iload_n hx hb dX3_number_27 rfl (lv_at hl 1 rfl) ?_
      refine lv_iconst (v := (-1)) hx hb dX3_number_28 (by decide) ?_
      refine lv_icmp_ne (tgt := 38) hx hb dX3_number_29 (by decide) (fun c29 => ?_) (fun c29 => ?_)
      · exact absurd c7 c29
      · have h29 := c29
        refine lv_sipush (v := nI 4000) hx hb dX3_number_32 (by decide) ?_
        refine lv_goto (tgt := 54) hx hb dX3_number_35 (by decide) ?_
        refine lv_istore_n (lv' := [(3, .int (nI 4000)), (0, .ref m0), (1, .int x), (2, .int y)]) hx hb dX3_number_54 rfl hl (by decide) rfl (fun ls hl => ?_)
        refine lv_iload_n hx hb dX3_number_55 rfl (lv_at hl 0 rfl) ?_
        refine lv_if_lt (tgt := 83) hx hb dX3_number_56 (by decide) (fun c56 => ?_) (fun c56 => ?_)
        · exact absurd c56 (by decide)
        · have h56 := c56
          refine lv_iload_n hx hb dX3_number_59 rfl (lv_at hl 0 rfl) ?_
          refine lv_sipush (v := nI 4000) hx hb dX3_number_60 (by decide) ?_
          refine lv_icmp_eq (tgt := 75) hx hb dX3_number_63 (by decide) (fun c63 => ?_) (fun c63 => ?_)
          · have h63 := c63
            refine lv_aload_n hx hb dX3_number_75 rfl (lv_at hl 1 rfl) ?_
            refine lv_iload_n hx hb dX3_number_76 rfl (lv_at hl 0 rfl) ?_
            refine m_rV (As := [.int (nI 4000)]) (rest := []) ⟨hx, hb, hml, hown, hts⟩ (c_X3_valueOf l dC dI cI m0 m1 m2 m3 m4 m5 m6 0 gr co ofs grp kd vl ro fr nm dr 4000 (by omega) (by omega) hof) (cwV 1 hts gX3_number_X3_valueOf rfl rfl rfl (by decide +kernel) ⟨Nat.le_of_ble_eq_true rfl, Nat.le_of_ble_eq_true rfl⟩) hP hK 3 0 rfl rfl rfl hl.1 rfl (Nat.le_of_ble_eq_true rfl) dX3_number_77 ⟨Nat.zero_le _, Nat.zero_le _⟩ (fun r hw => ?_)
            subst hw
            refine lv_goto (tgt := 84) hx hb dX3_number_80 (by decide) ?_
            refine mv_top (v := nI (rj (atM ofs vl 4000 co))) (hs.1) ?_
            refine lv_istore (lv' := [(4, .int (nI (rj (atM ofs vl 4000 co)))), (3, .int (nI 4000)), (0, .ref m0), (1, .int x), (2, .int y)]) hx hb dX3_number_84 hl (by decide) rfl (fun ls hl => ?_)
            exact fin _ _ _ _ ls ((mRow_sh c29).symm) (hs.2) (fun h => c12 h.2) hP hD hS (lv_sub hl [2, 3, 4, 1, 0] rfl)
          · exact absurd rfl c63
    · refine lv_aload_n hx hb dX3_number_15 rfl (lv_at hl 0 rfl) ?_
      refine lv_aload_n hx hb dX3_number_16 rfl (lv_at hl 0 rfl) ?_
      refine lv_sipush (v := nI 4000) hx hb dX3_number_17 (by decide) ?_
      refine m_rV (As := [.int (nI 4000)]) (rest := [.ref m0]) ⟨hx, hb, hml, hown, hts⟩ (c_X3_valueOf l dC dI cI m0 m1 m2 m3 m4 m5 m6 0 gr co ofs grp kd vl ro fr nm dr 4000 (by omega) (by omega) hof) (cwV 1 hts gX3_number_X3_valueOf rfl rfl rfl (by decide +kernel) ⟨Nat.le_of_ble_eq_true rfl, Nat.le_of_ble_eq_true rfl⟩) hP hK 3 0 rfl rfl rfl hl.1 rfl (Nat.le_of_ble_eq_true rfl) dX3_number_20 ⟨Nat.zero_le _, Nat.zero_le _⟩ (fun r hw => ?_)
      subst hw
      refine mv_top (v := nI (rj (atM ofs vl 4000 co))) (hs.1) ?_
      have h6 := hs.2
      refine m_rV (As := [.int (nI (rj (atM ofs vl 4000 co)))]) (rest := []) ⟨hx, hb, hml, hown, hts⟩ (c_X3_size l dC dI cI m0 m1 m2 m3 m4 m5 m6 0 gr co ofs grp kd vl ro fr nm dr (rj (atM ofs vl 4000 co)) (by omega)) (cwV 1 hts gX3_number_X3_size rfl rfl rfl (by decide +kernel) ⟨Nat.le_of_ble_eq_true rfl, Nat.le_of_ble_eq_true rfl⟩) hP hK 3 0 rfl rfl rfl hl.1 rfl (Nat.le_of_ble_eq_true rfl) dX3_number_23 ⟨Nat.zero_le _, Nat.zero_le _⟩ (fun r hw => ?_)
      subst hw
      exact hret (sizeM fr (rj (atM ofs vl 4000 co))) ((0, gr, co, ofs, grp, kd, vl, ro, fr, nm, dr)) (rfl) (by simp only [mNumber]; rw [if_pos ⟨c7, c12⟩]; exact ⟨rfl, rfl⟩) hP hD hS dX3_number_26
set_option maxHeartbeats 4000000 in
set_option maxRecDepth 100000 in
theorem c_X3_count (l : Launch) (dC : Nat → ClassId) (dI : Nat → Nat → Nat) (cI : ClassId) (m0 m1 m2 m3 m4 m5 m6 : Nat) (th : Int32) (gr co : Nat) (ofs grp : Nat → Nat) (kd vl : Nat → Int32) (ro : Nat) (fr : Nat → Nat) (nm : Nat → Int32) (dr : Nat) (x : Int32) (hco : co < 4200) (hof : ∀ i, i < co → ofs i < 2 ^ 31) (h1 : 1 ≤ ro) (hro : ro + 1 < 4200) : mWi l yX3_count wsX3_count ({ frames := 2, cells := 0, slots := 0, locals := 45 }) (dC, dI) cI [.ref m0, .int x] (wM cI m0 m1 m2 m3 m4 m5 m6 th gr co ofs grp kd vl ro fr nm dr) (fun r u => r = (mCount x (th, gr, co, ofs, grp, kd, vl, ro, fr, nm, dr)).1 ∧ u = (mCount x (th, gr, co, ofs, grp, kd, vl, ro, fr, nm, dr)).2) (fun u : MS => wM cI m0 m1 m2 m3 m4 m5 m6 u.1 u.2.1 u.2.2.1 u.2.2.2.1 u.2.2.2.2.1 u.2.2.2.2.2.1 u.2.2.2.2.2.2.1 u.2.2.2.2.2.2.2.1 u.2.2.2.2.2.2.2.2.1 u.2.2.2.2.2.2.2.2.2.1 u.2.2.2.2.2.2.2.2.2.2) := by
  refine m_ofWi (cc := cX3_count) (maxL := 2) (by decide) rfl (Nat.le_of_ble_eq_true rfl) ?_
  intro p e s m args below meth c ls A Q hx hb hts hown hml hP hK hD hA hS hl hret
  have hown : s.vm.findClass RX3 = some m.cls := hown
  have hl : lv_has ls 2 [(0, .ref m0), (1, .int x)] := hl
  have l32 := hts (.fieldLink RX3 32 "GroupDeskModel" "thrown" "I") (by decide +kernel)
  have l35 := hts (.fieldLink RX3 35 "GroupDeskModel" "groups" "I") (by decide +kernel)
  have l60 := hts (.fieldLink RX3 60 "GroupDeskModel" "drafted" "I") (by decide +kernel)
  have iX3 : ∀ w ∈ u_ws RX3 TX3 11, w ∈ wsX3_count := by decide +kernel
  refine lv_aload_n hx hb dX3_count_0 rfl (lv_at hl 0 rfl) ?_
  refine lv_iconst (v := 0) hx hb dX3_count_1 (by decide) ?_
  refine va_put (D := (dC, dI)) (ci := 3) (v := .int 0) (ty := .int) (C := RX3) (T := TX3) (N := 11) hx hb hts iX3 tyX3 tyX3_ok nmX3 hown hK hP hD hS 0 rfl rfl 0 (by decide) l32 (fun _ h9 => h9) rfl (by decide +kernel) rfl rfl (Nat.le_of_ble_eq_true rfl) dX3_count_2 (fun H locs hP hD hS => ?_)
  have hP : va_P (dC, dI) vwCl (wM cI m0 m1 m2 m3 m4 m5 m6 0 gr co ofs grp kd vl ro fr nm dr) _ := hP
  have hD : va_D A (wM cI m0 m1 m2 m3 m4 m5 m6 0 gr co ofs grp kd vl ro fr nm dr) := hD
  refine lv_iload_n hx hb dX3_count_5 rfl (lv_at hl 1 rfl) ?_
  refine lv_if_ne (tgt := 16) hx hb dX3_count_6 (by decide) (fun c6 => ?_) (fun c6 => ?_)
  · refine lv_iload_n hx hb dX3_count_16 rfl (lv_at hl 1 rfl) ?_
    refine lv_iconst (v := 1) hx hb dX3_count_17 (by decide) ?_
    refine lv_icmp_ne (tgt := 28) hx hb dX3_count_18 (by decide) (fun c18 => ?_) (fun c18 => ?_)
    · refine lv_iload_n hx hb dX3_count_28 rfl (lv_at hl 1 rfl) ?_
      refine lv_iconst (v := 2) hx hb dX3_count_29 (by decide) ?_
      refine lv_icmp_ne (tgt := 40) hx hb dX3_count_30 (by decide) (fun c30 => ?_) (fun c30 => ?_)
      · refine lv_iconst (v := (-1)) hx hb dX3_count_40 (by decide) ?_
        exact hret ((-1)) ((0, gr, co, ofs, grp, kd, vl, ro, fr, nm, dr)) (rfl) (⟨by simp only [mCount]; rw [if_neg c6, if_neg c18, if_neg c30], rfl⟩) hP hD hS dX3_count_41
      · refine lv_aload_n hx hb dX3_count_33 rfl (lv_at hl 0 rfl) ?_
        refine m_rV (As := []) (rest := []) ⟨hx, hb, hml, hown, hts⟩ (c_X3_kept l dC dI cI m0 m1 m2 m3 m4 m5 m6 0 gr co ofs grp kd vl ro fr nm dr (by omega) hof h1 hro) (cwV 0 hts gX3_count_X3_kept rfl rfl rfl (by decide +kernel) ⟨Nat.le_of_ble_eq_true rfl, Nat.le_of_ble_eq_true rfl⟩) hP hK 3 0 rfl rfl rfl hl.1 rfl (Nat.le_of_ble_eq_true rfl) dX3_count_34 ⟨Nat.zero_le _, Nat.zero_le _⟩ (fun r hw => ?_)
        subst hw
        refine lv_goto (tgt := 41) hx hb dX3_count_37 (by decide) ?_
        exact hret (keptM ofs kd vl fr co (ro - 1)) ((0, gr, co, ofs, grp, kd, vl, ro, fr, nm, dr)) (rfl) (⟨by simp only [mCount]; rw [if_neg c6, if_neg c18, if_pos c30], rfl⟩) hP hD hS dX3_count_41
    · refine lv_aload_n hx hb dX3_count_21 rfl (lv_at hl 0 rfl) ?_
      refine va_get (D := (dC, dI)) (ci := 3) (v := .int (nI dr)) (C := RX3) (T := TX3) (N := 11) hx hb hts iX3 hown hK hP 0 rfl rfl 10 (by decide) l60 (fun _ h9 => h9) rfl dX3_count_22 ?_
      refine lv_goto (tgt := 41) hx hb dX3_count_25 (by decide) ?_
      exact hret (nI dr) ((0, gr, co, ofs, grp, kd, vl, ro, fr, nm, dr)) (rfl) (⟨by simp only [mCount]; rw [if_neg c6, if_pos c18], rfl⟩) hP hD hS dX3_count_41
  · refine lv_aload_n hx hb dX3_count_9 rfl (lv_at hl 0 rfl) ?_
    refine va_get (D := (dC, dI)) (ci := 3) (v := .int (nI gr)) (C := RX3) (T := TX3) (N := 11) hx hb hts iX3 hown hK hP 0 rfl rfl 1 (by decide) l35 (fun _ h9 => h9) rfl dX3_count_10 ?_
    refine lv_goto (tgt := 41) hx hb dX3_count_13 (by decide) ?_
    exact hret (nI gr) ((0, gr, co, ofs, grp, kd, vl, ro, fr, nm, dr)) (rfl) (⟨by simp only [mCount]; rw [if_pos c6], rfl⟩) hP hD hS dX3_count_41
