theorem Rel.mk' {k : Nat} {φ : Nat → Nat} {ki va : Nat → Int32} {sp sg : Nat → Nat} {sk sv : Nat → Int32} {sc og : Nat} {nu : Nat → Int32} {st le : Nat → Nat} {te : Nat → Int32} {ma ds dl : Nat} {ke th : Int32} {gr co : Nat} {o g : Nat → Nat} {kd vl : Nat → Int32} {ro : Nat} {fr : Nat → Nat} {nm : Nat → Int32} {dr : Nat}
    (h1 : og = gr ∧ og ≤ 200 ∧ sc ≤ k ∧ co ≤ k ∧ k ≤ 512) (h2 : relC φ ma ro le fr og ki va (seg sp sg sk sv 0 sc) (seg o g kd vl 0 co) te ke) (h3 : rowsR k φ nu st le ma ds dl ro fr nm dr) : Rel k φ (ki, va, sp, sg, sk, sv, sc, og, nu, st, le, te, ma, ds, dl, ke) (th, gr, co, o, g, kd, vl, ro, fr, nm, dr) := by
  unfold Rel
  exact ⟨h1, h2, h3⟩
theorem Rel.out {k : Nat} {φ : Nat → Nat} {ki va : Nat → Int32} {sp sg : Nat → Nat} {sk sv : Nat → Int32} {sc og : Nat} {nu : Nat → Int32} {st le : Nat → Nat} {te : Nat → Int32} {ma ds dl : Nat} {ke th : Int32} {gr co : Nat} {o g : Nat → Nat} {kd vl : Nat → Int32} {ro : Nat} {fr : Nat → Nat} {nm : Nat → Int32} {dr : Nat}
    (h : Rel k φ (ki, va, sp, sg, sk, sv, sc, og, nu, st, le, te, ma, ds, dl, ke) (th, gr, co, o, g, kd, vl, ro, fr, nm, dr)) : (og = gr ∧ og ≤ 200 ∧ sc ≤ k ∧ co ≤ k ∧ k ≤ 512) ∧ relC φ ma ro le fr og ki va (seg sp sg sk sv 0 sc) (seg o g kd vl 0 co) te ke ∧ rowsR k φ nu st le ma ds dl ro fr nm dr := h
theorem rowsR.up {k : Nat} {φ : Nat → Nat} {nu : Nat → Int32} {st le : Nat → Nat} {ma ds dl ro : Nat} {fr : Nat → Nat} {nm : Nat → Int32} {dr : Nat} (h : rowsR k φ nu st le ma ds dl ro fr nm dr) : rowsR (k + 1) φ nu st le ma ds dl ro fr nm dr := by
  obtain ⟨⟨a1, a2, a3, a4, a5⟩, ⟨b1, b2, b3, b4⟩, h⟩ := h
  exact ⟨⟨a1, a2, by omega, a4, a5⟩, ⟨b1, b2, b3, by omega⟩, h⟩
/-- both sides as they were, a call later; 'thrown' is free -/
theorem r_same {k : Nat} {φ : Nat → Nat} {D : DS} {M : MS} {th : Int32} (h : Rel k φ D M) (hk : k < 512) : Rel (k + 1) φ D (th, M.2) := by
  obtain ⟨ki, va, sp, sg, sk, sv, sc, og, nu, st, le, te, ma, ds, dl, ke⟩ := D
  obtain ⟨th0, gr, co, o, g, kd, vl, ro, fr, nm, dr⟩ := M
  obtain ⟨⟨a1, a2, a3, a4, a5⟩, hC, hR⟩ := h.out
  exact Rel.mk' ⟨a1, a2, by omega, by omega, by omega⟩ hC hR.up
theorem r_open {k : Nat} {φ : Nat → Nat} {D : DS} {M : MS} (h : Rel k φ D M) (hk : k < 512) : (dOpen D).1 = (mOpen M).1 ∧ Rel (k + 1) φ (dOpen D).2 (mOpen M).2 := by
  have h9 := r_same (th := 0) h hk
  obtain ⟨ki, va, sp, sg, sk, sv, sc, og, nu, st, le, te, ma, ds, dl, ke⟩ := D
  obtain ⟨th0, gr, co, o, g, kd, vl, ro, fr, nm, dr⟩ := M
  obtain ⟨⟨a1, a2, a3, a4, a5⟩, ⟨hS, hE, hlv, ht, hhi⟩, hR⟩ := h.out
  subst a1
  simp only [dOpen, mOpen]
  by_cases h2 : og < 200
  · rw [if_pos h2, if_neg (by omega)]
    refine ⟨rfl, Rel.mk' ⟨rfl, by omega, by omega, by omega, by omega⟩ ⟨⟨hS.1, fun e he => ?_⟩, ⟨hE.1, fun e he => ?_⟩, fun L p hL hp => ?_, ht, hhi⟩ hR.up⟩
    · obtain ⟨b1, b2, b3⟩ := hS.2 e he
      exact ⟨b1, by omega, b3⟩
    · obtain ⟨b1, b2⟩ := hE.2 e he
      exact ⟨by omega, b2⟩
    · by_cases hL2 : L ≤ og
      · exact hlv L p hL2 hp
      · have h3 := hlv og p (Nat.le_refl _) hp
        rw [cAt_top hS (Nat.le_refl _)] at h3
        rw [cAt_top hS (by omega), rAt_top hE (by omega)]
        exact h3
  · rw [if_neg h2, if_pos (by omega)]
    exact ⟨rfl, h9⟩
theorem leaveF_hi {ma : Nat} {le sp sg : Nat → Nat} {sk sv : Nat → Int32} {og : Nat} (hm : ma < 2 ^ 31) : ∀ {n : Nat} {ki va te : Nat → Int32} {ke : Int32}, (∀ r, ma ≤ r → te r = 0) → ∀ r, ma ≤ r → (leaveF ma le sp sg sk sv og n ki va te ke).2.2.2.1 r = 0 := by
  intro n
  induction n with
  | zero => intro ki va te ke h; exact h
  | succ n ih =>
    intro ki va te ke h
    by_cases hg : sg n = og
    · simp only [leaveF, if_pos hg]; exact ih (untellT_hi hm h)
    · simp only [leaveF, if_neg hg]; exact h
theorem seg_split {a b : Nat → Nat} {c d : Nat → Int32} : ∀ {m k n : Nat}, seg a b c d k (n + m) = seg a b c d k n ++ seg a b c d (k + n) m := by
  intro m k n
  induction n generalizing k with
  | zero => rw [Nat.zero_add, Nat.add_zero]; rfl
  | succ n ih =>
    rw [show n + 1 + m = (n + m) + 1 by omega, seg, seg, ih, show k + 1 + n = k + (n + 1) by omega]
    rfl
theorem r_close {k : Nat} {φ : Nat → Nat} {D : DS} {M : MS} (h : Rel k φ D M) (hk : k < 512) : (dClose D).1 = (mClose M).1 ∧ Rel (k + 1) φ (dClose D).2 (mClose M).2 := by
  have h9 := r_same (th := 0) h hk
  obtain ⟨ki, va, sp, sg, sk, sv, sc, og, nu, st, le, te, ma, ds, dl, ke⟩ := D
  obtain ⟨th0, gr, co, o, g, kd, vl, ro, fr, nm, dr⟩ := M
  obtain ⟨⟨a1, a2, a3, a4, a5⟩, ⟨hS, hE, hlv, ht, hhi⟩, hR⟩ := h.out
  subst a1
  have hm : ma < 2 ^ 31 := by have := hR.1.2.1; have := hR.1.2.2.1; omega
  simp only [dClose, mClose, leaveG]
  by_cases h0 : og = 0
  · rw [if_pos h0, if_pos h0]
    exact ⟨rfl, h9⟩
  · rw [if_neg h0, if_neg h0]
    obtain ⟨b1, b2, b3, b4, b5, b6⟩ := leave_ok (og := og) (le := le) hm (n := sc) (ki := ki) (va := va) (te := te) (ke := ke) (sp := sp) (sg := sg) (sk := sk) (sv := sv) (by omega)
      (fun i hi => ⟨(hS.2 _ (seg_mem.mpr ⟨i, by omega, by omega, rfl⟩)).2.2, sav_ok hS hlv (seg_mem.mpr ⟨i, by omega, by omega, rfl⟩)⟩) (fun q hq => cur_ok hS hlv hq) ht
    have b7 := leaveF_hi (le := le) (sp := sp) (sg := sg) (sk := sk) (sv := sv) (og := og) (n := sc) (ki := ki) (va := va) (ke := ke) hm hhi
    generalize leaveF ma le sp sg sk sv og sc ki va te ke = z at b1 b2 b3 b4 b5 b6 b7 ⊢
    obtain ⟨n1, ki1, va1, te1, ke1⟩ := z
    dsimp only at b1 b2 b3 b4 b5 b6 b7 ⊢
    have hkp : ∀ e : Ent, kp (-1) og e.1 e.2.1 = decide (e.2.1 < og) := fun e => by
      unfold kp
      rw [decide_eq_false (not_not_intro (by decide : (-1 : Int32) < 0)), Bool.false_and, Bool.false_or]
    have hlist := dropF_list (keep := kp (-1) og) (n := co) (k := 0) (j := 0) (o := o) (g := g) (c := kd) (d := vl) (Nat.le_refl _)
    have hle := dropF_le (keep := kp (-1) og) (n := co) (k := 0) (j := 0) (ofs := o) (grp := g) (kd := kd) (vl := vl)
    have hsp : seg sp sg sk sv 0 sc = seg sp sg sk sv 0 n1 ++ seg sp sg sk sv (0 + n1) (sc - n1) := by rw [← seg_split]; congr 1; omega
    have hpre : svS (seg sp sg sk sv 0 n1) := by
      have := hS.1
      rw [hsp] at this
      exact (List.pairwise_append.mp this).1
    refine ⟨rfl, Rel.mk' ⟨rfl, by omega, by omega, by omega, by omega⟩ ⟨⟨hpre, fun e he => ?_⟩, ?_, ?_, b4, b7⟩ hR.up⟩
    · obtain ⟨i, -, hi, rfl⟩ := seg_mem.mp he
      obtain ⟨c1, c2, c3⟩ := hS.2 _ (seg_mem.mpr ⟨i, by omega, by omega, rfl⟩)
      dsimp only at c1 c2 c3 ⊢
      refine ⟨c1, ?_, c3⟩
      have c4 := b3 (n1 - 1) (by omega)
      have c5 : sg (n1 - 1) ≤ og := (hS.2 _ (seg_mem.mpr ⟨n1 - 1, by omega, by omega, rfl⟩)).2.1
      by_cases e : i = n1 - 1
      · rw [e]; omega
      · have := svS_get hpre i (n1 - 1) (by omega) (by omega) (by omega)
        omega
    · rw [hlist]
      refine ⟨hE.1.filter _, fun e he => ?_⟩
      obtain ⟨c1, c2⟩ := List.mem_filter.mp he
      rw [hkp, decide_eq_true_eq] at c2
      exact ⟨by omega, (hE.2 e c1).2⟩
    · intro L p hL hp
      rw [hlist, b6 L p (by omega)]
      show valR φ ma ro fr p _ (rAt L (whatN p) ((seg o g kd vl 0 co).filter _))
      rw [rAt_filter]
      · exact hlv L p (by omega) hp
      · intro e he hq q
        rw [hkp, decide_eq_false_iff_not] at hq
        omega
/-- an assignment, as a call -/
theorem r_asg {k : Nat} {φ : Nat → Nat} {ki va : Nat → Int32} {sp sg : Nat → Nat} {sk sv : Nat → Int32} {sc og : Nat} {nu : Nat → Int32} {st le : Nat → Nat} {te : Nat → Int32} {ma ds dl : Nat} {ke th' : Int32} {co : Nat} {o g : Nat → Nat} {kd vl : Nat → Int32} {ro : Nat} {fr : Nat → Nat} {nm : Nat → Int32} {dr : Nat} {pl : Nat} {kk vv kk' vv' gg : Int32}
    (h1 : og ≤ 200 ∧ sc ≤ k ∧ co ≤ k ∧ k < 512) (h2 : relC φ ma ro le fr og ki va (seg sp sg sk sv 0 sc) (seg o g kd vl 0 co) te ke) (h3 : rowsR (k + 1) φ nu st le ma ds dl ro fr nm dr) (hpl : pl < 3367) (hv : valR φ ma ro fr pl (kk, vv) (kk', vv')) :
    Rel (k + 1) φ (dAsg pl kk vv gg (ki, va, sp, sg, sk, sv, sc, og, nu, st, le, te, ma, ds, dl, ke)) (mAsg (whatN pl) kk' vv' gg (th', og, co, o, g, kd, vl, ro, fr, nm, dr)) := by
  obtain ⟨b1, b2⟩ := asg_rel (g := gg) (by have := h3.1.2.1; have := h3.1.2.2.1; omega) (by omega) h2 hpl hv
  have b3 : (asgM (whatN pl) kk' vv' gg og co o g kd vl).1 ≤ co + 1 := by
    have := dropF_le (keep := kp (nI (whatN pl)) (if gg = 0 then og else 0)) (n := co) (k := 0) (j := 0) (ofs := o) (grp := g) (kd := kd) (vl := vl)
    show (dropF _ _ _ _ _ _ _ _).1 + 1 ≤ co + 1
    omega
  refine Rel.mk' ⟨rfl, h1.1, by omega, by omega, by omega⟩ ?_ h3
  rw [asgM_list]
  exact b1
theorem r_set {k : Nat} {φ : Nat → Nat} {D : DS} {M : MS} {x v gg : Int32} (h : Rel k φ D M) (hk : k < 512) : (dSet x v gg D).1 = (mSet x v gg M).1 ∧ Rel (k + 1) φ (dSet x v gg D).2 (mSet x v gg M).2 := by
  have h9 := r_same (th := 0) h hk
  obtain ⟨ki, va, sp, sg, sk, sv, sc, og, nu, st, le, te, ma, ds, dl, ke⟩ := D
  obtain ⟨th0, gr, co, o, g, kd, vl, ro, fr, nm, dr⟩ := M
  obtain ⟨⟨a1, a2, a3, a4, a5⟩, hC, hR⟩ := h.out
  subst a1
  simp only [dSet, mSet]
  by_cases hj : isR 2366 x = true
  · rw [if_pos hj, if_pos hj]
    have hi := (isR_of (by decide) hj).1
    refine ⟨rfl, ?_⟩
    have := r_asg (th' := 0) (gg := gg) (pl := rj x) (kk := 0) (vv := v) (kk' := 0) (vv' := v) ⟨a2, a3, a4, hk⟩ hC hR.up (by omega) ⟨fun _ => ⟨rfl, rfl⟩, fun h => absurd h.1 (by omega), fun h => by omega⟩
    rw [whatN_cell hi] at this
    exact this
  · rw [if_neg hj, if_neg hj]
    exact ⟨rfl, h9⟩
theorem r_mean {k : Nat} {φ : Nat → Nat} {D : DS} {M : MS} {x y v gg : Int32} (h : Rel k φ D M) (hk : k < 512) : (dMean x y v gg D).1 = (mMean x y v gg M).1 ∧ Rel (k + 1) φ (dMean x y v gg D).2 (mMean x y v gg M).2 := by
  have h9 := r_same (th := 0) h hk
  obtain ⟨ki, va, sp, sg, sk, sv, sc, og, nu, st, le, te, ma, ds, dl, ke⟩ := D
  obtain ⟨th0, gr, co, o, g, kd, vl, ro, fr, nm, dr⟩ := M
  obtain ⟨⟨a1, a2, a3, a4, a5⟩, hC, hR⟩ := h.out
  subst a1
  simp only [dMean, mMean]
  by_cases hj : (isR 1000 x && kOk y) = true
  · rw [if_pos hj, if_pos hj]
    obtain ⟨hj1, hj2⟩ := Bool.and_eq_true_iff.mp hj
    have hi := (isR_of (by decide) hj1).1
    have hy : y ≠ 3 := by
      unfold kOk at hj2
      simp only [Bool.and_eq_true, decide_eq_true_eq] at hj2
      exact hj2.2
    refine ⟨rfl, ?_⟩
    have := r_asg (th' := 0) (gg := gg) (pl := 2366 + rj x) (kk := y) (vv := v) (kk' := y) (vv' := v) ⟨a2, a3, a4, hk⟩ hC hR.up (by omega) ⟨fun h => by omega, fun _ => ⟨rfl, fun h => absurd h hy, fun _ => rfl⟩, fun h => by omega⟩
    rw [whatN_name hi] at this
    exact this
  · rw [if_neg hj, if_neg hj]
    exact ⟨rfl, h9⟩
theorem r_draft {k : Nat} {φ : Nat → Nat} {D : DS} {M : MS} {v : Int32} (h : Rel k φ D M) (hk : k < 512) : (dDraft v D).1 = (mDraft v M).1 ∧ Rel (k + 1) φ (dDraft v D).2 (mDraft v M).2 := by
  have h9 := r_same (th := 0) h hk
  obtain ⟨ki, va, sp, sg, sk, sv, sc, og, nu, st, le, te, ma, ds, dl, ke⟩ := D
  obtain ⟨th0, gr, co, o, g, kd, vl, ro, fr, nm, dr⟩ := M
  obtain ⟨⟨a1, a2, a3, a4, a5⟩, hC, hR⟩ := h.out
  subst a1
  obtain ⟨⟨c1, c2, c3, c4, c5⟩, ⟨d1, d2, d3, d4⟩, e1, e2, e3, e4, e5⟩ := id hR
  subst d2
  simp only [dDraft, mDraft, joinF]
  by_cases hd : dl = 200
  · rw [if_neg (fun q => by omega), if_pos hd]
    exact ⟨rfl, h9⟩
  · rw [if_pos ⟨by omega, by omega⟩, if_neg hd]
    dsimp only
    refine ⟨rfl, Rel.mk' ⟨rfl, a2, by omega, by omega, by omega⟩ hC ⟨⟨c1, c2, by omega, c4, c5⟩, ⟨d1, rfl, by omega, by omega⟩, fun j hj => ?_, e2, e3, e4, e5⟩⟩
    by_cases e : j = ds + dl
    · rw [e, pk_us, ← d1, pk_us]
    · rw [pk_un e, ← d1, pk_un e]
      exact e1 j (by omega)
