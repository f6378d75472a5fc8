theorem row_num {k : Nat} {φ : Nat → Nat} {ki va : Nat → Int32} {sp sg : Nat → Nat} {sk sv : Nat → Int32} {sc og : Nat} {nu : Nat → Int32} {st le : Nat → Nat} {te : Nat → Int32} {ma ds dl : Nat} {ke th : Int32} {gr co : Nat} {o g : Nat → Nat} {kd vl : Nat → Int32} {ro : Nat} {fr : Nat → Nat} {nm : Nat → Int32} {dr : Nat} (x : Int32)
    (h : Rel k φ (ki, va, sp, sg, sk, sv, sc, og, nu, st, le, te, ma, ds, dl, ke) (th, gr, co, o, g, kd, vl, ro, fr, nm, dr)) :
    (∃ v', rowR φ ma ro fr (dRow x (ki, va, sp, sg, sk, sv, sc, og, nu, st, le, te, ma, ds, dl, ke)) v' ∧ mRow x co o kd vl = rj v') ∨ (dRow x (ki, va, sp, sg, sk, sv, sc, og, nu, st, le, te, ma, ds, dl, ke) = -1 ∧ mRow x co o kd vl = 0) := by
  obtain ⟨⟨a1, a2, a3, a4, a5⟩, hC, hR⟩ := h.out
  unfold dRow mRow
  dsimp only
  by_cases h1 : x = -1
  · rw [if_pos h1, if_pos h1]
    have hn := now_rel hC (p := 3366) (by omega)
    rw [whatN_shape] at hn
    exact Or.inl ⟨_, (hn.2.2 rfl).2, rfl⟩
  · rw [if_neg h1, if_neg h1]
    by_cases h2 : isR 1000 x = true
    · rw [if_pos h2, if_pos h2]
      have hi := (isR_of (by decide) h2).1
      have hn := now_rel hC (p := 2366 + rj x) (by omega)
      rw [whatN_name hi] at hn
      obtain ⟨n1, n2, n3⟩ := hn.2.1 ⟨by omega, by omega⟩
      dsimp only at n1 n2 n3
      rw [← n1]
      by_cases h3 : ki (2366 + rj x) = 3
      · rw [if_pos h3, if_pos h3]
        exact Or.inl ⟨_, n2 h3, rfl⟩
      · rw [if_neg h3, if_neg h3]
        exact Or.inr ⟨rfl, rfl⟩
    · rw [if_neg h2, if_neg h2]
      exact Or.inr ⟨rfl, rfl⟩
theorem len_neg {ma : Nat} {le : Nat → Nat} : lenR ma le (-1) = 0 := by
  unfold lenR
  rw [isR_f1 (by decide)]
  rfl
theorem r_has {k : Nat} {φ : Nat → Nat} {ki va : Nat → Int32} {sp sg : Nat → Nat} {sk sv : Nat → Int32} {sc og : Nat} {nu : Nat → Int32} {st le : Nat → Nat} {te : Nat → Int32} {ma ds dl : Nat} {ke th : Int32} {gr co : Nat} {o g : Nat → Nat} {kd vl : Nat → Int32} {ro : Nat} {fr : Nat → Nat} {nm : Nat → Int32} {dr : Nat} (x y : Int32)
    (h : Rel k φ (ki, va, sp, sg, sk, sv, sc, og, nu, st, le, te, ma, ds, dl, ke) (th, gr, co, o, g, kd, vl, ro, fr, nm, dr)) :
    lenR ma le (dRow x (ki, va, sp, sg, sk, sv, sc, og, nu, st, le, te, ma, ds, dl, ke)) = sizeM fr (mRow x co o kd vl) ∧ dHas x y (ki, va, sp, sg, sk, sv, sc, og, nu, st, le, te, ma, ds, dl, ke) = nOk fr (mRow x co o kd vl) y := by
  obtain ⟨⟨a1, a2, a3, a4, a5⟩, hC, hR⟩ := h.out
  have hl : lenR ma le (dRow x (ki, va, sp, sg, sk, sv, sc, og, nu, st, le, te, ma, ds, dl, ke)) = sizeM fr (mRow x co o kd vl) := by
    rcases row_num x h with ⟨v', h1, h2⟩ | ⟨h1, h2⟩
    · rw [h2]
      exact (row_len a5 hR h1).2.2.1
    · rw [h1, h2, len_neg]
      rfl
  refine ⟨hl, ?_⟩
  show hasR ma le (dRow x (ki, va, sp, sg, sk, sv, sc, og, nu, st, le, te, ma, ds, dl, ke)) y = _
  unfold hasR nOk
  rw [hl]
  congr 1
  exact decide_eq_decide.mpr Int32.not_le
theorem r_number {k : Nat} {φ : Nat → Nat} {D : DS} {M : MS} {x y : Int32} (h : Rel k φ D M) (hk : k < 512) (hj : (x = -1 ∧ y = -1) ∨ dHas x y D = true) : dNum x y D = (mNumber x y M).1 ∧ (mNumber x y M).2.1 = 0 ∧ Rel (k + 1) φ D (mNumber x y M).2 := by
  have h9 := r_same (th := 0) h hk
  obtain ⟨ki, va, sp, sg, sk, sv, sc, og, nu, st, le, te, ma, ds, dl, ke⟩ := D
  obtain ⟨th0, gr, co, o, g, kd, vl, ro, fr, nm, dr⟩ := M
  obtain ⟨⟨a1, a2, a3, a4, a5⟩, hC, hR⟩ := h.out
  obtain ⟨hl, hh⟩ := r_has x y h
  simp only [mNumber]
  by_cases hb : x = -1 ∧ y = -1
  · rw [if_pos hb]
    refine ⟨?_, rfl, h9⟩
    unfold dNum
    rw [if_pos hb]
    show lenR ma le _ = _
    rw [hl, mRow_sh hb.1]
  · rcases hj with hj | hj
    · exact absurd hj hb
    · rw [hh] at hj
      rw [if_neg hb, if_pos hj]
      refine ⟨?_, rfl, h9⟩
      unfold dNum
      rw [if_neg hb]
      dsimp only
      rcases row_num x h with ⟨v', h1, h2⟩ | ⟨h1, h2⟩
      · obtain ⟨b1, b2, b3, b4, b5⟩ := row_len a5 hR h1
        obtain ⟨⟨c1, c2, c3, c4, c5⟩, ⟨d1, d2, d3, d4⟩, e1, e2, e3, e4, e5⟩ := hR
        rw [h2] at hj ⊢
        have e6 := e2 _ b2
        obtain ⟨f1, f2⟩ := nOk_lt e6.1 (by omega) hj
        unfold numR
        have hh' : hasR ma le (dRow x (ki, va, sp, sg, sk, sv, sc, og, nu, st, le, te, ma, ds, dl, ke)) y = true := by
          have := hh
          rw [h2, hj] at this
          exact this
        rw [if_pos hh']
        have hst : st (rj (dRow x (ki, va, sp, sg, sk, sv, sc, og, nu, st, le, te, ma, ds, dl, ke))) = fr (rj v') := by
          rcases b5 with b5 | b5
          · exact b5
          · have hle : ∀ j, j < ma → le j < 2 ^ 31 := by
              intro j hj9
              by_cases h0 : j = 0
              · rw [h0, c4]; decide
              · have h7 := e3 j (by omega) hj9
                have h8 := (e2 _ h7.2.1).2
                omega
            have := (hasR_of (by omega) hle hh').2.1
            omega
        rw [hst]
        exact e1 _ (by omega)
      · rw [h2] at hj
        unfold nOk at hj
        simp only [Bool.and_eq_true, decide_eq_true_eq] at hj
        exact absurd hj.2 hj.1
theorem r_numberX {k : Nat} {φ : Nat → Nat} {D : DS} {M : MS} {x y : Int32} (h : Rel k φ D M) (hk : k < 512) (hb : ¬ (x = -1 ∧ y = -1)) (hj : dHas x y D = false) : (mNumber x y M).2.1 = 1 ∧ Rel (k + 1) φ D (mNumber x y M).2 := by
  have h9 := r_same (th := 1) h hk
  obtain ⟨ki, va, sp, sg, sk, sv, sc, og, nu, st, le, te, ma, ds, dl, ke⟩ := D
  obtain ⟨th0, gr, co, o, g, kd, vl, ro, fr, nm, dr⟩ := M
  obtain ⟨hl, hh⟩ := r_has x y h
  rw [hj] at hh
  simp only [mNumber, if_neg hb, ← hh]
  exact ⟨rfl, h9⟩
/-! what is kept -/
theorem keptM_sum {o g : Nat → Nat} {kd vl : Nat → Int32} {fr : Nat → Nat} {co ro : Nat} (hfr : ∀ R, R < ro → fr R ≤ fr (R + 1)) : ∀ {j : Nat}, j < ro → keptM o kd vl fr co j = nI (sm (fun R => if R = 0 then 0 else if tolM o kd vl R co then fr (R + 1) - fr R else 0) (j + 1)) := by
  intro j
  induction j with
  | zero => intro _; rfl
  | succ j ih =>
    intro hj
    rw [keptM, ih (by omega)]
    show _ = nI (sm _ (j + 1) + (if j + 1 = 0 then 0 else if tolM o kd vl (j + 1) co then fr (j + 1 + 1) - fr (j + 1) else 0))
    rw [if_neg (show ¬ j + 1 = 0 by omega), ← nI_add]
    congr 1
    by_cases ht : tolM o kd vl (j + 1) co = true
    · rw [if_pos ht, if_pos ht]
      unfold sizeM
      rw [if_neg (by omega), pk_sub (hfr (j + 1) hj)]
    · rw [if_neg ht, if_neg ht]
      rfl
theorem cP_pos {ki va : Nat → Int32} {j : Nat} : ∀ {n : Nat}, cP ki va j n ≠ 0 → ∃ p, p < n ∧ ki p = 3 ∧ va p = nI j := by
  intro n
  induction n with
  | zero => intro h; exact absurd rfl h
  | succ n ih =>
    intro h
    by_cases e : ki n = 3 ∧ va n = nI j
    · exact ⟨n, by omega, e⟩
    · have : cP ki va j n ≠ 0 := by
        intro q
        refine h ?_
        show cP ki va j n + ind (ki n) (va n) j = 0
        rw [q]
        unfold ind
        rw [if_neg e]
      obtain ⟨p, h1, h2⟩ := ih this
      exact ⟨p, by omega, h2⟩
theorem cS_pos {j : Nat} : ∀ {S : List Ent}, cS j S ≠ 0 → ∃ e ∈ S, e.2.2.1 = 3 ∧ e.2.2.2 = nI j := by
  intro S
  induction S with
  | nil => intro h; exact absurd rfl h
  | cons x S ih =>
    intro h
    by_cases e : x.2.2.1 = 3 ∧ x.2.2.2 = nI j
    · exact ⟨x, List.mem_cons_self .., e⟩
    · have : cS j S ≠ 0 := by
        intro q
        refine h ?_
        show ind x.2.2.1 x.2.2.2 j + cS j S = 0
        rw [q]
        unfold ind
        rw [if_neg e]
      obtain ⟨y, h1, h2⟩ := ih this
      exact ⟨y, List.mem_cons_of_mem _ h1, h2⟩
theorem cP_ne {ki va : Nat → Int32} {j p : Nat} (h1 : ki p = 3) (h2 : va p = nI j) : ∀ {n : Nat}, p < n → cP ki va j n ≠ 0 := by
  intro n
  induction n with
  | zero => intro h; omega
  | succ n ih =>
    intro h
    show cP ki va j n + ind (ki n) (va n) j ≠ 0
    by_cases e : p = n
    · subst e
      unfold ind
      rw [if_pos ⟨h1, h2⟩]
      omega
    · have := ih (by omega)
      omega
theorem cS_ne {j : Nat} {e : Ent} (h1 : e.2.2.1 = 3) (h2 : e.2.2.2 = nI j) : ∀ {S : List Ent}, e ∈ S → cS j S ≠ 0 := by
  intro S
  induction S with
  | nil => intro h; cases h
  | cons x S ih =>
    intro h
    show ind x.2.2.1 x.2.2.2 j + cS j S ≠ 0
    rcases List.mem_cons.mp h with rfl | h
    · unfold ind
      rw [if_pos ⟨h1, h2⟩]
      omega
    · have := ih h
      omega
theorem told_iff {k : Nat} {φ : Nat → Nat} {ma ro : Nat} {le fr : Nat → Nat} {og : Nat} {ki va : Nat → Int32} {S E : List Ent} {te : Nat → Int32} {ke : Int32} {nu : Nat → Int32} {st : Nat → Nat} {ds dl : Nat} {nm : Nat → Int32} {dr : Nat} (hk : k ≤ 512) (hC : relC φ ma ro le fr og ki va S E te ke) (hR : rowsR k φ nu st le ma ds dl ro fr nm dr) {r : Nat} (h1 : 1 ≤ r) (hr : r < ma) :
    cP ki va r 3367 + cS r S ≠ 0 ↔ E.any (isT (nI (φ r))) = true := by
  obtain ⟨hS, hE, hlv, -, -⟩ := hC
  obtain ⟨⟨c1, c2, c3, c4, c5⟩, ⟨d1, d2, d3, d4⟩, e1, e2, e3, e4, e5⟩ := hR
  obtain ⟨f1, f2, f3, f4, f5⟩ := e3 r h1 hr
  have up : ∀ L p, L ≤ og → p < 3367 → cAt L p (ki p, va p) S = (3, nI r) → E.any (isT (nI (φ r))) = true := by
    intro L p hL hp hc
    have hv := hlv L p hL hp
    rw [hc] at hv
    have hn := (valR_ok hp hv).2 rfl
    obtain ⟨n1, n2, -⟩ := hv.2.1 hn
    obtain ⟨r', R, g1, g2, g3, g4, g5, g6⟩ := n2 rfl
    dsimp only at n1 g1 g2
    have e6 : r = r' := (nI_eq (by omega) (by omega)).mp g1
    subst e6
    rw [g6 (by omega)] at g2
    rcases rAt_mem (L := L) (w := whatN p) (S := E) with hz | ⟨e, he, q1, q2, q3⟩
    · rw [hz] at n1
      exact absurd n1 (by decide)
    · rw [List.any_eq_true]
      refine ⟨e, he, ?_⟩
      rw [q3] at n1 g2
      unfold isT
      have hw : 3000 ≤ e.1 ∧ e.1 < 4000 := by
        rw [q1]
        unfold whatN
        obtain ⟨z1, z2⟩ := hn
        rw [if_neg (by omega), if_pos z2]
        omega
      rw [decide_eq_true hw.1, decide_eq_true hw.2, decide_eq_true n1.symm, decide_eq_true g2]
      rfl
  constructor
  · intro hne
    by_cases hp : cP ki va r 3367 = 0
    · obtain ⟨e, he, q1, q2⟩ := cS_pos (j := r) (S := S) (by omega)
      obtain ⟨b1, b2, b3⟩ := hS.2 e he
      refine up (e.2.1 - 1) e.1 (by omega) b3 ?_
      rw [cAt_self hS.1 he b1]
      exact Prod.ext q1 q2
    · obtain ⟨p, hp3, q1, q2⟩ := cP_pos hp
      refine up og p (Nat.le_refl _) hp3 ?_
      rw [cAt_top hS (Nat.le_refl _)]
      exact Prod.ext q1 q2
  · intro ha
    rw [List.any_eq_true] at ha
    obtain ⟨e, he, hq⟩ := ha
    unfold isT at hq
    simp only [Bool.and_eq_true, decide_eq_true_eq] at hq
    obtain ⟨⟨⟨q1, q2⟩, q3⟩, q4⟩ := hq
    have hw : whatN (e.1 - 634) = e.1 := by
      unfold whatN
      rw [if_neg (by omega), if_pos (by omega)]
      omega
    have hv := hlv e.2.1 (e.1 - 634) (hE.2 e he).1 (by omega)
    rw [hw, rAt_self hE.1 he] at hv
    obtain ⟨n1, n2, -⟩ := hv.2.1 ⟨by omega, by omega⟩
    have n3 : (cAt e.2.1 (e.1 - 634) (ki (e.1 - 634), va (e.1 - 634)) S).1 = 3 := n1.trans q3
    obtain ⟨r', R, g1, g2, g3, g4, g5, g6⟩ := n2 n3
    rw [q4] at g2
    have e6 : φ r = R := (nI_eq (by omega) (by omega)).mp g2
    have e7 : r' = r := by
      by_cases h0 : r' = 0
      · rcases g5 h0 with z | z
        · omega
        · rw [← e6, f5] at z
          omega
      · exact (e4 r r' h1 hr (by omega) g3 (by rw [e6]; exact g6 h0)).symm
    subst e7
    rcases cAt_mem (L := e.2.1) (p := e.1 - 634) (cur := (ki (e.1 - 634), va (e.1 - 634))) (S := S) with hz | ⟨x, hx, y1, y2, y3⟩
    · rw [hz] at n3 g1
      have := cP_ne (ki := ki) (va := va) n3 g1 (n := 3367) (by omega)
      omega
    · rw [y3] at n3 g1
      have := cS_ne n3 g1 hx
      omega
theorem r_count {k : Nat} {φ : Nat → Nat} {D : DS} {M : MS} {x : Int32} (h : Rel k φ D M) (hk : k < 512) : dCount x D = (mCount x M).1 ∧ Rel (k + 1) φ D (mCount x M).2 := by
  have h9 := r_same (th := 0) h hk
  obtain ⟨ki, va, sp, sg, sk, sv, sc, og, nu, st, le, te, ma, ds, dl, ke⟩ := D
  obtain ⟨th0, gr, co, o, g, kd, vl, ro, fr, nm, dr⟩ := M
  obtain ⟨⟨a1, a2, a3, a4, a5⟩, hC, hR⟩ := h.out
  refine ⟨?_, h9⟩
  unfold dCount
  simp only [mCount]
  have hkept : ke = keptM o kd vl fr co (ro - 1) := by
    obtain ⟨⟨c1, c2, c3, c4, c5⟩, ⟨d1, d2, d3, d4⟩, e1, e2, e3, e4, e5⟩ := id hR
    rw [keptM_sum (g := g) (ro := ro) (fun R hR => (e2 R hR).1) (by omega), show ro - 1 + 1 = ro by omega, e5 (fun R => tolM o kd vl R co), hC.2.2.2.1.2]
    refine congrArg nI (sm_congr (fun r hr => ?_))
    show (if cP ki va r 3367 + cS r (seg sp sg sk sv 0 sc) = 0 then 0 else le r) = (if r = 0 then 0 else if tolM o kd vl (φ r) co then le r else 0)
    by_cases h0 : r = 0
    · rw [if_pos h0, h0, c4]
      split <;> rfl
    · rw [if_neg h0, tolM_list (g := g)]
      have hi := told_iff a5 hC hR (r := r) (by omega) hr
      by_cases hz : cP ki va r 3367 + cS r (seg sp sg sk sv 0 sc) = 0
      · rw [if_pos hz, if_neg (fun q => hi.mpr q hz)]
      · rw [if_neg hz, if_pos (hi.mp hz)]
  rw [a1, hR.2.1.2.1, hkept]
theorem tel_0 {cnt : Nat → Nat} : (0 : Int32) = nI (sm (told (fun _ => 0) cnt) 1) := by
  have e : sm (told (fun _ => 0) cnt) 1 = 0 := by
    show 0 + told (fun _ => 0) cnt 0 = 0
    unfold told
    split <;> rfl
  rw [e]
  rfl
theorem rel_0 : Rel 0 (fun _ => 0) D0 M0 := by
  unfold D0 M0
  refine Rel.mk' ⟨rfl, by decide, by decide, by decide, by decide⟩ ⟨⟨List.Pairwise.nil, fun e h => by cases h⟩, ⟨List.Pairwise.nil, fun e h => by cases h⟩, fun L p hL hp => ?_, ⟨fun r hr => ?_, ?_⟩, fun r _ => rfl⟩ ⟨⟨by decide, by decide, by decide, rfl, rfl⟩, ⟨rfl, rfl, by decide, by decide⟩, fun j hj => rfl, fun R hR => ⟨Nat.le_refl _, Nat.le_refl _⟩, fun r h1 h2 => by omega, fun r r' h1 h2 => by omega, fun T => rfl⟩
  · show valR _ _ _ _ p ((0 : Int32), (0 : Int32)) ((0 : Int32), (0 : Int32))
    exact ⟨fun _ => ⟨rfl, rfl⟩, fun _ => ⟨rfl, fun h => absurd h (by decide), fun _ => rfl⟩, fun _ => ⟨rfl, 0, 0, rfl, rfl, by omega, by omega, fun _ => Or.inl rfl, fun h => absurd rfl h⟩⟩
  · show (0 : Int32) = nI (cP (fun _ => 0) (fun _ => 0) r 3367 + cS r (seg _ _ _ _ 0 0))
    rw [cP_zero (fun p _ => by unfold ind; exact if_neg (fun q => absurd q.1 (by decide)))]
    rfl
  · exact tel_0
theorem rel_D {k : Nat} {φ : Nat → Nat} {D : DS} {M : MS} (h : Rel k φ D M) : D.2.2.2.2.2.2.2.2.2.2.2.2.1 ≤ 513 ∧ D.2.2.2.2.2.2.1 ≤ 512 ∧ D.2.2.2.2.2.2.2.1 < 2 ^ 31 ∧ (∀ j, j < D.2.2.2.2.2.2.1 → D.2.2.2.1 j < 2 ^ 31) ∧ (∀ j, j < D.2.2.2.2.2.2.1 → D.2.2.1 j < 3367) ∧ D.2.2.2.2.2.2.2.2.2.2.2.2.2.1 + D.2.2.2.2.2.2.2.2.2.2.2.2.2.2.1 ≤ 512 ∧ (∀ j, j < D.2.2.2.2.2.2.2.2.2.2.2.2.1 → D.2.2.2.2.2.2.2.2.2.1 j + D.2.2.2.2.2.2.2.2.2.2.1 j ≤ 512) := by
  obtain ⟨ki, va, sp, sg, sk, sv, sc, og, nu, st, le, te, ma, ds, dl, ke⟩ := D
  obtain ⟨th0, gr, co, o, g, kd, vl, ro, fr, nm, dr⟩ := M
  obtain ⟨⟨a1, a2, a3, a4, a5⟩, ⟨hS, hE, hlv, ht, hhi⟩, ⟨c1, c2, c3, c4, c5⟩, ⟨d1, d2, d3, d4⟩, e1, e2, e3, e4, e5⟩ := h.out
  dsimp only
  refine ⟨by omega, by omega, by omega, fun j hj => ?_, fun j hj => ?_, by omega, fun j hj => ?_⟩
  · have : sg j ≤ og := (hS.2 _ (seg_mem.mpr ⟨j, by omega, by omega, rfl⟩)).2.1
    omega
  · exact (hS.2 _ (seg_mem.mpr ⟨j, by omega, by omega, rfl⟩)).2.2
  · by_cases h0 : j = 0
    · rw [h0, c4, c5]; decide
    · obtain ⟨f1, f2, f3, f4, f5⟩ := e3 j (by omega) hj
      have := (e2 _ f2).2
      omega
theorem rel_M {k : Nat} {φ : Nat → Nat} {D : DS} {M : MS} (h : Rel k φ D M) : M.2.2.1 < 4200 ∧ M.2.1 < 2 ^ 31 ∧ (∀ i, i < M.2.2.1 → M.2.2.2.2.1 i < 2 ^ 31) ∧ (∀ i, i < M.2.2.1 → M.2.2.2.1 i < 2 ^ 31) ∧ (1 ≤ M.2.2.2.2.2.2.2.1 ∧ M.2.2.2.2.2.2.2.1 + 1 < 4200) ∧ (M.2.2.2.2.2.2.2.2.2.2 < 2 ^ 31 ∧ M.2.2.2.2.2.2.2.2.1 M.2.2.2.2.2.2.2.1 + M.2.2.2.2.2.2.2.2.2.2 < 4400) ∧
    (∀ j, j < 1000 → atM M.2.2.2.1 M.2.2.2.2.2.1 (3000 + j) M.2.2.1 = 3 → atM M.2.2.2.1 M.2.2.2.2.2.2.1 (3000 + j) M.2.2.1 = nI (rj (atM M.2.2.2.1 M.2.2.2.2.2.2.1 (3000 + j) M.2.2.1)) ∧ rj (atM M.2.2.2.1 M.2.2.2.2.2.2.1 (3000 + j) M.2.2.1) < M.2.2.2.2.2.2.2.1) ∧
    (atM M.2.2.2.1 M.2.2.2.2.2.2.1 4000 M.2.2.1 = nI (rj (atM M.2.2.2.1 M.2.2.2.2.2.2.1 4000 M.2.2.1)) ∧ rj (atM M.2.2.2.1 M.2.2.2.2.2.2.1 4000 M.2.2.1) < M.2.2.2.2.2.2.2.1) ∧ (∀ r, r < M.2.2.2.2.2.2.2.1 → M.2.2.2.2.2.2.2.2.1 r ≤ M.2.2.2.2.2.2.2.2.1 (r + 1) ∧ M.2.2.2.2.2.2.2.2.1 (r + 1) ≤ 4400) := by
  obtain ⟨ki, va, sp, sg, sk, sv, sc, og, nu, st, le, te, ma, ds, dl, ke⟩ := D
  obtain ⟨th0, gr, co, o, g, kd, vl, ro, fr, nm, dr⟩ := M
  obtain ⟨⟨a1, a2, a3, a4, a5⟩, hC, hR⟩ := h.out
  obtain ⟨hS, hE, hlv, ht, hhi⟩ := id hC
  obtain ⟨⟨c1, c2, c3, c4, c5⟩, ⟨d1, d2, d3, d4⟩, e1, e2, e3, e4, e5⟩ := id hR
  dsimp only
  refine ⟨by omega, by omega, fun i hi => ?_, fun i hi => ?_, ⟨by omega, by omega⟩, ⟨by omega, by omega⟩, fun j hj h3 => ?_, ?_, fun r hr => ?_⟩
  · have : g i ≤ og := (hE.2 _ (seg_mem.mpr ⟨i, by omega, by omega, rfl⟩)).1
    omega
  · have : o i ≤ 4000 := (hE.2 _ (seg_mem.mpr ⟨i, by omega, by omega, rfl⟩)).2
    omega
  · have hn := now_rel hC (p := 2366 + j) (by omega)
    rw [whatN_name hj] at hn
    obtain ⟨n1, n2, n3⟩ := hn.2.1 ⟨by omega, by omega⟩
    dsimp only at n1 n2
    have b := row_len a5 hR (n2 (n1.trans h3))
    exact ⟨b.1, b.2.1⟩
  · have hn := now_rel hC (p := 3366) (by omega)
    rw [whatN_shape] at hn
    have b := row_len a5 hR (hn.2.2 rfl).2
    exact ⟨b.1, b.2.1⟩
  · have := e2 r hr
    omega
