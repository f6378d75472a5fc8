/-- the reference's entries behind an assignment -/
def asE (w gg : Nat) (k v : Int32) (E : List Ent) : List Ent := E.filter (fun e => kp (nI w) gg e.1 e.2.1) ++ [(w, gg, k, v)]
theorem asE_rel {og w gg : Nat} {k v : Int32} {E : List Ent} (hE : relE og E) (hw : w ≤ 4000) (hg : gg ≤ og) : relE og (asE w gg k v E) := by
  refine ⟨List.pairwise_append.mpr ⟨hE.1.filter _, List.pairwise_singleton _ _, fun a ha b hb => ?_⟩, fun e he => ?_⟩
  · intro hab
    rw [List.mem_singleton] at hb
    subst hb
    obtain ⟨h1, h2⟩ := List.mem_filter.mp ha
    have h3 := (kp_iff hw (hE.2 a h1).2).mp h2
    rcases h3 with h3 | h3
    · exact absurd hab h3
    · exact h3
  · rcases List.mem_append.mp he with h | h
    · exact hE.2 e (List.mem_filter.mp h).1
    · rw [List.mem_singleton] at h
      subst h
      exact ⟨hg, hw⟩
theorem asE_other {og w gg L x : Nat} {k v : Int32} {E : List Ent} (hE : relE og E) (hw : w ≤ 4000) (hx : x ≠ w) : rAt L x (asE w gg k v E) = rAt L x E := by
  unfold asE
  rw [rAt_snoc, if_neg (fun h => hx h.1.symm), rAt_filter]
  intro e he hq h
  have h1 : ¬ (kp (nI w) gg e.1 e.2.1 = true) := by rw [hq]; decide
  rw [kp_iff hw (hE.2 e he).2] at h1
  exact h1 (Or.inl (fun h2 => hx (h.1.symm.trans h2)))
theorem asE_low {og w gg L : Nat} {k v : Int32} {E : List Ent} (hE : relE og E) (hw : w ≤ 4000) (hL : L < gg) : rAt L w (asE w gg k v E) = rAt L w E := by
  unfold asE
  rw [rAt_snoc, if_neg (fun h => by have := h.2; dsimp only at this; omega), rAt_filter]
  intro e he hq h
  have h1 : ¬ (kp (nI w) gg e.1 e.2.1 = true) := by rw [hq]; decide
  rw [kp_iff hw (hE.2 e he).2] at h1
  exact h1 (Or.inr (by omega))
theorem asE_top {w gg L : Nat} {k v : Int32} {E : List Ent} (hL : gg ≤ L) : rAt L w (asE w gg k v E) = (k, v) := by
  unfold asE
  rw [rAt_snoc, if_pos ⟨rfl, hL⟩]
section AS
variable {φ : Nat → Nat} {ma ro : Nat} {le fr : Nat → Nat} {og : Nat} {ki va : Nat → Int32} {S E : List Ent} {te : Nat → Int32} {ke : Int32} {pl : Nat} {k v k' v' : Int32}
/-- a row is saved -/
theorem as_save (hS : relS og S) (hE : relE og E) (hlv : lvR φ ma ro fr og ki va S E) (hpl : pl < 3367) (hv : valR φ ma ro fr pl (k, v) (k', v')) (h0 : og ≠ 0) (hno : ∀ e ∈ S, ¬ (e.1 = pl ∧ e.2.1 = og)) :
    relS og (S ++ [(pl, og, ki pl, va pl)]) ∧ lvR φ ma ro fr og (upd ki pl k) (upd va pl v) (S ++ [(pl, og, ki pl, va pl)]) (asE (whatN pl) og k' v' E) := by
  have hS' : relS og (S ++ [(pl, og, ki pl, va pl)]) := by
    refine ⟨List.pairwise_append.mpr ⟨hS.1, List.pairwise_singleton _ _, fun a ha b hb => ?_⟩, fun e he => ?_⟩
    · rw [List.mem_singleton] at hb
      subst hb
      exact ⟨(hS.2 a ha).2.1, hno a ha⟩
    · rcases List.mem_append.mp he with h | h
      · exact hS.2 e h
      · rw [List.mem_singleton] at h
        subst h
        exact ⟨by show 1 ≤ og; omega, Nat.le_refl _, hpl⟩
  refine ⟨hS', fun L p hL hp => ?_⟩
  by_cases e : p = pl
  · subst e
    rw [pk_us, pk_us]
    by_cases hlo : L < og
    · rw [asE_low hE (whatN_le p) hlo, cAt_snoc, if_pos ⟨rfl, hlo⟩]
      exact hlv L p hL hp
    · rw [asE_top (by omega), cAt_top hS' (by omega)]
      exact hv
  · rw [asE_other hE (whatN_le pl) (fun h => e (whatN_inj hp hpl h)), cAt_snoc, if_neg (fun h => e h.1.symm), pk_un e, pk_un e]
    exact hlv L p hL hp
/-- no row is saved: one stands there, or no group is open -/
theorem as_keep (hS : relS og S) (hE : relE og E) (hlv : lvR φ ma ro fr og ki va S E) (hpl : pl < 3367) (hv : valR φ ma ro fr pl (k, v) (k', v')) (hyes : og = 0 ∨ ∃ e ∈ S, e.1 = pl ∧ e.2.1 = og) :
    lvR φ ma ro fr og (upd ki pl k) (upd va pl v) S (asE (whatN pl) og k' v' E) := by
  intro L p hL hp
  by_cases e : p = pl
  · subst e
    rw [pk_us, pk_us]
    by_cases hlo : L < og
    · rcases hyes with h | ⟨x, hx, h1, h2⟩
      · omega
      · rw [asE_low hE (whatN_le p) hlo, cAt_any (cur' := (ki p, va p)) ⟨x, hx, h1, by omega⟩]
        exact hlv L p hL hp
    · rw [asE_top (by omega), cAt_top hS (by omega)]
      exact hv
  · rw [asE_other hE (whatN_le pl) (fun h => e (whatN_inj hp hpl h)), pk_un e, pk_un e]
    exact hlv L p hL hp
/-- with GLOBAL -/
theorem as_glob (hS : relS og S) (hE : relE og E) (hlv : lvR φ ma ro fr og ki va S E) (hpl : pl < 3367) (hv : valR φ ma ro fr pl (k, v) (k', v')) :
    relS og (S.filter (fun e => !decide (e.1 = pl))) ∧ lvR φ ma ro fr og (upd ki pl k) (upd va pl v) (S.filter (fun e => !decide (e.1 = pl))) (asE (whatN pl) 0 k' v' E) := by
  refine ⟨⟨hS.1.filter _, fun e he => hS.2 e (List.mem_filter.mp he).1⟩, fun L p hL hp => ?_⟩
  by_cases e : p = pl
  · subst e
    rw [pk_us, pk_us, asE_top (Nat.zero_le _), cAt_none]
    · exact hv
    · intro x hx h
      have := (List.mem_filter.mp hx).2
      simp [h.1] at this
  · rw [asE_other hE (whatN_le pl) (fun h => e (whatN_inj hp hpl h)), pk_un e, pk_un e, cAt_filter]
    · exact hlv L p hL hp
    · intro x hx hq h
      simp at hq
      exact e (h.1.symm.trans hq)
end AS
theorem tellT_hi {ma : Nat} {le : Nat → Nat} {k v : Int32} {te : Nat → Int32} {ke : Int32} (hm : ma < 2 ^ 31) (h : ∀ r, ma ≤ r → te r = 0) : ∀ r, ma ≤ r → (tellT ma le k v te ke).1 r = 0 := by
  intro r hr
  unfold tellT
  by_cases hk : k = 3
  · rw [if_pos hk]
    unfold addT
    by_cases hi : isR ma v = true
    · rw [if_pos hi]
      show upd te (rj v) _ r = 0
      rw [pk_un (by have := (isR_of hm hi).1; omega)]
      exact h r hr
    · rw [if_neg hi]; exact h r hr
  · rw [if_neg hk]; exact h r hr
theorem untellT_hi {ma : Nat} {le : Nat → Nat} {k v : Int32} {te : Nat → Int32} {ke : Int32} (hm : ma < 2 ^ 31) (h : ∀ r, ma ≤ r → te r = 0) : ∀ r, ma ≤ r → (untellT ma le k v te ke).1 r = 0 := by
  intro r hr
  unfold untellT
  by_cases hk : k = 3
  · rw [if_pos hk]
    unfold dropT
    by_cases hi : isR ma v = true
    · rw [if_pos hi]
      by_cases hz : te (rj v) = 0
      · rw [if_pos hz]; exact h r hr
      · rw [if_neg hz]
        show upd te (rj v) _ r = 0
        rw [pk_un (by have := (isR_of hm hi).1; omega)]
        exact h r hr
    · rw [if_neg hi]; exact h r hr
  · rw [if_neg hk]; exact h r hr
theorem forgF_hi {ma : Nat} {le : Nat → Nat} {pl : Nat} (hm : ma < 2 ^ 31) : ∀ {n k j : Nat} {o g : Nat → Nat} {c d te : Nat → Int32} {ke : Int32}, (∀ r, ma ≤ r → te r = 0) → ∀ r, ma ≤ r → (forgF ma le pl n k j o g c d te ke).2.2.2.2.2.1 r = 0 := by
  intro n
  induction n with
  | zero => intro k j o g c d te ke h; exact h
  | succ n ih =>
    intro k j o g c d te ke h
    by_cases ho : o k = pl
    · simp only [forgF, if_pos ho]; exact ih (untellT_hi hm h)
    · simp only [forgF, if_neg ho]; exact ih h
theorem forgF_le {ma : Nat} {le : Nat → Nat} {pl : Nat} : ∀ {n k j : Nat} {o g : Nat → Nat} {c d te : Nat → Int32} {ke : Int32}, (forgF ma le pl n k j o g c d te ke).1 ≤ j + n := by
  intro n
  induction n with
  | zero => intro k j o g c d te ke; exact Nat.le_refl _
  | succ n ih =>
    intro k j o g c d te ke
    by_cases ho : o k = pl
    · simp only [forgF, if_pos ho]
      have := ih (k := k + 1) (j := j) (o := o) (g := g) (c := c) (d := d) (te := (untellT ma le (c k) (d k) te ke).1) (ke := (untellT ma le (c k) (d k) te ke).2)
      omega
    · simp only [forgF, if_neg ho]
      have := ih (k := k + 1) (j := j + 1) (o := va_up o j (o k)) (g := va_up g j (g k)) (c := upd c j (c k)) (d := upd d j (d k)) (te := te) (ke := ke)
      omega
/-- an assignment on both sides -/
theorem asg_rel {φ : Nat → Nat} {ma ro : Nat} {le fr : Nat → Nat} {og : Nat} {ki va : Nat → Int32} {sp sg : Nat → Nat} {sk sv : Nat → Int32} {sc : Nat} {E : List Ent} {te : Nat → Int32} {ke : Int32} {pl : Nat} {k v k' v' g : Int32} (hm : ma < 2 ^ 31) (hsc : sc < 512)
    (hr : relC φ ma ro le fr og ki va (seg sp sg sk sv 0 sc) E te ke) (hpl : pl < 3367) (hv : valR φ ma ro fr pl (k, v) (k', v')) :
    relC φ ma ro le fr og (assignF ma le pl k v g ki va sp sg sk sv sc og te ke).1 (assignF ma le pl k v g ki va sp sg sk sv sc og te ke).2.1
      (seg (assignF ma le pl k v g ki va sp sg sk sv sc og te ke).2.2.1 (assignF ma le pl k v g ki va sp sg sk sv sc og te ke).2.2.2.1 (assignF ma le pl k v g ki va sp sg sk sv sc og te ke).2.2.2.2.1 (assignF ma le pl k v g ki va sp sg sk sv sc og te ke).2.2.2.2.2.1 0 (assignF ma le pl k v g ki va sp sg sk sv sc og te ke).2.2.2.2.2.2.1)
      (asE (whatN pl) (if g = 0 then og else 0) k' v' E) (assignF ma le pl k v g ki va sp sg sk sv sc og te ke).2.2.2.2.2.2.2.1 (assignF ma le pl k v g ki va sp sg sk sv sc og te ke).2.2.2.2.2.2.2.2 ∧
    (assignF ma le pl k v g ki va sp sg sk sv sc og te ke).2.2.2.2.2.2.1 ≤ sc + 1 := by
  obtain ⟨hS, hE, hlv, ht, hhi⟩ := hr
  have hro := valR_ok hpl hv
  have hcu := cur_ok hS hlv hpl
  have hlen : ∀ r, cS r (seg sp sg sk sv 0 sc) ≤ sc := fun r => by have := cS_le (j := r) (S := seg sp sg sk sv 0 sc); rw [seg_len] at this; exact this
  have hcp : ∀ (a b : Nat → Int32) r, cP a b r 3367 ≤ 3367 := fun a b r => cP_le
  have ht1 := tell_ok (k := k) (v := v) hm ht (fun r => by have := hlen r; have := hcp ki va r; omega) hro.1
  have hh1 := tellT_hi (le := le) (k := k) (v := v) (ke := ke) hm hhi
  have hcu2 : ∀ r, cP (upd ki pl k) (upd va pl v) r 3367 + ind (ki pl) (va pl) r = cP ki va r 3367 + ind k v r := fun r => cP_upd hpl
  by_cases hg : g = 0
  · cases hmb : mustB sp sg sc og pl with
    | true =>
      have hA : assignF ma le pl k v g ki va sp sg sk sv sc og te ke = (upd ki pl k, upd va pl v, va_up sp sc pl, va_up sg sc og, upd sk sc (ki pl), upd sv sc (va pl), sc + 1, (tellT ma le k v te ke).1, (tellT ma le k v te ke).2) := by
        unfold assignF
        rw [if_pos hg, hmb]
        rfl
      rw [hA]
      dsimp only
      rw [seg_push, if_pos hg]
      obtain ⟨h0, hno⟩ := must_t hS hmb
      obtain ⟨a1, a2⟩ := as_save hS hE hlv hpl hv h0 hno
      refine ⟨⟨a1, asE_rel hE (whatN_le pl) (Nat.le_refl _), a2, ht1.to (fun r => ?_), hh1⟩, Nat.le_refl _⟩
      have h1 := hcu2 r
      rw [cS_app]
      simp only [cS, Nat.add_zero]
      omega
    | false =>
      have hA : assignF ma le pl k v g ki va sp sg sk sv sc og te ke = (upd ki pl k, upd va pl v, sp, sg, sk, sv, sc, (untellT ma le (ki pl) (va pl) (tellT ma le k v te ke).1 (tellT ma le k v te ke).2).1, (untellT ma le (ki pl) (va pl) (tellT ma le k v te ke).1 (tellT ma le k v te ke).2).2) := by
        unfold assignF
        rw [if_pos hg, hmb]
        rfl
      rw [hA]
      dsimp only
      rw [if_pos hg]
      refine ⟨⟨hS, asE_rel hE (whatN_le pl) (Nat.le_refl _), as_keep hS hE hlv hpl hv (must_f hsc hmb), ?_, untellT_hi hm hh1⟩, Nat.le_succ _⟩
      refine untell_ok hm (ht1.to (fun r => ?_)) (fun r => by have := hlen r; have := hcp (upd ki pl k) (upd va pl v) r; omega) hcu.1
      have h1 := hcu2 r
      show cP (upd ki pl k) (upd va pl v) r 3367 + cS r (seg sp sg sk sv 0 sc) + ind (ki pl) (va pl) r = cP ki va r 3367 + cS r (seg sp sg sk sv 0 sc) + ind k v r
      omega
  · have hA : assignF ma le pl k v g ki va sp sg sk sv sc og te ke = (upd ki pl k, upd va pl v, (forgF ma le pl sc 0 0 sp sg sk sv (tellT ma le k v te ke).1 (tellT ma le k v te ke).2).2.1, (forgF ma le pl sc 0 0 sp sg sk sv (tellT ma le k v te ke).1 (tellT ma le k v te ke).2).2.2.1, (forgF ma le pl sc 0 0 sp sg sk sv (tellT ma le k v te ke).1 (tellT ma le k v te ke).2).2.2.2.1, (forgF ma le pl sc 0 0 sp sg sk sv (tellT ma le k v te ke).1 (tellT ma le k v te ke).2).2.2.2.2.1, (forgF ma le pl sc 0 0 sp sg sk sv (tellT ma le k v te ke).1 (tellT ma le k v te ke).2).1,
        (untellT ma le (ki pl) (va pl) (forgF ma le pl sc 0 0 sp sg sk sv (tellT ma le k v te ke).1 (tellT ma le k v te ke).2).2.2.2.2.2.1 (forgF ma le pl sc 0 0 sp sg sk sv (tellT ma le k v te ke).1 (tellT ma le k v te ke).2).2.2.2.2.2.2).1, (untellT ma le (ki pl) (va pl) (forgF ma le pl sc 0 0 sp sg sk sv (tellT ma le k v te ke).1 (tellT ma le k v te ke).2).2.2.2.2.2.1 (forgF ma le pl sc 0 0 sp sg sk sv (tellT ma le k v te ke).1 (tellT ma le k v te ke).2).2.2.2.2.2.2).2) := by
      unfold assignF
      rw [if_neg hg]
    rw [hA]
    dsimp only
    rw [forgF_list (Nat.le_refl _), if_neg hg]
    obtain ⟨a1, a2⟩ := as_glob hS hE hlv hpl hv
    have hle := forgF_le (ma := ma) (le := le) (pl := pl) (n := sc) (k := 0) (j := 0) (o := sp) (g := sg) (c := sk) (d := sv) (te := (tellT ma le k v te ke).1) (ke := (tellT ma le k v te ke).2)
    refine ⟨⟨a1, asE_rel hE (whatN_le pl) (Nat.zero_le _), a2, ?_, untellT_hi hm (forgF_hi hm hh1)⟩, by omega⟩
    have ht2 := forg_tel (ma := ma) (le := le) (pl := pl) hm (n := sc) (k := 0) (j := 0) (base := fun r => cP ki va r 3367 + ind k v r) (o := sp) (g := sg) (c := sk) (d := sv) (te := (tellT ma le k v te ke).1) (ke := (tellT ma le k v te ke).2)
      (fun r => by have := hcp ki va r; have := ind_le k v r; show cP ki va r 3367 + ind k v r + sc < 50000; omega) (Nat.le_refl _) (by omega) (fun i h1 h2 => (sav_ok hS hlv (seg_mem.mpr ⟨i, h1, h2, rfl⟩)).1) (ht1.to (fun r => by show cP ki va r 3367 + ind k v r + _ = cP ki va r 3367 + _ + ind k v r; omega))
    have hlf : ∀ r, cS r ((seg sp sg sk sv 0 sc).filter (fun e => !decide (e.1 = pl))) ≤ sc := fun r => by
      have h1 := cS_le (j := r) (S := (seg sp sg sk sv 0 sc).filter (fun e => !decide (e.1 = pl)))
      have h2 := List.length_filter_le (fun e : Ent => !decide (e.1 = pl)) (seg sp sg sk sv 0 sc)
      rw [seg_len] at h2
      omega
    refine untell_ok hm (ht2.to (fun r => ?_)) (fun r => by have := hlf r; have := hcp (upd ki pl k) (upd va pl v) r; show cP (upd ki pl k) (upd va pl v) r 3367 + cS r ([] ++ _) < 100000; rw [List.nil_append]; omega) hcu.1
    have h1 := hcu2 r
    show cP (upd ki pl k) (upd va pl v) r 3367 + cS r ([] ++ (seg sp sg sk sv 0 sc).filter (fun e => !decide (e.1 = pl))) + ind (ki pl) (va pl) r = cP ki va r 3367 + ind k v r + cS r ((seg sp sg sk sv 0 sc).filter (fun e => !decide (e.1 = pl)))
    rw [List.nil_append]
    omega
