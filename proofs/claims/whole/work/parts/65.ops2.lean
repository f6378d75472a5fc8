theorem cP_zero {ki va : Nat → Int32} {j : Nat} : ∀ {n : Nat}, (∀ p, p < n → ind (ki p) (va p) j = 0) → cP ki va j n = 0 := by
  intro n
  induction n with
  | zero => intro _; rfl
  | succ n ih =>
    intro h
    show cP ki va j n + ind (ki n) (va n) j = 0
    rw [ih (fun p hp => h p (by omega)), h n (by omega)]
theorem cS_zero {j : Nat} : ∀ {S : List Ent}, (∀ e ∈ S, ind e.2.2.1 e.2.2.2 j = 0) → cS j S = 0 := by
  intro S
  induction S with
  | nil => intro _; rfl
  | cons e S ih =>
    intro h
    show ind e.2.2.1 e.2.2.2 j + cS j S = 0
    rw [ih (fun x hx => h x (List.mem_cons_of_mem _ hx)), h e (List.mem_cons_self ..)]
theorem ind_zero {ma : Nat} {k v : Int32} (hm : ma < 2 ^ 31) (h : rowOK ma k v) : ind k v ma = 0 := by
  unfold ind
  refine if_neg (fun q => ?_)
  obtain ⟨r, h1, h2⟩ := h q.1
  rw [q.2] at h2
  have := (nI_eq hm (by omega)).mp h2
  omega
theorem rowR_mono {φ φ' : Nat → Nat} {ma ma' ro ro' : Nat} {fr fr' : Nat → Nat} {v v' : Int32} (h : rowR φ ma ro fr v v') (h1 : ma ≤ ma') (h2 : ro ≤ ro') (h3 : ∀ R, R ≤ ro → fr' R = fr R) (h4 : ∀ r, r < ma → φ' r = φ r) : rowR φ' ma' ro' fr' v v' := by
  obtain ⟨r, R, e1, e2, e3, e4, e5, e6⟩ := h
  refine ⟨r, R, e1, e2, by omega, by omega, fun h0 => ?_, fun h0 => ?_⟩
  · rcases e5 h0 with h | h
    · exact Or.inl h
    · exact Or.inr (by rw [h3 _ (by omega), h3 _ (by omega)]; exact h)
  · rw [h4 r e3]; exact e6 h0
theorem valR_mono {φ φ' : Nat → Nat} {ma ma' ro ro' : Nat} {fr fr' : Nat → Nat} {p : Nat} {a b : Val} (h : valR φ ma ro fr p a b) (h1 : ma ≤ ma') (h2 : ro ≤ ro') (h3 : ∀ R, R ≤ ro → fr' R = fr R) (h4 : ∀ r, r < ma → φ' r = φ r) : valR φ' ma' ro' fr' p a b :=
  ⟨h.1, fun q => ⟨(h.2.1 q).1, fun z => rowR_mono ((h.2.1 q).2.1 z) h1 h2 h3 h4, (h.2.1 q).2.2⟩, fun q => ⟨(h.2.2 q).1, rowR_mono (h.2.2 q).2 h1 h2 h3 h4⟩⟩
/-- the draft becomes a row, on both sides -/
theorem take_rel {k : Nat} {φ : Nat → Nat} {ki va nu : Nat → Int32} {st le : Nat → Nat} {te : Nat → Int32} {ma ds dl og : Nat} {ke : Int32} {S E : List Ent} {ro : Nat} {fr : Nat → Nat} {nm : Nat → Int32} {dr : Nat} (hk : k < 512) (hC : relC φ ma ro le fr og ki va S E te ke) (hR : rowsR k φ nu st le ma ds dl ro fr nm dr) :
    ∃ φ', relC φ' (takeF st le ma ds dl).2.2.2.1 (ro + 1) (takeF st le ma ds dl).2.2.1 (va_up fr (ro + 1) (fr ro + dr)) og ki va S E te ke ∧
      rowsR (k + 1) φ' nu (takeF st le ma ds dl).2.1 (takeF st le ma ds dl).2.2.1 (takeF st le ma ds dl).2.2.2.1 (takeF st le ma ds dl).2.2.2.2.1 (takeF st le ma ds dl).2.2.2.2.2 (ro + 1) (va_up fr (ro + 1) (fr ro + dr)) nm 0 ∧
      rowR φ' (takeF st le ma ds dl).2.2.2.1 (ro + 1) (va_up fr (ro + 1) (fr ro + dr)) (takeF st le ma ds dl).1 (nI ro) ∧
      lenR (takeF st le ma ds dl).2.2.2.1 (takeF st le ma ds dl).2.2.1 (takeF st le ma ds dl).1 = sizeM (va_up fr (ro + 1) (fr ro + dr)) ro := by
  obtain ⟨hS, hE, hlv, ht, hhi⟩ := hC
  obtain ⟨⟨c1, c2, c3, c4, c5⟩, ⟨d1, d2, d3, d4⟩, e1, e2, e3, e4, e5⟩ := hR
  subst d2
  have hfr : ∀ R, R ≤ ro → va_up fr (ro + 1) (fr ro + dl) R = fr R := fun R h => va_up_ne _ _ (by omega)
  have hfr1 : va_up fr (ro + 1) (fr ro + dl) (ro + 1) = fr ro + dl := va_up_self _ _ _
  have hsz : sizeM (va_up fr (ro + 1) (fr ro + dl)) ro = nI dl := by
    unfold sizeM
    rw [if_neg (by omega), hfr1, hfr ro (Nat.le_refl _), pk_sub (by omega)]
    exact congrArg nI (by omega)
  have hmono : ∀ R, R < ro + 1 → va_up fr (ro + 1) (fr ro + dl) R ≤ va_up fr (ro + 1) (fr ro + dl) (R + 1) ∧ va_up fr (ro + 1) (fr ro + dl) (R + 1) ≤ ds + dl := by
    intro R hR
    by_cases e : R = ro
    · rw [e, hfr1, hfr ro (Nat.le_refl _)]
      omega
    · have := e2 R (by omega)
      rw [hfr R (by omega), hfr (R + 1) (by omega)]
      omega
  have hsum : ∀ T : Nat → Bool, sm (fun R => if R = 0 then 0 else if T R then va_up fr (ro + 1) (fr ro + dl) (R + 1) - va_up fr (ro + 1) (fr ro + dl) R else 0) (ro + 1) = sm (fun r => if r = 0 then 0 else if T (φ r) then le r else 0) ma + (if T ro then dl else 0) := by
    intro T
    have e9 : sm (fun R => if R = 0 then 0 else if T R then va_up fr (ro + 1) (fr ro + dl) (R + 1) - va_up fr (ro + 1) (fr ro + dl) R else 0) ro = sm (fun R => if R = 0 then 0 else if T R then fr (R + 1) - fr R else 0) ro := sm_congr (fun j hj => by show (if j = 0 then 0 else if T j then va_up fr (ro + 1) (fr ro + dl) (j + 1) - va_up fr (ro + 1) (fr ro + dl) j else 0) = (if j = 0 then 0 else if T j then fr (j + 1) - fr j else 0); rw [hfr j (by omega), hfr (j + 1) (by omega)])
    show sm _ ro + (if ro = 0 then 0 else if T ro then va_up fr (ro + 1) (fr ro + dl) (ro + 1) - va_up fr (ro + 1) (fr ro + dl) ro else 0) = _
    rw [e9, e5 T]
    rw [if_neg (by omega), hfr1, hfr ro (Nat.le_refl _), show fr ro + dl - fr ro = dl by omega]
  by_cases h0 : dl = 0
  · have hz : takeF st le ma ds dl = (0, st, le, ma, ds, dl) := by unfold takeF; rw [if_pos (Or.inl h0)]
    rw [hz]
    dsimp only
    refine ⟨φ, ⟨hS, hE, fun L p hL hp => valR_mono (hlv L p hL hp) (Nat.le_refl _) (by omega) hfr (fun _ _ => rfl), ht, hhi⟩, ⟨⟨c1, by omega, by omega, c4, c5⟩, ⟨?_, h0, by omega, by omega⟩, e1, ?_, ?_, e4, ?_⟩, ⟨0, ro, rfl, rfl, by omega, by omega, fun _ => Or.inr ?_, fun h => absurd rfl h⟩, ?_⟩
    · rw [hfr1]; omega
    · intro R hR
      have := hmono R hR
      omega
    · intro r h1 h2
      obtain ⟨f1, f2, f3, f4, f5⟩ := e3 r h1 h2
      exact ⟨f1, by omega, by rw [hfr _ (by omega)]; exact f3, f4, by rw [hfr _ (by omega), hfr _ (by omega)]; exact f5⟩
    · intro T
      rw [hsum T, h0]
      by_cases hT : T ro = true <;> simp [hT]
    · rw [hfr1, hfr ro (Nat.le_refl _)]; omega
    · rw [hsz, h0]
      unfold lenR
      rw [show (0 : Int32) = nI 0 from rfl, isR_nI (by omega) (by omega), rj_nI (by decide), c4]
      rfl
  · have hz : takeF st le ma ds dl = (nI ma, va_up st ma ds, va_up le ma dl, ma + 1, ds + dl, 0) := by unfold takeF; rw [if_neg (fun h => by omega)]
    rw [hz]
    dsimp only
    have hm : ma < 2 ^ 31 := by omega
    have hcnt : cP ki va ma 3367 + cS ma S = 0 := by
      rw [cP_zero (fun p hp => ind_zero hm (cur_ok hS hlv hp).1), cS_zero (fun e he => ind_zero hm (sav_ok hS hlv he).1)]
    have hle : ∀ r, r < ma → va_up le ma dl r = le r := fun r h => va_up_ne _ _ (by omega)
    refine ⟨va_up φ ma ro, ⟨hS, hE, fun L p hL hp => valR_mono (hlv L p hL hp) (by omega) (by omega) hfr (fun r h => va_up_ne _ _ (by omega)), ⟨fun r hr => ?_, ?_⟩, fun r hr => hhi r (by omega)⟩, ⟨⟨by omega, by omega, by omega, ?_, ?_⟩, ⟨?_, rfl, by omega, by omega⟩, fun j hj => e1 j (by omega), fun R hR => ?_, ?_, ?_, ?_⟩, ⟨ma, ro, rfl, rfl, by omega, by omega, fun h => by omega, fun _ => (va_up_self _ _ _).symm⟩, ?_⟩
    · by_cases e : r = ma
      · rw [e, hhi ma (Nat.le_refl _)]
        show (0 : Int32) = nI (cP ki va ma 3367 + cS ma S)
        rw [hcnt]
        rfl
      · exact ht.1 r (by omega)
    · rw [ht.2]
      refine congrArg nI ?_
      show sm (told le _) ma = sm (told (va_up le ma dl) _) ma + told (va_up le ma dl) _ ma
      rw [sm_congr (f := told le (fun r => cP ki va r 3367 + cS r S)) (f' := told (va_up le ma dl) (fun r => cP ki va r 3367 + cS r S)) (fun j hj => by unfold told; dsimp only; rw [hle j hj])]
      have : told (va_up le ma dl) (fun r => cP ki va r 3367 + cS r S) ma = 0 := by unfold told; dsimp only; rw [if_pos hcnt]
      omega
    · rw [hle 0 (by omega)]; exact c4
    · rw [va_up_ne _ _ (by omega)]; exact c5
    · rw [hfr1]; omega
    · have := hmono R hR
      omega
    · intro r h1 h2
      by_cases e : r = ma
      · subst e
        rw [va_up_self, va_up_self, va_up_self, hfr1, hfr ro (Nat.le_refl _)]
        exact ⟨by omega, by omega, d1, by omega, rfl⟩
      · obtain ⟨f1, f2, f3, f4, f5⟩ := e3 r h1 (by omega)
        rw [va_up_ne _ _ e, va_up_ne _ _ e, va_up_ne _ _ e, hfr (φ r) (by omega), hfr (φ r + 1) (by omega)]
        exact ⟨f1, by omega, f3, f4, f5⟩
    · intro r r' h1 h2 h3 h4 he
      by_cases a1 : r = ma
      · by_cases a2 : r' = ma
        · omega
        · rw [a1, va_up_self, va_up_ne _ _ a2] at he
          have := (e3 r' h3 (by omega)).2.1
          omega
      · by_cases a2 : r' = ma
        · rw [a2, va_up_self, va_up_ne _ _ a1] at he
          have := (e3 r h1 (by omega)).2.1
          omega
        · rw [va_up_ne _ _ a1, va_up_ne _ _ a2] at he
          exact e4 r r' h1 (by omega) h3 (by omega) he
    · intro T
      rw [hsum T]
      have e9 : sm (fun r => if r = 0 then 0 else if T (va_up φ ma ro r) then va_up le ma dl r else 0) ma = sm (fun r => if r = 0 then 0 else if T (φ r) then le r else 0) ma := sm_congr (fun j hj => by show (if j = 0 then 0 else if T (va_up φ ma ro j) then va_up le ma dl j else 0) = (if j = 0 then 0 else if T (φ j) then le j else 0); rw [va_up_ne φ _ (by omega), hle j hj])
      show _ = sm _ ma + (if ma = 0 then 0 else if T (va_up φ ma ro ma) then va_up le ma dl ma else 0)
      rw [e9, if_neg (show ¬ ma = 0 by omega), va_up_self, va_up_self]
    · rw [hsz]
      unfold lenR
      rw [isR_nI (by omega) (by omega), rj_nI (by omega), va_up_self]
      rfl
theorem r_define {k : Nat} {φ : Nat → Nat} {D : DS} {M : MS} {x gg : Int32} (h : Rel k φ D M) (hk : k < 512) (hj : isR 1000 x = true) : (dDefine x gg D).1 = (mDefine x gg M).1 ∧ (mDefine x gg M).2.1 = 0 ∧ ∃ φ', Rel (k + 1) φ' (dDefine x gg D).2 (mDefine x gg M).2 := by
  obtain ⟨ki, va, sp, sg, sk, sv, sc, og, nu, st, le, te, ma, ds, dl, ke⟩ := D
  obtain ⟨th0, gr, co, o, g, kd, vl, ro, fr, nm, dr⟩ := M
  obtain ⟨⟨a1, a2, a3, a4, a5⟩, hC, hR⟩ := h.out
  subst a1
  have hi := (isR_of (by decide) hj).1
  obtain ⟨φ', hC', hR', hrow, hlen⟩ := take_rel hk hC hR
  simp only [dDefine, mDefine, if_pos hj]
  refine ⟨hlen, by first | rfl | trivial, φ', ?_⟩
  have := r_asg (th' := 0) (gg := gg) (pl := 2366 + rj x) (kk := 3) (kk' := 3) (vv := (takeF st le ma ds dl).1) (vv' := nI ro) ⟨a2, a3, a4, hk⟩ hC' hR' (by omega) ⟨fun h => by omega, fun _ => ⟨rfl, fun _ => hrow, fun h => absurd rfl h⟩, fun h => by omega⟩
  rw [whatN_name hi] at this
  exact this
theorem r_defineX {k : Nat} {φ : Nat → Nat} {D : DS} {M : MS} {x gg : Int32} (h : Rel k φ D M) (hk : k < 512) (hj : isR 1000 x = false) : (mDefine x gg M).2.1 = 1 ∧ Rel (k + 1) φ D (mDefine x gg M).2 := by
  have h9 := r_same (th := 1) h hk
  obtain ⟨th0, gr, co, o, g, kd, vl, ro, fr, nm, dr⟩ := M
  simp only [mDefine, hj]
  exact ⟨rfl, h9⟩
theorem r_shape {k : Nat} {φ : Nat → Nat} {D : DS} {M : MS} {gg : Int32} (h : Rel k φ D M) (hk : k < 512) : (dShape gg D).1 = (mShape gg M).1 ∧ ∃ φ', Rel (k + 1) φ' (dShape gg D).2 (mShape gg M).2 := by
  obtain ⟨ki, va, sp, sg, sk, sv, sc, og, nu, st, le, te, ma, ds, dl, ke⟩ := D
  obtain ⟨th0, gr, co, o, g, kd, vl, ro, fr, nm, dr⟩ := M
  obtain ⟨⟨a1, a2, a3, a4, a5⟩, hC, hR⟩ := h.out
  subst a1
  obtain ⟨φ', hC', hR', hrow, hlen⟩ := take_rel hk hC hR
  refine ⟨hlen, φ', ?_⟩
  have := r_asg (th' := 0) (gg := gg) (pl := 3366) (kk := 0) (kk' := 3) (vv := (takeF st le ma ds dl).1) (vv' := nI ro) ⟨a2, a3, a4, hk⟩ hC' hR' (by omega) ⟨fun h => by omega, fun h => absurd h.2 (by omega), fun _ => ⟨rfl, hrow⟩⟩
  exact this
/-- what a place holds now, on both sides -/
theorem now_rel {φ : Nat → Nat} {ma ro : Nat} {le fr : Nat → Nat} {og : Nat} {ki va : Nat → Int32} {S : List Ent} {te : Nat → Int32} {ke : Int32} {co : Nat} {o g : Nat → Nat} {kd vl : Nat → Int32} (hC : relC φ ma ro le fr og ki va S (seg o g kd vl 0 co) te ke) {p : Nat} (hp : p < 3367) : valR φ ma ro fr p (ki p, va p) (atM o kd (whatN p) co, atM o vl (whatN p) co) := by
  obtain ⟨hS, hE, hlv, -, -⟩ := hC
  have h1 := hlv og p (Nat.le_refl _) hp
  rw [cAt_top hS (Nat.le_refl _), ← atM_list (fun i hi => (hE.2 _ (seg_mem.mpr ⟨i, by omega, by omega, rfl⟩)).1)] at h1
  exact h1
theorem r_let {k : Nat} {φ : Nat → Nat} {D : DS} {M : MS} {x y gg : Int32} (h : Rel k φ D M) (hk : k < 512) : (dLet x y gg D).1 = (mLet x y gg M).1 ∧ Rel (k + 1) φ (dLet x y gg D).2 (mLet x y gg M).2 := by
  have h9 := r_same (th := 0) h hk
  obtain ⟨ki, va, sp, sg, sk, sv, sc, og, nu, st, le, te, ma, ds, dl, ke⟩ := D
  obtain ⟨th0, gr, co, o, g, kd, vl, ro, fr, nm, dr⟩ := M
  obtain ⟨⟨a1, a2, a3, a4, a5⟩, hC, hR⟩ := h.out
  subst a1
  simp only [dLet, mLet]
  by_cases hj : (isR 1000 x && isR 1000 y) = true
  · rw [if_pos hj, if_pos hj]
    obtain ⟨hj1, hj2⟩ := Bool.and_eq_true_iff.mp hj
    have hx := (isR_of (by decide) hj1).1
    have hy := (isR_of (by decide) hj2).1
    have hn := now_rel hC (p := 2366 + rj y) (by omega)
    rw [whatN_name hy] at hn
    refine ⟨rfl, ?_⟩
    have := r_asg (th' := 0) (gg := gg) (pl := 2366 + rj x) (kk := ki (2366 + rj y)) (vv := va (2366 + rj y)) (kk' := atM o kd (3000 + rj y) co) (vv' := atM o vl (3000 + rj y) co) ⟨a2, a3, a4, hk⟩ hC hR.up (by omega) ⟨fun h => by omega, fun _ => hn.2.1 ⟨by omega, by omega⟩, fun h => by omega⟩
    rw [whatN_name hx] at this
    exact this
  · rw [if_neg hj, if_neg hj]
    exact ⟨rfl, h9⟩
/-- how long a row is, on both sides -/
theorem row_len {k : Nat} {φ : Nat → Nat} {nu : Nat → Int32} {st le : Nat → Nat} {ma ds dl ro : Nat} {fr : Nat → Nat} {nm : Nat → Int32} {dr : Nat} (hk : k ≤ 512) (hR : rowsR k φ nu st le ma ds dl ro fr nm dr) {v v' : Int32} (h : rowR φ ma ro fr v v') : v' = nI (rj v') ∧ rj v' < ro ∧ lenR ma le v = sizeM fr (rj v') ∧ isR ma v = true ∧ (st (rj v) = fr (rj v') ∨ le (rj v) = 0) := by
  obtain ⟨⟨c1, c2, c3, c4, c5⟩, ⟨d1, d2, d3, d4⟩, e1, e2, e3, e4, e5⟩ := hR
  obtain ⟨r, R, rfl, rfl, h1, h2, h3, h4⟩ := h
  rw [rj_nI (j := R) (by omega), rj_nI (j := r) (by omega)]
  unfold lenR
  rw [isR_nI (by omega) h1, rj_nI (j := r) (by omega)]
  simp only [if_true]
  refine ⟨trivial, h2, ?_, trivial, ?_⟩
  · by_cases h0 : r = 0
    · rw [h0, c4]
      unfold sizeM
      rcases h3 h0 with hz | hz
      · rw [if_pos hz]; rfl
      · by_cases hz2 : R = 0
        · rw [if_pos hz2]; rfl
        · rw [if_neg hz2, hz, pk_sub (Nat.le_refl _), Nat.sub_self]
    · have hR0 := h4 h0
      obtain ⟨f1, f2, f3, f4, f5⟩ := e3 r (by omega) h1
      unfold sizeM
      rw [hR0, if_neg (by omega), f5, pk_sub (by omega)]
      exact congrArg nI (by omega)
  · by_cases h0 : r = 0
    · rw [h0]; exact Or.inr c4
    · rw [h4 h0]
      exact Or.inl (e3 r (by omega) h1).2.2.1
theorem r_get {k : Nat} {φ : Nat → Nat} {D : DS} {M : MS} {x : Int32} (h : Rel k φ D M) (hk : k < 512) (hj : isR 2366 x = true) : dGet x D = (mGet x M).1 ∧ (mGet x M).2.1 = 0 ∧ Rel (k + 1) φ D (mGet x M).2 := by
  have h9 := r_same (th := 0) h hk
  obtain ⟨ki, va, sp, sg, sk, sv, sc, og, nu, st, le, te, ma, ds, dl, ke⟩ := D
  obtain ⟨th0, gr, co, o, g, kd, vl, ro, fr, nm, dr⟩ := M
  obtain ⟨⟨a1, a2, a3, a4, a5⟩, hC, hR⟩ := h.out
  have hi := (isR_of (by decide) hj).1
  have hn := now_rel hC (p := rj x) (by omega)
  rw [whatN_cell hi] at hn
  simp only [mGet, if_pos hj]
  exact ⟨(hn.1 hi).2, by first | rfl | trivial, h9⟩
theorem r_getX {k : Nat} {φ : Nat → Nat} {D : DS} {M : MS} {x : Int32} (h : Rel k φ D M) (hk : k < 512) (hj : isR 2366 x = false) : (mGet x M).2.1 = 1 ∧ Rel (k + 1) φ D (mGet x M).2 := by
  have h9 := r_same (th := 1) h hk
  obtain ⟨th0, gr, co, o, g, kd, vl, ro, fr, nm, dr⟩ := M
  simp only [mGet, hj]
  exact ⟨rfl, h9⟩
theorem r_about {k : Nat} {φ : Nat → Nat} {D : DS} {M : MS} {x y : Int32} (h : Rel k φ D M) (hk : k < 512) (hj : (isR 1000 x && wOk y) = true) : dAbout x y D = (mAbout x y M).1 ∧ (mAbout x y M).2.1 = 0 ∧ Rel (k + 1) φ D (mAbout x y M).2 := by
  have h9 := r_same (th := 0) h hk
  obtain ⟨ki, va, sp, sg, sk, sv, sc, og, nu, st, le, te, ma, ds, dl, ke⟩ := D
  obtain ⟨th0, gr, co, o, g, kd, vl, ro, fr, nm, dr⟩ := M
  obtain ⟨⟨a1, a2, a3, a4, a5⟩, hC, hR⟩ := h.out
  have hi := (isR_of (by decide) (Bool.and_eq_true_iff.mp hj).1).1
  have hn := now_rel hC (p := 2366 + rj x) (by omega)
  rw [whatN_name hi] at hn
  obtain ⟨n1, n2, n3⟩ := hn.2.1 ⟨by omega, by omega⟩
  dsimp only at n1 n2 n3
  simp only [mAbout, if_pos hj]
  refine ⟨?_, by first | rfl | trivial, h9⟩
  unfold dAbout
  dsimp only
  by_cases hy : y = 0
  · rw [if_pos hy, if_pos hy]; exact n1
  · rw [if_neg hy, if_neg hy, ← n1]
    by_cases h3 : ki (2366 + rj x) = 3
    · rw [if_pos h3, if_pos h3]
      exact (row_len a5 hR (n2 h3)).2.2.1
    · rw [if_neg h3, if_neg h3]; exact n3 h3
theorem r_aboutX {k : Nat} {φ : Nat → Nat} {D : DS} {M : MS} {x y : Int32} (h : Rel k φ D M) (hk : k < 512) (hj : (isR 1000 x && wOk y) = false) : (mAbout x y M).2.1 = 1 ∧ Rel (k + 1) φ D (mAbout x y M).2 := by
  have h9 := r_same (th := 1) h hk
  obtain ⟨th0, gr, co, o, g, kd, vl, ro, fr, nm, dr⟩ := M
  simp only [mAbout, hj]
  exact ⟨rfl, h9⟩
