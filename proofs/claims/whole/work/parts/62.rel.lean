/-! the class's state and the reference's, beside each other -/
def whatN (p : Nat) : Nat := if p < 2366 then p else if p < 3366 then 634 + p else 4000
theorem whatN_inj {p q : Nat} (hp : p < 3367) (hq : q < 3367) (h : whatN p = whatN q) : p = q := by
  unfold whatN at h
  split at h <;> split at h <;> (try split at h) <;> (try split at h) <;> omega
theorem whatN_le (p : Nat) : whatN p ≤ 4000 := by
  unfold whatN
  split
  · omega
  · split <;> omega
theorem whatN_cell {p : Nat} (h : p < 2366) : whatN p = p := if_pos h
theorem whatN_name {j : Nat} (h : j < 1000) : whatN (2366 + j) = 3000 + j := by
  unfold whatN
  rw [if_neg (by omega), if_pos (by omega)]
  omega
theorem whatN_shape : whatN 3366 = 4000 := by decide
def zR (fr : Nat → Nat) (R : Nat) : Prop := R = 0 ∨ fr (R + 1) = fr R
def rowR (φ : Nat → Nat) (ma ro : Nat) (fr : Nat → Nat) (v v' : Int32) : Prop := ∃ r R, v = nI r ∧ v' = nI R ∧ r < ma ∧ R < ro ∧ (r = 0 → zR fr R) ∧ (r ≠ 0 → R = φ r)
def valR (φ : Nat → Nat) (ma ro : Nat) (fr : Nat → Nat) (p : Nat) (a b : Val) : Prop :=
  (p < 2366 → a.1 = 0 ∧ a.2 = b.2) ∧ (nameP p → a.1 = b.1 ∧ (a.1 = 3 → rowR φ ma ro fr a.2 b.2) ∧ (a.1 ≠ 3 → a.2 = b.2)) ∧ (p = 3366 → a.1 = 0 ∧ rowR φ ma ro fr a.2 b.2)
def lvR (φ : Nat → Nat) (ma ro : Nat) (fr : Nat → Nat) (og : Nat) (ki va : Nat → Int32) (S E : List Ent) : Prop := ∀ L p, L ≤ og → p < 3367 → valR φ ma ro fr p (cAt L p (ki p, va p) S) (rAt L (whatN p) E)
def relS (og : Nat) (S : List Ent) : Prop := svS S ∧ ∀ e ∈ S, 1 ≤ e.2.1 ∧ e.2.1 ≤ og ∧ e.1 < 3367
def relE (og : Nat) (E : List Ent) : Prop := enS E ∧ ∀ e ∈ E, e.2.1 ≤ og ∧ e.1 ≤ 4000
def rowsR (k : Nat) (φ : Nat → Nat) (nu : Nat → Int32) (st le : Nat → Nat) (ma ds dl ro : Nat) (fr : Nat → Nat) (nm : Nat → Int32) (dr : Nat) : Prop :=
  (1 ≤ ma ∧ ma ≤ ro ∧ ro ≤ k + 1 ∧ le 0 = 0 ∧ st 0 = 0) ∧ (ds = fr ro ∧ dl = dr ∧ dl ≤ 200 ∧ ds + dl ≤ k) ∧ (∀ j, j < ds + dl → nu j = nm j) ∧ (∀ R, R < ro → fr R ≤ fr (R + 1) ∧ fr (R + 1) ≤ ds) ∧
  (∀ r, 1 ≤ r → r < ma → 1 ≤ φ r ∧ φ r < ro ∧ st r = fr (φ r) ∧ 1 ≤ le r ∧ fr (φ r + 1) = fr (φ r) + le r) ∧ (∀ r r', 1 ≤ r → r < ma → 1 ≤ r' → r' < ma → φ r = φ r' → r = r') ∧
  (∀ T : Nat → Bool, sm (fun R => if R = 0 then 0 else if T R then fr (R + 1) - fr R else 0) ro = sm (fun r => if r = 0 then 0 else if T (φ r) then le r else 0) ma)
/-- what an assignment keeps: all but the rows' own tables -/
def relC (φ : Nat → Nat) (ma ro : Nat) (le fr : Nat → Nat) (og : Nat) (ki va : Nat → Int32) (S E : List Ent) (te : Nat → Int32) (ke : Int32) : Prop :=
  relS og S ∧ relE og E ∧ lvR φ ma ro fr og ki va S E ∧ telOK ma le te ke (fun r => cP ki va r 3367 + cS r S) ∧ (∀ r, ma ≤ r → te r = 0)
def Rel (k : Nat) (φ : Nat → Nat) (D : DS) (M : MS) : Prop := match D, M with
  | (ki, va, sp, sg, sk, sv, sc, og, nu, st, le, te, ma, ds, dl, ke), (_, gr, co, o, g, kd, vl, ro, fr, nm, dr) =>
    (og = gr ∧ og ≤ 200 ∧ sc ≤ k ∧ co ≤ k ∧ k ≤ 512) ∧ relC φ ma ro le fr og ki va (seg sp sg sk sv 0 sc) (seg o g kd vl 0 co) te ke ∧ rowsR k φ nu st le ma ds dl ro fr nm dr
theorem cAt_top {og L p : Nat} {cur : Val} {S : List Ent} (h : relS og S) (hL : og ≤ L) : cAt L p cur S = cur := cAt_none (fun e he q => by have := (h.2 e he).2.1; omega)
theorem rAt_top {og L w : Nat} {E : List Ent} (h : relE og E) (hL : og ≤ L) : rAt L w E = rAt og w E := by
  have key : ∀ (E : List Ent) (z : Val), (∀ e ∈ E, e.2.1 ≤ og) → E.foldl (fun d e => if e.1 = w ∧ e.2.1 ≤ L then e.2.2 else d) z = E.foldl (fun d e => if e.1 = w ∧ e.2.1 ≤ og then e.2.2 else d) z := by
    intro E
    induction E with
    | nil => intro z _; rfl
    | cons e E ih =>
      intro z h
      have h1 := h e (List.mem_cons_self ..)
      rw [List.foldl_cons, List.foldl_cons, ih _ (fun x hx => h x (List.mem_cons_of_mem _ hx))]
      congr 1
      by_cases hw : e.1 = w
      · rw [if_pos ⟨hw, by omega⟩, if_pos ⟨hw, h1⟩]
      · rw [if_neg (fun q => hw q.1), if_neg (fun q => hw q.1)]
  exact key E (0, 0) (fun e he => (h.2 e he).1)
theorem valR_ok {φ : Nat → Nat} {ma ro : Nat} {fr : Nat → Nat} {p : Nat} {a b : Val} (hp : p < 3367) (h : valR φ ma ro fr p a b) : rowOK ma a.1 a.2 ∧ (a.1 = 3 → nameP p) := by
  have hn : a.1 = 3 → nameP p := by
    intro h3
    by_cases h1 : p < 2366
    · have := (h.1 h1).1
      rw [h3] at this
      exact absurd this (by decide)
    · by_cases h2 : p = 3366
      · have := (h.2.2 h2).1
        rw [h3] at this
        exact absurd this (by decide)
      · exact ⟨by omega, by omega⟩
  refine ⟨fun h3 => ?_, hn⟩
  obtain ⟨r, R, h1, -, h2, -⟩ := (h.2.1 (hn h3)).2.1 h3
  exact ⟨r, h2, h1⟩
theorem cur_ok {φ : Nat → Nat} {ma ro : Nat} {fr : Nat → Nat} {og : Nat} {ki va : Nat → Int32} {S E : List Ent} (hS : relS og S) (h : lvR φ ma ro fr og ki va S E) {p : Nat} (hp : p < 3367) : rowOK ma (ki p) (va p) ∧ (ki p = 3 → nameP p) := by
  have h1 := h og p (Nat.le_refl _) hp
  rw [cAt_top hS (Nat.le_refl _)] at h1
  exact valR_ok hp h1
theorem sav_ok {φ : Nat → Nat} {ma ro : Nat} {fr : Nat → Nat} {og : Nat} {ki va : Nat → Int32} {S E : List Ent} (hS : relS og S) (h : lvR φ ma ro fr og ki va S E) {e : Ent} (he : e ∈ S) : rowOK ma e.2.2.1 e.2.2.2 ∧ (e.2.2.1 = 3 → nameP e.1) := by
  obtain ⟨h1, h2, h3⟩ := hS.2 e he
  have h4 := h (e.2.1 - 1) e.1 (by omega) h3
  rw [cAt_self hS.1 he h1] at h4
  exact valR_ok h3 h4
/-! mustSave -/
theorem srch_t {sp sg : Nat → Nat} {og pl : Nat} : ∀ {n : Nat}, (∀ i j, i < j → j < n → sg i ≤ sg j) → (∀ i, i < n → sg i ≤ og) → srch sp sg og pl n = true → ∀ i, i < n → ¬ (sp i = pl ∧ sg i = og) := by
  intro n
  induction n with
  | zero => intro _ _ _ i h; omega
  | succ n ih =>
    intro hs hg h i hi hq
    unfold srch at h
    by_cases e : sg n = og
    · rw [if_pos e] at h
      by_cases e2 : sp n = pl
      · rw [if_pos e2] at h; cases h
      · rw [if_neg e2] at h
        by_cases e3 : i = n
        · rw [e3] at hq; exact e2 hq.1
        · exact ih (fun a b h1 h2 => hs a b h1 (by omega)) (fun a h1 => hg a (by omega)) h i (by omega) hq
    · have h1 := hg n (by omega)
      by_cases e3 : i = n
      · rw [e3] at hq; exact e hq.2
      · have h2 := hs i n (by omega) (by omega)
        omega
theorem srch_f {sp sg : Nat → Nat} {og pl : Nat} : ∀ {n : Nat}, srch sp sg og pl n = false → ∃ i, i < n ∧ sp i = pl ∧ sg i = og := by
  intro n
  induction n with
  | zero => intro h; cases h
  | succ n ih =>
    intro h
    unfold srch at h
    by_cases e : sg n = og
    · rw [if_pos e] at h
      by_cases e2 : sp n = pl
      · exact ⟨n, by omega, e2, e⟩
      · rw [if_neg e2] at h
        obtain ⟨i, h1, h2⟩ := ih h
        exact ⟨i, by omega, h2⟩
    · rw [if_neg e] at h; cases h
theorem svS_get {a b : Nat → Nat} {c d : Nat → Int32} : ∀ {n k : Nat}, svS (seg a b c d k n) → ∀ i j, k ≤ i → i < j → j < k + n → b i ≤ b j := by
  intro n
  induction n with
  | zero => intro k _ i j h1 h2 h3; omega
  | succ n ih =>
    intro k h i j h1 h2 h3
    rw [seg] at h
    have h' := List.pairwise_cons.mp h
    by_cases e : i = k
    · subst e
      exact (h'.1 (a j, b j, c j, d j) (seg_mem.mpr ⟨j, by omega, by omega, rfl⟩)).1
    · exact ih h'.2 i j (by omega) h2 (by omega)
theorem must_t {sp sg : Nat → Nat} {sk sv : Nat → Int32} {sc og pl : Nat} (hS : relS og (seg sp sg sk sv 0 sc)) (h : mustB sp sg sc og pl = true) : og ≠ 0 ∧ ∀ e ∈ seg sp sg sk sv 0 sc, ¬ (e.1 = pl ∧ e.2.1 = og) := by
  unfold mustB at h
  by_cases h0 : og = 0
  · rw [if_pos h0] at h; cases h
  · by_cases h5 : 512 ≤ sc
    · rw [if_neg h0, if_pos h5] at h; cases h
    · rw [if_neg h0, if_neg h5] at h
      refine ⟨h0, fun e he => ?_⟩
      obtain ⟨i, -, hi, rfl⟩ := seg_mem.mp he
      exact srch_t (fun a b h1 h2 => svS_get hS.1 a b (by omega) h1 (by omega)) (fun a h1 => (hS.2 _ (seg_mem.mpr ⟨a, by omega, by omega, rfl⟩)).2.1) h i (by omega)
theorem must_f {sp sg : Nat → Nat} {sk sv : Nat → Int32} {sc og pl : Nat} (hsc : sc < 512) (h : mustB sp sg sc og pl = false) : og = 0 ∨ ∃ e ∈ seg sp sg sk sv 0 sc, e.1 = pl ∧ e.2.1 = og := by
  unfold mustB at h
  by_cases h0 : og = 0
  · exact Or.inl h0
  · rw [if_neg h0, if_neg (by omega)] at h
    obtain ⟨i, h1, h2, h3⟩ := srch_f h
    exact Or.inr ⟨_, seg_mem.mpr ⟨i, by omega, by omega, rfl⟩, h2, h3⟩
theorem seg_push {a b : Nat → Nat} {c d : Nat → Int32} {n x y : Nat} {z w : Int32} : seg (va_up a n x) (va_up b n y) (upd c n z) (upd d n w) 0 (n + 1) = seg a b c d 0 n ++ [(x, y, z, w)] := by
  rw [seg_snoc, seg_congr (a := a) (b := b) (c := c) (d := d) (fun i h1 h2 => ⟨va_up_ne _ _ (by omega), va_up_ne _ _ (by omega), pk_un (by omega), pk_un (by omega)⟩)]
  simp only [Nat.zero_add, va_up_self, pk_us]
/-- the reference's assign, as a list -/
theorem asgM_list {w : Nat} {k v g : Int32} {gr co : Nat} {o gp : Nat → Nat} {kd vl : Nat → Int32} : seg (asgM w k v g gr co o gp kd vl).2.1 (asgM w k v g gr co o gp kd vl).2.2.1 (asgM w k v g gr co o gp kd vl).2.2.2.1 (asgM w k v g gr co o gp kd vl).2.2.2.2 0 (asgM w k v g gr co o gp kd vl).1 = (seg o gp kd vl 0 co).filter (fun e => kp (nI w) (if g = 0 then gr else 0) e.1 e.2.1) ++ [(w, if g = 0 then gr else 0, k, v)] := by
  unfold asgM
  dsimp only
  rw [seg_push, dropF_list (Nat.le_refl _)]
  rfl
theorem kp_iff {w lst a b : Nat} (hw : w ≤ 4000) (ha : a ≤ 4000) : kp (nI w) lst a b = true ↔ (a ≠ w ∨ b < lst) := by
  unfold kp
  rw [decide_eq_true (nI_pos (n := w) (by omega)), Bool.true_and, Bool.or_eq_true, decide_eq_true_eq, decide_eq_true_eq, nI_eq (by omega) (by omega)]
