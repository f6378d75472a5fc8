/-! rows of entries as lists: (of or place, group, kind, value) -/
abbrev Ent : Type := Nat × Nat × Int32 × Int32
def seg (a b : Nat → Nat) (c d : Nat → Int32) : Nat → Nat → List Ent
  | _, 0 => []
  | k, n + 1 => (a k, b k, c k, d k) :: seg a b c d (k + 1) n
theorem seg_congr {a b a' b' : Nat → Nat} {c d c' d' : Nat → Int32} : ∀ {n k : Nat}, (∀ i, k ≤ i → i < k + n → a' i = a i ∧ b' i = b i ∧ c' i = c i ∧ d' i = d i) → seg a' b' c' d' k n = seg a b c d k n := by
  intro n
  induction n with
  | zero => intro k _; rfl
  | succ n ih =>
    intro k h
    obtain ⟨h1, h2, h3, h4⟩ := h k (Nat.le_refl _) (by omega)
    rw [seg, seg, h1, h2, h3, h4, ih (fun i h5 h6 => h i (by omega) (by omega))]
theorem seg_snoc {a b : Nat → Nat} {c d : Nat → Int32} : ∀ {n k : Nat}, seg a b c d k (n + 1) = seg a b c d k n ++ [(a (k + n), b (k + n), c (k + n), d (k + n))] := by
  intro n
  induction n with
  | zero => intro k; rfl
  | succ n ih =>
    intro k
    rw [seg, ih, seg]
    rw [show k + 1 + n = k + (n + 1) by omega]
    rfl
theorem seg_len {a b : Nat → Nat} {c d : Nat → Int32} : ∀ {n k : Nat}, (seg a b c d k n).length = n := by
  intro n
  induction n with
  | zero => intro k; rfl
  | succ n ih => intro k; rw [seg, List.length_cons, ih]
theorem seg_mem {a b : Nat → Nat} {c d : Nat → Int32} {e : Ent} : ∀ {n k : Nat}, e ∈ seg a b c d k n ↔ ∃ i, k ≤ i ∧ i < k + n ∧ e = (a i, b i, c i, d i) := by
  intro n
  induction n with
  | zero =>
    intro k
    constructor
    · intro h; cases h
    · rintro ⟨i, h1, h2, -⟩; omega
  | succ n ih =>
    intro k
    rw [seg, List.mem_cons, ih]
    constructor
    · rintro (rfl | ⟨i, h1, h2, rfl⟩)
      · exact ⟨k, Nat.le_refl _, by omega, rfl⟩
      · exact ⟨i, by omega, by omega, rfl⟩
    · rintro ⟨i, h1, h2, rfl⟩
      by_cases h : i = k
      · exact Or.inl (by rw [h])
      · exact Or.inr ⟨i, by omega, by omega, rfl⟩
/-- the reference's drop is a filter -/
theorem dropF_list {keep : Nat → Nat → Bool} : ∀ {n k j : Nat} {o g : Nat → Nat} {c d : Nat → Int32}, j ≤ k →
    seg (dropF keep n k j o g c d).2.1 (dropF keep n k j o g c d).2.2.1 (dropF keep n k j o g c d).2.2.2.1 (dropF keep n k j o g c d).2.2.2.2 0 (dropF keep n k j o g c d).1 = seg o g c d 0 j ++ (seg o g c d k n).filter (fun e => keep e.1 e.2.1) := by
  intro n
  induction n with
  | zero => intro k j o g c d _; simp [dropF, seg]
  | succ n ih =>
    intro k j o g c d hjk
    by_cases h : keep (o k) (g k) = true
    · simp only [dropF, if_pos h]
      rw [ih (by omega), seg_snoc]
      have e1 : seg (va_up o j (o k)) (va_up g j (g k)) (upd c j (c k)) (upd d j (d k)) 0 j = seg o g c d 0 j := seg_congr (fun i h1 h2 => ⟨va_up_ne _ _ (by omega), va_up_ne _ _ (by omega), pk_un (by omega), pk_un (by omega)⟩)
      have e2 : seg (va_up o j (o k)) (va_up g j (g k)) (upd c j (c k)) (upd d j (d k)) (k + 1) n = seg o g c d (k + 1) n := seg_congr (fun i h1 h2 => ⟨va_up_ne _ _ (by omega), va_up_ne _ _ (by omega), pk_un (by omega), pk_un (by omega)⟩)
      rw [e1, e2, seg, List.filter_cons_of_pos (by exact h)]
      simp only [Nat.zero_add, va_up_self, pk_us, List.append_assoc, List.singleton_append]
    · simp only [dropF, if_neg h]
      rw [ih (by omega), seg, List.filter_cons_of_neg (by exact h)]
/-- forgetSaved is a filter too -/
theorem forgF_list {ma : Nat} {le : Nat → Nat} {pl : Nat} : ∀ {n k j : Nat} {o g : Nat → Nat} {c d te : Nat → Int32} {ke : Int32}, j ≤ k →
    seg (forgF ma le pl n k j o g c d te ke).2.1 (forgF ma le pl n k j o g c d te ke).2.2.1 (forgF ma le pl n k j o g c d te ke).2.2.2.1 (forgF ma le pl n k j o g c d te ke).2.2.2.2.1 0 (forgF ma le pl n k j o g c d te ke).1 = seg o g c d 0 j ++ (seg o g c d k n).filter (fun e => !decide (e.1 = pl)) := by
  intro n
  induction n with
  | zero => intro k j o g c d te ke _; simp [forgF, seg]
  | succ n ih =>
    intro k j o g c d te ke hjk
    by_cases h : o k = pl
    · simp only [forgF, if_pos h]
      rw [ih (by omega), seg, List.filter_cons_of_neg (by simp [h])]
    · simp only [forgF, if_neg h]
      rw [ih (by omega), seg_snoc]
      have e1 : seg (va_up o j (o k)) (va_up g j (g k)) (upd c j (c k)) (upd d j (d k)) 0 j = seg o g c d 0 j := seg_congr (fun i h1 h2 => ⟨va_up_ne _ _ (by omega), va_up_ne _ _ (by omega), pk_un (by omega), pk_un (by omega)⟩)
      have e2 : seg (va_up o j (o k)) (va_up g j (g k)) (upd c j (c k)) (upd d j (d k)) (k + 1) n = seg o g c d (k + 1) n := seg_congr (fun i h1 h2 => ⟨va_up_ne _ _ (by omega), va_up_ne _ _ (by omega), pk_un (by omega), pk_un (by omega)⟩)
      rw [e1, e2, seg, List.filter_cons_of_pos (by simp [h])]
      simp only [Nat.zero_add, va_up_self, pk_us, List.append_assoc, List.singleton_append]
/-! values at a level -/
abbrev Val : Type := Int32 × Int32
/-- the class: the first saved entry of the place from a group above L, else what holds now -/
def cAt (L p : Nat) (cur : Val) (S : List Ent) : Val := S.foldr (fun e d => if e.1 = p ∧ L < e.2.1 then e.2.2 else d) cur
/-- the reference: the last entry of w from a group up to L, else 0 -/
def rAt (L w : Nat) (S : List Ent) : Val := S.foldl (fun d e => if e.1 = w ∧ e.2.1 ≤ L then e.2.2 else d) (0, 0)
theorem cAt_snoc {L p : Nat} {cur : Val} {S : List Ent} {e : Ent} : cAt L p cur (S ++ [e]) = cAt L p (if e.1 = p ∧ L < e.2.1 then e.2.2 else cur) S := by simp [cAt]
theorem rAt_snoc {L w : Nat} {S : List Ent} {e : Ent} : rAt L w (S ++ [e]) = if e.1 = w ∧ e.2.1 ≤ L then e.2.2 else rAt L w S := by simp [rAt]
theorem cAt_none {L p : Nat} {cur : Val} : ∀ {S : List Ent}, (∀ e ∈ S, ¬ (e.1 = p ∧ L < e.2.1)) → cAt L p cur S = cur := by
  intro S
  induction S with
  | nil => intro _; rfl
  | cons e S ih =>
    intro h
    show (if e.1 = p ∧ L < e.2.1 then e.2.2 else cAt L p cur S) = cur
    rw [if_neg (h e (List.mem_cons_self ..)), ih (fun x hx => h x (List.mem_cons_of_mem _ hx))]
theorem cAt_any {L p : Nat} {cur cur' : Val} : ∀ {S : List Ent}, (∃ e ∈ S, e.1 = p ∧ L < e.2.1) → cAt L p cur S = cAt L p cur' S := by
  intro S
  induction S with
  | nil => rintro ⟨e, h, -⟩; cases h
  | cons e S ih =>
    rintro ⟨x, hx, h⟩
    show (if e.1 = p ∧ L < e.2.1 then e.2.2 else cAt L p cur S) = (if e.1 = p ∧ L < e.2.1 then e.2.2 else cAt L p cur' S)
    by_cases he : e.1 = p ∧ L < e.2.1
    · rw [if_pos he, if_pos he]
    · rw [if_neg he, if_neg he]
      rcases List.mem_cons.mp hx with rfl | hx
      · exact absurd h he
      · exact ih ⟨x, hx, h⟩
theorem cAt_filter {L p : Nat} {cur : Val} {q : Ent → Bool} : ∀ {S : List Ent}, (∀ e ∈ S, q e = false → ¬ (e.1 = p ∧ L < e.2.1)) → cAt L p cur (S.filter q) = cAt L p cur S := by
  intro S
  induction S with
  | nil => intro _; rfl
  | cons e S ih =>
    intro h
    have ih' := ih (fun x hx => h x (List.mem_cons_of_mem _ hx))
    cases hq : q e with
    | true =>
      rw [List.filter_cons_of_pos hq]
      show (if e.1 = p ∧ L < e.2.1 then e.2.2 else cAt L p cur (S.filter q)) = (if e.1 = p ∧ L < e.2.1 then e.2.2 else cAt L p cur S)
      rw [ih']
    | false =>
      rw [List.filter_cons_of_neg (by rw [hq]; decide)]
      show cAt L p cur (S.filter q) = (if e.1 = p ∧ L < e.2.1 then e.2.2 else cAt L p cur S)
      rw [if_neg (h e (List.mem_cons_self ..) hq), ih']
theorem foldl_filter_id {α : Type} {f : α → Ent → α} {q : Ent → Bool} : ∀ {S : List Ent} {z : α}, (∀ e ∈ S, q e = false → ∀ d, f d e = d) → (S.filter q).foldl f z = S.foldl f z := by
  intro S
  induction S with
  | nil => intro z _; rfl
  | cons e S ih =>
    intro z h
    cases hq : q e with
    | true => rw [List.filter_cons_of_pos hq, List.foldl_cons, List.foldl_cons, ih (fun x hx => h x (List.mem_cons_of_mem _ hx))]
    | false => rw [List.filter_cons_of_neg (by rw [hq]; decide), List.foldl_cons, h e (List.mem_cons_self ..) hq, ih (fun x hx => h x (List.mem_cons_of_mem _ hx))]
theorem rAt_filter {L w : Nat} {q : Ent → Bool} {S : List Ent} (h : ∀ e ∈ S, q e = false → ¬ (e.1 = w ∧ e.2.1 ≤ L)) : rAt L w (S.filter q) = rAt L w S := foldl_filter_id (fun e he hq d => if_neg (h e he hq))
/-- who is told by a list of rows is told at a level: the class -/
theorem cAt_mem {L p : Nat} {cur : Val} : ∀ {S : List Ent}, cAt L p cur S = cur ∨ ∃ e ∈ S, e.1 = p ∧ L < e.2.1 ∧ cAt L p cur S = e.2.2 := by
  intro S
  induction S with
  | nil => exact Or.inl rfl
  | cons e S ih =>
    have hc : cAt L p cur (e :: S) = (if e.1 = p ∧ L < e.2.1 then e.2.2 else cAt L p cur S) := rfl
    by_cases he : e.1 = p ∧ L < e.2.1
    · rw [hc, if_pos he]
      exact Or.inr ⟨e, List.mem_cons_self .., he.1, he.2, rfl⟩
    · rw [hc, if_neg he]
      rcases ih with h | ⟨x, hx, h⟩
      · exact Or.inl h
      · exact Or.inr ⟨x, List.mem_cons_of_mem _ hx, h⟩
theorem rAt_mem {L w : Nat} {S : List Ent} : rAt L w S = (0, 0) ∨ ∃ e ∈ S, e.1 = w ∧ e.2.1 ≤ L ∧ rAt L w S = e.2.2 := by
  have key : ∀ (S : List Ent) (z : Val), S.foldl (fun d e => if e.1 = w ∧ e.2.1 ≤ L then e.2.2 else d) z = z ∨ ∃ e ∈ S, e.1 = w ∧ e.2.1 ≤ L ∧ S.foldl (fun d e => if e.1 = w ∧ e.2.1 ≤ L then e.2.2 else d) z = e.2.2 := by
    intro S
    induction S with
    | nil => intro z; exact Or.inl rfl
    | cons e S ih =>
      intro z
      rw [List.foldl_cons]
      by_cases he : e.1 = w ∧ e.2.1 ≤ L
      · rw [if_pos he]
        rcases ih e.2.2 with h | ⟨x, hx, h⟩
        · exact Or.inr ⟨e, List.mem_cons_self .., he.1, he.2, h⟩
        · exact Or.inr ⟨x, List.mem_cons_of_mem _ hx, h⟩
      · rw [if_neg he]
        rcases ih z with h | ⟨x, hx, h⟩
        · exact Or.inl h
        · exact Or.inr ⟨x, List.mem_cons_of_mem _ hx, h⟩
  exact key S (0, 0)
/-- no two saved entries of one place and group, the groups in order -/
def svS (S : List Ent) : Prop := S.Pairwise (fun a b => a.2.1 ≤ b.2.1 ∧ ¬ (a.1 = b.1 ∧ a.2.1 = b.2.1))
/-- the reference's entries of one thing: in the order of their groups -/
def enS (S : List Ent) : Prop := S.Pairwise (fun a b => a.1 = b.1 → a.2.1 < b.2.1)
theorem cAt_self {cur : Val} {e : Ent} : ∀ {S : List Ent}, svS S → e ∈ S → 1 ≤ e.2.1 → cAt (e.2.1 - 1) e.1 cur S = e.2.2 := by
  intro S
  induction S with
  | nil => intro _ h; cases h
  | cons x S ih =>
    intro hs hm h1
    have hs' := List.pairwise_cons.mp hs
    show (if x.1 = e.1 ∧ e.2.1 - 1 < x.2.1 then x.2.2 else cAt (e.2.1 - 1) e.1 cur S) = e.2.2
    rcases List.mem_cons.mp hm with rfl | hm
    · rw [if_pos ⟨rfl, by omega⟩]
    · have h2 := hs'.1 e hm
      rw [if_neg (fun h => h2.2 ⟨h.1, by omega⟩)]
      exact ih hs'.2 hm h1
theorem rAt_self {e : Ent} {S : List Ent} (hs : enS S) (hm : e ∈ S) : rAt e.2.1 e.1 S = e.2.2 := by
  have key : ∀ (S : List Ent) (z : Val), enS S → ((e ∈ S) ∨ (z = e.2.2 ∧ ∀ x ∈ S, x.1 = e.1 → e.2.1 < x.2.1)) → S.foldl (fun d x => if x.1 = e.1 ∧ x.2.1 ≤ e.2.1 then x.2.2 else d) z = e.2.2 := by
    intro S
    induction S with
    | nil =>
      intro z _ h
      rcases h with h | h
      · cases h
      · exact h.1
    | cons x S ih =>
      intro z hs h
      have hs' := List.pairwise_cons.mp hs
      rw [List.foldl_cons]
      rcases h with h | ⟨hz, h⟩
      · rcases List.mem_cons.mp h with rfl | h
        · rw [if_pos ⟨rfl, Nat.le_refl _⟩]
          exact ih _ hs'.2 (Or.inr ⟨rfl, fun y hy hye => hs'.1 y hy hye.symm⟩)
        · exact ih _ hs'.2 (Or.inl h)
      · rw [if_neg (fun hx => by have := h x (List.mem_cons_self ..) hx.1; omega)]
        exact ih _ hs'.2 (Or.inr ⟨hz, fun y hy => h y (List.mem_cons_of_mem _ hy)⟩)
  exact key S (0, 0) hs (Or.inl hm)
/-! the tables' readings as lists -/
theorem atM_list {o g : Nat → Nat} {c d : Nat → Int32} {w L : Nat} : ∀ {n : Nat}, (∀ i, i < n → g i ≤ L) → (atM o c w n, atM o d w n) = rAt L w (seg o g c d 0 n) := by
  intro n
  induction n with
  | zero => intro _; rfl
  | succ n ih =>
    intro h
    have ih' := ih (fun i hi => h i (by omega))
    rw [seg_snoc, rAt_snoc]
    simp only [Nat.zero_add]
    by_cases hw : o n = w
    · rw [if_pos ⟨hw, h n (by omega)⟩]
      simp only [atM, lastF, if_pos hw]
    · rw [if_neg (fun h => hw h.1), ← ih']
      simp only [atM, lastF, if_neg hw]
def isT (row : Int32) (e : Ent) : Bool := decide (3000 ≤ e.1) && decide (e.1 < 4000) && decide (e.2.2.1 = 3) && decide (e.2.2.2 = row)
theorem tolM_list {o g : Nat → Nat} {c d : Nat → Int32} {row : Nat} : ∀ {n : Nat}, tolM o c d row n = (seg o g c d 0 n).any (isT (nI row)) := by
  intro n
  induction n with
  | zero => rfl
  | succ n ih =>
    rw [seg_snoc, List.any_append, ← ih]
    simp only [tolM, List.any_cons, List.any_nil, Bool.or_false, isT, Nat.zero_add]
