/-! how often a row is told, and the sum over the rows that are -/
def ind (k v : Int32) (j : Nat) : Nat := if k = 3 ∧ v = nI j then 1 else 0
def cP (ki va : Nat → Int32) (j : Nat) : Nat → Nat
  | 0 => 0
  | n + 1 => cP ki va j n + ind (ki n) (va n) j
def cS (j : Nat) : List Ent → Nat
  | [] => 0
  | e :: S => ind e.2.2.1 e.2.2.2 j + cS j S
def sm (f : Nat → Nat) : Nat → Nat
  | 0 => 0
  | n + 1 => sm f n + f n
theorem ind_le (k v : Int32) (j : Nat) : ind k v j ≤ 1 := by unfold ind; by_cases h : k = 3 ∧ v = nI j <;> simp [h]
theorem cP_le {ki va : Nat → Int32} {j : Nat} : ∀ {n : Nat}, cP ki va j n ≤ n := by
  intro n
  induction n with
  | zero => exact Nat.le_refl _
  | succ n ih =>
    have := ind_le (ki n) (va n) j
    show cP ki va j n + ind (ki n) (va n) j ≤ n + 1
    omega
theorem cS_le {j : Nat} : ∀ {S : List Ent}, cS j S ≤ S.length := by
  intro S
  induction S with
  | nil => exact Nat.le_refl _
  | cons e S ih =>
    have := ind_le e.2.2.1 e.2.2.2 j
    show ind e.2.2.1 e.2.2.2 j + cS j S ≤ S.length + 1
    omega
theorem cS_app {j : Nat} {T : List Ent} : ∀ {S : List Ent}, cS j (S ++ T) = cS j S + cS j T := by
  intro S
  induction S with
  | nil => exact (Nat.zero_add _).symm
  | cons e S ih =>
    show ind e.2.2.1 e.2.2.2 j + cS j (S ++ T) = ind e.2.2.1 e.2.2.2 j + cS j S + cS j T
    rw [ih]
    omega
theorem cP_ge {ki va : Nat → Int32} {j pl : Nat} {k v : Int32} : ∀ {n : Nat}, n ≤ pl → cP (upd ki pl k) (upd va pl v) j n = cP ki va j n := by
  intro n
  induction n with
  | zero => intro _; rfl
  | succ n ih =>
    intro h
    show cP (upd ki pl k) (upd va pl v) j n + ind (upd ki pl k n) (upd va pl v n) j = _
    rw [ih (by omega), pk_un (by omega), pk_un (by omega)]
    rfl
theorem cP_upd {ki va : Nat → Int32} {j pl : Nat} {k v : Int32} : ∀ {n : Nat}, pl < n → cP (upd ki pl k) (upd va pl v) j n + ind (ki pl) (va pl) j = cP ki va j n + ind k v j := by
  intro n
  induction n with
  | zero => intro h; omega
  | succ n ih =>
    intro h
    show cP (upd ki pl k) (upd va pl v) j n + ind (upd ki pl k n) (upd va pl v n) j + ind (ki pl) (va pl) j = cP ki va j n + ind (ki n) (va n) j + ind k v j
    by_cases e : n = pl
    · subst e
      rw [cP_ge (Nat.le_refl _), pk_us, pk_us]
      omega
    · have := ih (by omega)
      rw [pk_un e, pk_un e]
      omega
theorem sm_upd {f f' : Nat → Nat} {r : Nat} (h : ∀ j, j ≠ r → f' j = f j) : ∀ {n : Nat}, (n ≤ r → sm f' n = sm f n) ∧ (r < n → sm f' n + f r = sm f n + f' r) := by
  intro n
  induction n with
  | zero => exact ⟨fun _ => rfl, fun h => by omega⟩
  | succ n ih =>
    refine ⟨fun hn => ?_, fun hn => ?_⟩
    · show sm f' n + f' n = sm f n + f n
      rw [ih.1 (by omega), h n (by omega)]
    · show sm f' n + f' n + f r = sm f n + f n + f' r
      by_cases e : n = r
      · subst e
        rw [ih.1 (Nat.le_refl _)]
        omega
      · have := ih.2 (by omega)
        rw [h n e]
        omega
theorem sm_congr {f f' : Nat → Nat} : ∀ {n : Nat}, (∀ j, j < n → f' j = f j) → sm f' n = sm f n := by
  intro n
  induction n with
  | zero => intro _; rfl
  | succ n ih =>
    intro h
    show sm f' n + f' n = sm f n + f n
    rw [ih (fun j hj => h j (by omega)), h n (by omega)]
def told (le cnt : Nat → Nat) : Nat → Nat := fun r => if cnt r = 0 then 0 else le r
def telOK (ma : Nat) (le : Nat → Nat) (te : Nat → Int32) (ke : Int32) (cnt : Nat → Nat) : Prop := (∀ r, r < ma → te r = nI (cnt r)) ∧ ke = nI (sm (told le cnt) ma)
theorem telOK.to {ma : Nat} {le : Nat → Nat} {te : Nat → Int32} {ke : Int32} {cnt cnt' : Nat → Nat} (h : telOK ma le te ke cnt) (e : ∀ r, cnt' r = cnt r) : telOK ma le te ke cnt' := by
  have : cnt' = cnt := funext e
  rw [this]
  exact h
theorem tell_ok {ma : Nat} {le : Nat → Nat} {te : Nat → Int32} {ke : Int32} {cnt : Nat → Nat} {k v : Int32} (hm : ma < 2 ^ 31) (h : telOK ma le te ke cnt) (hb : ∀ r, cnt r < 100000) (hv : k = 3 → ∃ r, r < ma ∧ v = nI r) : telOK ma le (tellT ma le k v te ke).1 (tellT ma le k v te ke).2 (fun j => cnt j + ind k v j) := by
  unfold tellT
  by_cases hk : k = 3
  · obtain ⟨r, hr, rfl⟩ := hv hk
    rw [if_pos hk]
    unfold addT
    rw [isR_nI hm hr, rj_nI (by omega)]
    simp only [if_true]
    have hi : ∀ j, j < ma → ind k (nI r) j = if j = r then 1 else 0 := by
      intro j hj
      unfold ind
      by_cases e : j = r
      · subst e; rw [if_pos ⟨hk, rfl⟩, if_pos rfl]
      · rw [if_neg (fun q => e ((nI_eq (by omega) (by omega)).mp q.2).symm), if_neg e]
    refine ⟨fun j hj => ?_, ?_⟩
    · show upd te r (te r + 1) j = nI (cnt j + ind k (nI r) j)
      rw [hi j hj]
      by_cases e : j = r
      · subst e
        rw [pk_us, if_pos rfl, h.1 j hj, nI_1]
      · rw [pk_un e, if_neg e, h.1 j hj]
        rfl
    · have h1 := h.1 r hr
      have e1 : sm (told le (fun j => cnt j + ind k (nI r) j)) ma = sm (told le (fun j => cnt j + if j = r then 1 else 0)) ma := sm_congr (fun j hj => by show (if cnt j + ind k (nI r) j = 0 then 0 else le j) = (if cnt j + (if j = r then 1 else 0) = 0 then 0 else le j); rw [hi j hj])
      rw [e1]
      have h2 := (sm_upd (f := told le cnt) (f' := told le (fun j => cnt j + if j = r then 1 else 0)) (r := r) (fun j hj => by simp only [told, if_neg hj, Nat.add_zero])).2 hr
      have h3 : told le (fun j => cnt j + if j = r then 1 else 0) r = le r := by simp [told]
      rw [h3] at h2
      have hb1 := hb r
      by_cases hc : cnt r = 0
      · rw [if_pos (by rw [h1, hc]; rfl), h.2, nI_add]
        have h4 : told le cnt r = 0 := by simp [told, hc]
        rw [h4] at h2
        exact congrArg nI (by omega)
      · rw [if_neg (by rw [h1]; exact nI_ne0 (by omega) (by omega)), h.2]
        have h4 : told le cnt r = le r := by simp [told, hc]
        rw [h4] at h2
        exact congrArg nI (by omega)
  · rw [if_neg hk]
    exact h.to (fun r => by show cnt r + ind k v r = cnt r; unfold ind; rw [if_neg (fun q => hk q.1)]; rfl)
theorem untell_ok {ma : Nat} {le : Nat → Nat} {te : Nat → Int32} {ke : Int32} {cnt : Nat → Nat} {k v : Int32} (hm : ma < 2 ^ 31) (h : telOK ma le te ke (fun j => cnt j + ind k v j)) (hb : ∀ r, cnt r < 100000) (hv : k = 3 → ∃ r, r < ma ∧ v = nI r) : telOK ma le (untellT ma le k v te ke).1 (untellT ma le k v te ke).2 cnt := by
  unfold untellT
  by_cases hk : k = 3
  · obtain ⟨r, hr, rfl⟩ := hv hk
    rw [if_pos hk]
    unfold dropT
    rw [isR_nI hm hr, rj_nI (by omega)]
    simp only [if_true]
    have hi : ∀ j, j < ma → ind k (nI r) j = if j = r then 1 else 0 := by
      intro j hj
      unfold ind
      by_cases e : j = r
      · subst e; rw [if_pos ⟨hk, rfl⟩, if_pos rfl]
      · rw [if_neg (fun q => e ((nI_eq (by omega) (by omega)).mp q.2).symm), if_neg e]
    have hb1 := hb r
    have h1 : te r = nI (cnt r + 1) := by
      have h1 := h.1 r hr
      dsimp only at h1
      rw [hi r hr, if_pos rfl] at h1
      exact h1
    rw [if_neg (by rw [h1]; exact nI_ne0 (by omega) (by omega)), h1, nI_pred]
    have e1 : sm (told le (fun j => cnt j + ind k (nI r) j)) ma = sm (told le (fun j => cnt j + if j = r then 1 else 0)) ma := sm_congr (fun j hj => by show (if cnt j + ind k (nI r) j = 0 then 0 else le j) = (if cnt j + (if j = r then 1 else 0) = 0 then 0 else le j); rw [hi j hj])
    have h2 := (sm_upd (f := told le cnt) (f' := told le (fun j => cnt j + if j = r then 1 else 0)) (r := r) (fun j hj => by simp only [told, if_neg hj, Nat.add_zero])).2 hr
    have h3 : told le (fun j => cnt j + if j = r then 1 else 0) r = le r := by simp [told]
    rw [h3] at h2
    have hke : ke = nI (sm (told le (fun j => cnt j + if j = r then 1 else 0)) ma) := by rw [← e1]; exact h.2
    refine ⟨fun j hj => ?_, ?_⟩
    · show upd te r (nI (cnt r)) j = nI (cnt j)
      by_cases e : j = r
      · subst e; rw [pk_us]
      · rw [pk_un e]
        have h5 := h.1 j hj
        dsimp only at h5
        rw [hi j hj, if_neg e] at h5
        exact h5
    · show (if nI (cnt r) = 0 then ke - nI (le r) else ke) = _
      by_cases hc : cnt r = 0
      · rw [if_pos (by rw [hc]; rfl), hke]
        have h4 : told le cnt r = 0 := by simp [told, hc]
        rw [h4] at h2
        rw [pk_sub (by omega)]
        exact congrArg nI (by omega)
      · rw [if_neg (nI_ne0 (by omega) (by omega)), hke]
        have h4 : told le cnt r = le r := by simp [told, hc]
        rw [h4] at h2
        exact congrArg nI (by omega)
  · rw [if_neg hk]
    exact h.to (fun r => by show cnt r = cnt r + ind k v r; unfold ind; rw [if_neg (fun q => hk q.1)]; rfl)
/-- forgetSaved's tellers -/
theorem forg_tel {ma : Nat} {le : Nat → Nat} {pl : Nat} (hm : ma < 2 ^ 31) : ∀ {n k j : Nat} {base : Nat → Nat} {o g : Nat → Nat} {c d te : Nat → Int32} {ke : Int32}, (∀ r, base r + n < 50000) → j ≤ k → n < 10000 → (∀ i, k ≤ i → i < k + n → c i = 3 → ∃ r, r < ma ∧ d i = nI r) → telOK ma le te ke (fun r => base r + cS r (seg o g c d k n)) →
    telOK ma le (forgF ma le pl n k j o g c d te ke).2.2.2.2.2.1 (forgF ma le pl n k j o g c d te ke).2.2.2.2.2.2 (fun r => base r + cS r ((seg o g c d k n).filter (fun e => !decide (e.1 = pl)))) := by
  intro n
  induction n with
  | zero => intro k j base o g c d te ke _ _ _ _ h; exact h
  | succ n ih =>
    intro k j base o g c d te ke hbase hjk hn hc h
    have hlen : ∀ r, cS r (seg o g c d (k + 1) n) ≤ n := fun r => by have := cS_le (j := r) (S := seg o g c d (k + 1) n); rw [seg_len] at this; exact this
    by_cases ho : o k = pl
    · simp only [forgF, if_pos ho]
      rw [seg, List.filter_cons_of_neg (by simp [ho])]
      refine ih (fun r => by have := hbase r; omega) (by omega) (by omega) (fun i h1 h2 => hc i (by omega) (by omega)) ?_
      refine untell_ok hm (h.to (fun r => ?_)) (fun r => by have := hbase r; have := hlen r; omega) (hc k (Nat.le_refl _) (by omega))
      show base r + cS r (seg o g c d (k + 1) n) + ind (c k) (d k) r = base r + (ind (c k) (d k) r + cS r (seg o g c d (k + 1) n))
      omega
    · simp only [forgF, if_neg ho]
      rw [seg, List.filter_cons_of_pos (by simp [ho])]
      have e2 : seg (va_up o j (o k)) (va_up g j (g k)) (upd c j (c k)) (upd d j (d k)) (k + 1) n = seg o g c d (k + 1) n := seg_congr (fun i h1 h2 => ⟨va_up_ne _ _ (by omega), va_up_ne _ _ (by omega), pk_un (by omega), pk_un (by omega)⟩)
      have key := ih (base := fun r => base r + ind (c k) (d k) r) (k := k + 1) (j := j + 1) (o := va_up o j (o k)) (g := va_up g j (g k)) (c := upd c j (c k)) (d := upd d j (d k)) (te := te) (ke := ke) (fun r => ?_) (by omega) (by omega) (fun i h1 h2 => ?_) ?_
      · rw [e2] at key
        exact key.to (fun r => by show base r + (ind (c k) (d k) r + _) = base r + ind (c k) (d k) r + _; omega)
      · have := hbase r
        have := ind_le (c k) (d k) r
        show base r + ind (c k) (d k) r + n < 50000
        omega
      · rw [pk_un (by omega), pk_un (by omega)]
        exact hc i (by omega) (by omega)
      · rw [e2]
        exact h.to (fun r => by show base r + ind (c k) (d k) r + _ = base r + (ind (c k) (d k) r + _); omega)
/-- leave's loop: n saved entries stand, of them those of the innermost group go back -/
def rowOK (ma : Nat) (k v : Int32) : Prop := k = 3 → ∃ r, r < ma ∧ v = nI r
def nameP (p : Nat) : Prop := 2366 ≤ p ∧ p < 3366
theorem leave_ok {ma : Nat} {le sp sg : Nat → Nat} {sk sv : Nat → Int32} {og : Nat} (hm : ma < 2 ^ 31) : ∀ {n : Nat} {ki va te : Nat → Int32} {ke : Int32}, n < 10000 → (∀ i, i < n → sp i < 3367 ∧ rowOK ma (sk i) (sv i) ∧ (sk i = 3 → nameP (sp i))) → (∀ q, q < 3367 → rowOK ma (ki q) (va q) ∧ (ki q = 3 → nameP q)) → telOK ma le te ke (fun r => cP ki va r 3367 + cS r (seg sp sg sk sv 0 n)) →
    (leaveF ma le sp sg sk sv og n ki va te ke).1 ≤ n ∧ (∀ i, (leaveF ma le sp sg sk sv og n ki va te ke).1 ≤ i → i < n → sg i = og) ∧ (∀ i, i + 1 = (leaveF ma le sp sg sk sv og n ki va te ke).1 → sg i ≠ og) ∧
    telOK ma le (leaveF ma le sp sg sk sv og n ki va te ke).2.2.2.1 (leaveF ma le sp sg sk sv og n ki va te ke).2.2.2.2 (fun r => cP (leaveF ma le sp sg sk sv og n ki va te ke).2.1 (leaveF ma le sp sg sk sv og n ki va te ke).2.2.1 r 3367 + cS r (seg sp sg sk sv 0 (leaveF ma le sp sg sk sv og n ki va te ke).1)) ∧
    (∀ q, q < 3367 → rowOK ma ((leaveF ma le sp sg sk sv og n ki va te ke).2.1 q) ((leaveF ma le sp sg sk sv og n ki va te ke).2.2.1 q) ∧ ((leaveF ma le sp sg sk sv og n ki va te ke).2.1 q = 3 → nameP q)) ∧
    (∀ L q, L < og → cAt L q ((leaveF ma le sp sg sk sv og n ki va te ke).2.1 q, (leaveF ma le sp sg sk sv og n ki va te ke).2.2.1 q) (seg sp sg sk sv 0 (leaveF ma le sp sg sk sv og n ki va te ke).1) = cAt L q (ki q, va q) (seg sp sg sk sv 0 n)) := by
  intro n
  induction n with
  | zero => intro ki va te ke _ _ hc ht; exact ⟨Nat.le_refl _, fun i h1 h2 => by omega, fun i h => absurd h (by simp [leaveF]), ht, hc, fun L q _ => rfl⟩
  | succ n ih =>
    intro ki va te ke hn hs hc ht
    by_cases hg : sg n = og
    · obtain ⟨h1, h2, h3⟩ := hs n (by omega)
      have hlen : ∀ r, cS r (seg sp sg sk sv 0 n) ≤ n := fun r => by have := cS_le (j := r) (S := seg sp sg sk sv 0 n); rw [seg_len] at this; exact this
      have hcp : ∀ r, cP (upd ki (sp n) (sk n)) (upd va (sp n) (sv n)) r 3367 ≤ 3367 := fun r => cP_le
      have key := ih (ki := upd ki (sp n) (sk n)) (va := upd va (sp n) (sv n)) (te := (untellT ma le (ki (sp n)) (va (sp n)) te ke).1) (ke := (untellT ma le (ki (sp n)) (va (sp n)) te ke).2) (by omega) (fun i hi => hs i (by omega)) (fun q hq => ?_) ?_
      · simp only [leaveF, if_pos hg]
        obtain ⟨k1, k2, k3, k4, k5, k6⟩ := key
        refine ⟨by omega, fun i h4 h5 => ?_, k3, k4, k5, fun L q hL => ?_⟩
        · by_cases e : i = n
          · rw [e]; exact hg
          · exact k2 i h4 (by omega)
        · rw [k6 L q hL, seg_snoc, cAt_snoc]
          simp only [Nat.zero_add]
          by_cases e : sp n = q
          · rw [if_pos ⟨e, by omega⟩, e, pk_us, pk_us]
          · rw [if_neg (fun h => e h.1), pk_un (fun h => e h.symm), pk_un (fun h => e h.symm)]
      · by_cases e : q = sp n
        · rw [e, pk_us, pk_us]; exact ⟨h2, h3⟩
        · rw [pk_un e, pk_un e]; exact hc q hq
      · refine untell_ok hm (ht.to (fun r => ?_)) (fun r => by have := hlen r; have := hcp r; omega) (hc _ h1).1
        have h4 := cP_upd (ki := ki) (va := va) (j := r) (k := sk n) (v := sv n) h1
        show cP (upd ki (sp n) (sk n)) (upd va (sp n) (sv n)) r 3367 + cS r (seg sp sg sk sv 0 n) + ind (ki (sp n)) (va (sp n)) r = cP ki va r 3367 + cS r (seg sp sg sk sv 0 (n + 1))
        rw [seg_snoc, cS_app]
        simp only [Nat.zero_add, cS, Nat.add_zero]
        omega
    · simp only [leaveF, if_neg hg]
      exact ⟨Nat.le_refl _, fun i h1 h2 => by omega, fun i h => by have e : i = n := by omega
                                                                   rw [e]; exact hg, ht, hc, fun L q _ => by trivial⟩
