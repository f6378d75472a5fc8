/-! numbers, and the worlds' words -/
def nF (f : Nat → Nat) : Nat → Int32 := fun k => nI (f k)
theorem nF_up (f : Nat → Nat) (k v : Nat) : upd (nF f) k (nI v) = nF (va_up f k v) := by
  funext j
  by_cases h : j = k <;> simp [upd, nF, va_up, h]
def b2i (b : Bool) : Int32 := if b then 1 else 0
theorem b2i_0 {b : Bool} (h : b2i b = 0) : b = false := by
  cases b
  · rfl
  · exact absurd h (by decide)
theorem b2i_n {b : Bool} (h : ¬ b2i b = 0) : b = true := by
  cases b
  · exact absurd rfl h
  · rfl
theorem b2i_z {ty : FieldType} (b : Bool) (h : ty = .boolean ∨ ty = .int) : narrow ty (.int (b2i b)) = .int (b2i b) := by
  rcases h with rfl | rfl
  · cases b <;> rfl
  · rfl
def rj (x : Int32) : Nat := x.toNatClampNeg
def isR (n : Nat) (x : Int32) : Bool := decide (¬ x < 0) && decide (¬ nI n ≤ x)
theorem isR_t {n : Nat} {x : Int32} (h1 : ¬ x < 0) (h2 : ¬ nI n ≤ x) : isR n x = true := by simp only [isR, decide_eq_true h1, decide_eq_true h2]; rfl
theorem isR_f1 {n : Nat} {x : Int32} (h : x < 0) : isR n x = false := by simp only [isR, decide_eq_false (not_not_intro h)]; rfl
theorem isR_f2 {n : Nat} {x : Int32} (h : nI n ≤ x) : isR n x = false := by simp only [isR, decide_eq_false (not_not_intro h)]; exact Bool.and_false _
theorem isR_of {n : Nat} {x : Int32} (hn : n < 2 ^ 31) (h : isR n x = true) : rj x < n ∧ x = nI (rj x) := by
  simp only [isR, Bool.and_eq_true, decide_eq_true_eq] at h
  rcases pk_ix x hn with h1 | h1 | ⟨j, hj, rfl⟩
  · exact absurd h1 h.1
  · exact absurd h1 h.2
  · have e : rj (nI j) = j := nI_clamp (by omega)
    rw [e]
    exact ⟨hj, rfl⟩
theorem isR_nI {n j : Nat} (hn : n < 2 ^ 31) (h : j < n) : isR n (nI j) = true := isR_t (nI_pos (by omega)) (nI_ge h hn)
theorem rj_nI {j : Nat} (h : j < 2 ^ 31) : rj (nI j) = j := nI_clamp h
theorem isR_not {n : Nat} {x : Int32} (hn : n < 2 ^ 31) (h : isR n x = false) : ∀ j, j < n → x ≠ nI j := by
  intro j hj e
  rw [e, isR_nI hn hj] at h
  cases h
section MV
variable {p : Program} {l : Launch} {e : Env} {R : Room} {s : State} {m : MethodId} {args : Array Value} {below : List Frame} {meth : Method} {c : Code} {H : Heap} {locs : List Loc} {cells slots : Nat} {Q : State → Prop}
variable {cc : ByteArray} {pc : Nat} {ls : Array Slot} {rest : List Value} {D : va_G} {cl : List vw_C} {A : Nat → Prop} {a : Nat} {tys : List (ClassId × FieldType)} {ws : va_W} {H0 : Heap}
theorem mv_top {x v : Int32} (hv : x = v) (k : W p l e R s m args below meth c H locs cells slots Q (F0 m pc ls (.int v :: rest))) : W p l e R s m args below meth c H locs cells slots Q (F0 m pc ls (.int x :: rest)) := hv ▸ k
theorem mv_iald (hexec : p.tables.exec = Jvm.exec) (hb : c.code = cc) (hK : va_K D cl tys s) (hP : va_P D cl ws H) (q0 t0 : Nat) {cA : ClassId} {n : Nat} {f : Nat → Int32} (ha : ws[q0]? = some (a, .inl (cA, n, .inl f))) (ht : tys[t0]? = some (cA, .int)) {i : Int32} {k : Nat} (hi : i = nI k) (hk : k < n) (hn : n < 2 ^ 31) {v : Int32} (hv : f k = v) (hdg : decode cc pc = .ok (.iaload, 1))
    (kk : W p l e R s m args below meth c H locs cells slots Q (F0 m (pc + 1) ls (.int v :: rest))) : W p l e R s m args below meth c H locs cells slots Q (F0 m pc ls (.int i :: .ref a :: rest)) := by
  subst hi
  subst hv
  refine va_iald hexec hb hK hP q0 t0 ha ht (vp_in_nI hk hn) hdg ?_
  rw [nI_clamp (Nat.lt_trans hk hn)]
  exact kk
theorem mv_iast (hexec : p.tables.exec = Jvm.exec) (hb : c.code = cc) (hK : va_K D cl tys s) (hP : va_P D cl ws H) (hD : va_D A ws) (hS : va_S A H0 H locs) (q0 t0 : Nat) {cA : ClassId} {n : Nat} {f : Nat → Int32} (ha : ws[q0]? = some (a, .inl (cA, n, .inl f))) (ht : tys[t0]? = some (cA, .int)) {i : Int32} {x : Int32} {k : Nat} (hi : i = nI k) (hk : k < n) (hn : n < 2 ^ 31) {f' : Nat → Int32} (hf : upd f k x = f') (hdg : decode cc pc = .ok (.iastore, 1))
    (kk : ∀ (H1 : Heap) (locs1 : List Loc), va_P D cl (ws.set q0 (a, .inl (cA, n, .inl f'))) H1 → va_D A (ws.set q0 (a, .inl (cA, n, .inl f'))) → va_S A H0 H1 locs1 → W p l e R s m args below meth c H1 locs1 cells slots Q (F0 m (pc + 1) ls rest)) : W p l e R s m args below meth c H locs cells slots Q (F0 m pc ls (.int x :: .int i :: .ref a :: rest)) := by
  subst hi
  subst hf
  refine va_iast hexec hb hK hP hD hS q0 t0 ha ht (vp_in_nI hk hn) hdg (fun H1 locs1 h1 h2 h3 => ?_)
  rw [nI_clamp (Nat.lt_trans hk hn)] at h1 h2
  exact kk H1 locs1 h1 h2 h3
end MV
/-! contracts in short: a reader (the heap stays), a writer (its world turns), no cell made -/
def mPr (D : va_G) (cI : ClassId) (wc : va_W) : State → Prop := fun U => va_P D vwCl wc U.heap ∧ va_K D vwCl [(cI, .int)] U
def mRi (l : Launch) (y : MethodName) (ws : List Cond) (rm : Room) (D : va_G) (cI : ClassId) (av : List Value) (wc : va_W) (post : Int32 → Prop) : Prop := Met l y ws rm (va_Pc av (mPr D cI wc)) (vp_Si post) 0 0 (fun _ => False)
def mPw (D : va_G) (cI : ClassId) (wc : va_W) (sz : Nat) : State → Prop := fun U => U.heap.size = sz ∧ va_P D vwCl wc U.heap ∧ va_K D vwCl [(cI, .int)] U ∧ va_D (fun _ => True) wc
def mBw (D : va_G) (cI : ClassId) (A : Nat → Prop) (w1 : va_W) : State → Prop := fun t => va_P D vwCl w1 t.heap ∧ va_K D vwCl [(cI, .int)] t ∧ va_D A w1
def mWi {S : Type} (l : Launch) (y : MethodName) (ws : List Cond) (rm : Room) (D : va_G) (cI : ClassId) (av : List Value) (wc : va_W) (post : Int32 → S → Prop) (w1 : S → va_W) : Prop := ∀ sz : Nat, Met l y ws rm (va_Pc av (mPw D cI wc sz)) (va_Qi post (fun u => mBw D cI (va_A wc sz) (w1 u)) (va_A wc sz)) 0 0 (va_A wc sz)
def mWv {S : Type} (l : Launch) (y : MethodName) (ws : List Cond) (rm : Room) (D : va_G) (cI : ClassId) (av : List Value) (wc : va_W) (post : S → Prop) (w1 : S → va_W) : Prop := ∀ sz : Nat, Met l y ws rm (va_Pc av (mPw D cI wc sz)) (va_Qv post (fun u => mBw D cI (va_A wc sz) (w1 u)) (va_A wc sz)) 0 0 (va_A wc sz)
theorem mPr_blind {D : va_G} {cI : ClassId} {wc : va_W} {av : List Value} : FrameBlind (va_Pc av (mPr D cI wc)) := fun a U g mk q => by
  obtain ⟨q0, qP, qK⟩ := q
  exact ⟨q0, qP, va_K.moved (u := U) (U := U.calling g mk a) (Vm.Alike.refl U.vm) qK⟩
theorem mPw_blind {D : va_G} {cI : ClassId} {wc : va_W} {sz : Nat} {av : List Value} : FrameBlind (va_Pc av (mPw D cI wc sz)) := fun a U g mk q => by
  obtain ⟨q0, q1, qP, qK, qD⟩ := q
  exact ⟨q0, q1, qP, va_K.moved (u := U) (U := U.calling g mk a) (Vm.Alike.refl U.vm) qK, qD⟩
/-- two worlds, one beside the other -/
theorem ma_idx (wr wc : va_W) : (List.range' wr.length wc.length).map (fun i => (wr ++ wc)[i]?) = wc.map some := by
  apply List.ext_getElem?
  intro i
  by_cases h : i < wc.length
  · simp [List.getElem?_range', h, List.getElem?_append_right]
  · simp [List.getElem?_range', h]
theorem ma_idl (wr wc : va_W) : (List.range wr.length).map (fun i => (wr ++ wc)[i]?) = wr.map some := by
  apply List.ext_getElem?
  intro i
  by_cases h : i < wr.length
  · simp [List.getElem?_range, h, List.getElem?_append_left]
  · simp [List.getElem?_range, h]
theorem ma_nd (n : Nat) : ∀ k, va_nd (List.range' k n) = true := by
  induction n with
  | zero => intro k; rfl
  | succ n ih =>
    intro k
    rw [List.range'_succ]
    simp only [va_nd, Bool.and_eq_true]
    refine ⟨?_, ih (k + 1)⟩
    simp [List.mem_range']
    try omega
theorem ma_P {D : va_G} {cl : List vw_C} {wr wc : va_W} {H : Heap} (h : va_P D cl (wr ++ wc) H) : va_P D cl wc H := fun k q hk => h (wr.length + k) q (by rw [List.getElem?_append_right (by omega)]; simpa using hk)
theorem ma_Pl {D : va_G} {cl : List vw_C} {wr wc : va_W} {H : Heap} (h : va_P D cl (wr ++ wc) H) : va_P D cl wr H := fun k q hk => h k q (by rw [List.getElem?_append_left (List.getElem?_eq_some_iff.mp hk).1]; exact hk)
theorem ma_D {A : Nat → Prop} {wr wc : va_W} (h : va_D A (wr ++ wc)) : va_D A wc := h.sub _ (ma_nd _ _) (ma_idx wr wc)
theorem ma_swapP {D : va_G} {cl : List vw_C} {a b : va_W} {H : Heap} (h : va_P D cl (a ++ b) H) : va_P D cl (b ++ a) H := va_P.app (ma_P h) (ma_Pl h)
theorem ma_Dl {A : Nat → Prop} {wr wc : va_W} (h : va_D A (wr ++ wc)) : va_D A wr := h.sub (List.range wr.length) (by rw [List.range_eq_range']; exact ma_nd _ _) (ma_idl wr wc)
theorem ma_swapD {A : Nat → Prop} {a b : va_W} (h : va_D A (a ++ b)) : va_D A (b ++ a) := by
  refine va_D.app (ma_D h) (ma_Dl h) (fun i j x y hx hy hxy => ?_)
  have h1 : (a ++ b)[a.length + i]? = some x := by rw [List.getElem?_append_right (by omega)]; simpa using hx
  have h2 : (a ++ b)[j]? = some y := by rw [List.getElem?_append_left (List.getElem?_eq_some_iff.mp hy).1]; exact hy
  have h3 := h.1 _ _ _ _ h1 h2 hxy
  have h4 := (List.getElem?_eq_some_iff.mp hy).1
  omega
theorem ma_join {A0 : Nat → Prop} {D : va_G} {cl : List vw_C} {wc wr w1 : va_W} {H H1 : Heap} (hP : va_P D cl (wr ++ wc) H) (hD : va_D A0 (wr ++ wc)) (hk : ∀ q : Nat, q < H.size → ¬ va_A wc H.size q → H1[q]? = H[q]?) (hF : ∀ q, va_A wc H.size q → A0 q) (hP1 : va_P D cl w1 H1) (hD1 : va_D (va_A wc H.size) w1) : va_P D cl (wr ++ w1) H1 ∧ va_D A0 (wr ++ w1) :=
  va_join (wc := wc) (wr := wr) hP hD (List.range' wr.length wc.length) (List.range wr.length) (ma_idx wr wc) (ma_idl wr wc) (by rw [List.range_eq_range']; exact ma_nd _ _) (fun i h1 h2 => by
    rw [List.mem_range] at h1
    rw [List.mem_range'] at h2
    obtain ⟨j, -, h⟩ := h2
    omega) hk hF hP1 hD1
theorem ma_free {A0 : Nat → Prop} {wr wc : va_W} {H0 H : Heap} {locs : List Loc} (hD : va_D A0 (wr ++ wc)) (hS : va_S A0 H0 H locs) (hA : ∀ q, H0.size ≤ q → A0 q) : ∀ q, va_A wc H.size q → A0 q := va_free (wc := wc) hD hS hA (List.range' wr.length wc.length) (ma_idx wr wc)
