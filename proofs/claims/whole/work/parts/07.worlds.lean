/-! the worlds of the class and of the reference -/
abbrev wR (cI : ClassId) (r0 r1 r2 r3 r4 : Nat) (nu : Nat → Int32) (st le : Nat → Nat) (te : Nat → Int32) (ma ds dl : Nat) (ke : Int32) : va_W :=
  [(r0, .inr (1, [.ref r1, .ref r2, .ref r3, .ref r4, .int (nI ma), .int (nI ds), .int (nI dl), .int ke])), (r1, .inl (cI, 512, .inl nu)), (r2, .inl (cI, 513, .inl (nF st))), (r3, .inl (cI, 513, .inl (nF le))), (r4, .inl (cI, 513, .inl te))]
abbrev wP (cI : ClassId) (r0 p0 p1 p2 p3 p4 p5 p6 : Nat) (ki va : Nat → Int32) (sp sg : Nat → Nat) (sk sv : Nat → Int32) (sc og : Nat) : va_W :=
  [(p0, .inr (0, [.ref r0, .ref p1, .ref p2, .ref p3, .ref p4, .ref p5, .ref p6, .int (nI sc), .int (nI og)])), (p1, .inl (cI, 3367, .inl ki)), (p2, .inl (cI, 3367, .inl va)), (p3, .inl (cI, 512, .inl (nF sp))), (p4, .inl (cI, 512, .inl (nF sg))), (p5, .inl (cI, 512, .inl sk)), (p6, .inl (cI, 512, .inl sv))]
abbrev wG (g0 r0 p0 : Nat) : va_W := [(g0, .inr (2, [.ref r0, .ref p0]))]
abbrev wM (cI : ClassId) (m0 m1 m2 m3 m4 m5 m6 : Nat) (th : Int32) (gr co : Nat) (ofs grp : Nat → Nat) (kd vl : Nat → Int32) (ro : Nat) (fr : Nat → Nat) (nm : Nat → Int32) (dr : Nat) : va_W :=
  [(m0, .inr (3, [.int th, .int (nI gr), .int (nI co), .ref m1, .ref m2, .ref m3, .ref m4, .int (nI ro), .ref m5, .ref m6, .int (nI dr)])), (m1, .inl (cI, 4200, .inl (nF ofs))), (m2, .inl (cI, 4200, .inl (nF grp))), (m3, .inl (cI, 4200, .inl kd)), (m4, .inl (cI, 4200, .inl vl)), (m5, .inl (cI, 4200, .inl (nF fr))), (m6, .inl (cI, 4400, .inl nm))]
/-! what the methods do, as functions -/
def lenR (ma : Nat) (le : Nat → Nat) (x : Int32) : Int32 := if isR ma x then nI (le (rj x)) else 0
def hasR (ma : Nat) (le : Nat → Nat) (x k : Int32) : Bool := decide (¬ k < 0) && decide (¬ lenR ma le x ≤ k)
def numR (ma : Nat) (st le : Nat → Nat) (nu : Nat → Int32) (x k : Int32) : Int32 := if hasR ma le x k then nu (st (rj x) + rj k) else 0
def joinF (nu : Nat → Int32) (ds dl : Nat) (v : Int32) : Int32 × (Nat → Int32) × Nat := if dl < 200 ∧ ds + dl < 512 then (1, upd nu (ds + dl) v, dl + 1) else (0, nu, dl)
def takeF (st le : Nat → Nat) (ma ds dl : Nat) : Int32 × (Nat → Nat) × (Nat → Nat) × Nat × Nat × Nat := if dl = 0 ∨ 513 ≤ ma then (0, st, le, ma, ds, dl) else (nI ma, va_up st ma ds, va_up le ma dl, ma + 1, ds + dl, 0)
def addT (ma : Nat) (le : Nat → Nat) (x : Int32) (te : Nat → Int32) (ke : Int32) : (Nat → Int32) × Int32 := if isR ma x then (upd te (rj x) (te (rj x) + 1), if te (rj x) = 0 then ke + nI (le (rj x)) else ke) else (te, ke)
def dropT (ma : Nat) (le : Nat → Nat) (x : Int32) (te : Nat → Int32) (ke : Int32) : (Nat → Int32) × Int32 := if isR ma x then (if te (rj x) = 0 then (te, ke) else (upd te (rj x) (te (rj x) - 1), if te (rj x) - 1 = 0 then ke - nI (le (rj x)) else ke)) else (te, ke)
def tellT (ma : Nat) (le : Nat → Nat) (k x : Int32) (te : Nat → Int32) (ke : Int32) : (Nat → Int32) × Int32 := if k = 3 then addT ma le x te ke else (te, ke)
def untellT (ma : Nat) (le : Nat → Nat) (k x : Int32) (te : Nat → Int32) (ke : Int32) : (Nat → Int32) × Int32 := if k = 3 then dropT ma le x te ke else (te, ke)
def atP (f : Nat → Int32) (x : Int32) : Int32 := if isR 3367 x then f (rj x) else 0
/-- is there no row for the place among those of the innermost group, the last n ones looked at from behind -/
def srch (sp sg : Nat → Nat) (og pl : Nat) : Nat → Bool
  | 0 => true
  | i + 1 => if sg i = og then (if sp i = pl then false else srch sp sg og pl i) else true
def mustB (sp sg : Nat → Nat) (sc og pl : Nat) : Bool := if og = 0 then false else if 512 ≤ sc then false else srch sp sg og pl sc
/-- leave: what n saved rows put back, from behind -/
def leaveF (ma : Nat) (le : Nat → Nat) (sp sg : Nat → Nat) (sk sv : Nat → Int32) (og : Nat) : Nat → (Nat → Int32) → (Nat → Int32) → (Nat → Int32) → Int32 → Nat × (Nat → Int32) × (Nat → Int32) × (Nat → Int32) × Int32
  | 0, ki, va, te, ke => (0, ki, va, te, ke)
  | n + 1, ki, va, te, ke => if sg n = og then
      leaveF ma le sp sg sk sv og n (upd ki (sp n) (sk n)) (upd va (sp n) (sv n)) (untellT ma le (ki (sp n)) (va (sp n)) te ke).1 (untellT ma le (ki (sp n)) (va (sp n)) te ke).2
    else (n + 1, ki, va, te, ke)
/-- forgetSaved: n rows are left to look at, from i on; those kept stand at 0 .. left - 1 -/
def forgF (ma : Nat) (le : Nat → Nat) (pl : Nat) : Nat → Nat → Nat → (Nat → Nat) → (Nat → Nat) → (Nat → Int32) → (Nat → Int32) → (Nat → Int32) → Int32 → Nat × (Nat → Nat) × (Nat → Nat) × (Nat → Int32) × (Nat → Int32) × (Nat → Int32) × Int32
  | 0, _, left, sp, sg, sk, sv, te, ke => (left, sp, sg, sk, sv, te, ke)
  | n + 1, i, left, sp, sg, sk, sv, te, ke => if sp i = pl then
      forgF ma le pl n (i + 1) left sp sg sk sv (untellT ma le (sk i) (sv i) te ke).1 (untellT ma le (sk i) (sv i) te ke).2
    else forgF ma le pl n (i + 1) (left + 1) (va_up sp left (sp i)) (va_up sg left (sg i)) (upd sk left (sk i)) (upd sv left (sv i)) te ke
/-- the reference's drop: n entries are left to look at, from k on; those kept stand at 0 .. j - 1 -/
def dropF (keep : Nat → Nat → Bool) : Nat → Nat → Nat → (Nat → Nat) → (Nat → Nat) → (Nat → Int32) → (Nat → Int32) → Nat × (Nat → Nat) × (Nat → Nat) × (Nat → Int32) × (Nat → Int32)
  | 0, _, j, ofs, grp, kd, vl => (j, ofs, grp, kd, vl)
  | n + 1, k, j, ofs, grp, kd, vl => if keep (ofs k) (grp k) then dropF keep n (k + 1) (j + 1) (va_up ofs j (ofs k)) (va_up grp j (grp k)) (upd kd j (kd k)) (upd vl j (vl k)) else dropF keep n (k + 1) j ofs grp kd vl
/-- the last of the first n entries that is of w -/
def lastF (ofs : Nat → Nat) (w : Nat) : Nat → Option Nat
  | 0 => none
  | n + 1 => if ofs n = w then some n else lastF ofs w n
def atM (ofs : Nat → Nat) (f : Nat → Int32) (w co : Nat) : Int32 := match lastF ofs w co with
  | none => 0
  | some k => f k
def sizeM (fr : Nat → Nat) (row : Nat) : Int32 := if row = 0 then 0 else nI (fr (row + 1)) - nI (fr row)
