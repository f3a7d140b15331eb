/-! RINGS: the class's take, whole -/
def gvnV (V : RV) : RV := upG V 5 6 (V.2 5 6 + 1)
def lstV (V : RV) (l : Int) : RV :=
  let U := upG (gvnV V) 5 7 ((gvnV V).2 5 7 + 1)
  upG U 5 (30 + l).toNat (U.2 5 (30 + l).toNat + 1)
def mrV (V : RV) : RV := upG V 0 13 (V.2 0 13 + 1)
def nxtV (w : Int) (V : RV) : RV := if w = 2 then mrV (ovwV V) else if w = 0 then V else mrV V
def takV (V : RV) (l n : Int) : Int × RV :=
  if wayV V l n = -1 then (-1, V) else if wayV V l n = -2 then (-2, V) else if wayV V l n = -3 then (-3, lstV V l) else
    ((opnV (nxtV (wayV V l n) (gvnV V)) l n).2 5 6, opnV (nxtV (wayV V l n) (gvnV V)) l n)
theorem way_cases {V : RV} {l n : Int} (h1 : wayV V l n ≠ -1) (h2 : wayV V l n ≠ -2) : (0 ≤ l ∧ l ≤ 3 ∧ 1 ≤ n ∧ n ≤ 8 ∧ inn V < l) ∧ ((wayV V l n = 0 ∧ pSize (tlP V) (V.2 0 11) n ≤ V.2 0 9 - tlP V 0 9) ∨ (wayV V l n = 1 ∧ V.2 0 13 < V.2 0 8) ∨ (wayV V l n = 2 ∧ V.2 0 8 ≤ V.2 0 13 ∧ opIn V (V.2 0 12) = false) ∨ wayV V l n = -3) := by
  unfold wayV at *
  repeat' split at h1
  all_goals first | omega | skip
  all_goals simp_all
  all_goals omega
