/-! THE METHODS OVER TEXTS -/
def f_X2_verbHere (S : St) (b0 : Nat) (p1 : Int32) (p2 : Int32) : Option Int32 := none
theorem c_X2_verbHere (l : Launch) (G : Gx) (S : St) (b0 : Nat) (p1 : Int32) (p2 : Int32) (o : Int32) (h : f_X2_verbHere S b0 p1 p2 = some o) : Met l yX2_verbHere (Cond.code yX2_verbHere cX2_verbHere 4 (some (.int)) :: wAll) ({ frames := 6, cells := 0, slots := 0, locals := 140 } : Room) (va_Pc [.ref (G.1 + b0), .int p1, .int p2] (wPre G S)) (qI G (o, S)) 0 0 (wA G) := by
  cases h
