/-! The two constructors, run over the cells by the kernel; what the cells are behind them. -/
def kS : xZ := sZ (13, fun i => sA1.getD i 0)
noncomputable def kc1 : Option xR := x_exec kS pDf pP 20000 1999 0 0 [(0, .ref 8)] [] [.inr (11, pDf 11)]
noncomputable def ku1 : List xC := match kc1 with
  | some r => r.2
  | none => []
noncomputable def kok1 : Bool := match kc1 with
  | some (none, u) => u.length == 108
  | _ => false
