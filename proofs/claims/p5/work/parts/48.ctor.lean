noncomputable def kc2 : Option xR := x_exec kS pDf pP 20000 1999 201 0 [(0, .ref 116)] [] (ku1 ++ [.inr (12, pDf 12)])
noncomputable def ku2 : List xC := match kc2 with
  | some r => r.2
  | none => []
noncomputable def kok2 : Bool := match kc2 with
  | some (none, u) => u.length == 115
  | _ => false
