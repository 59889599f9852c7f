/-! What the reading of the TEXT does, as a computation over the tape alone. -/
/-- what is told so far: 0 counts, 1 seconds, 2 tariffs, 3 begins, 4 weeks, 5 tables told, 6 seasons told, 7 specials by day, 8 how many (at 0), 9 priced (at 0), 10 prices -/
abbrev zC : Type := Nat → Int → Int
def fu (c : zC) (f : Nat) (i x : Int) : zC := fun f' i' => if f' = f ∧ i' = i then x else c f' i'
def c0 : zC := fun f i => if f = 3 then (if i = 0 then 0 else -1) else if f = 7 then -1 else 0
def numS (T : Int → Int) (L p : Int) : Int := sB T L p
def numE (T : Int → Int) (L p : Int) : Int := sD T L (sB T L p)
def numV (T : Int → Int) (L p : Int) : Int := nC T (numS T L p) (numE T L p)
/-- the fault of a number 0 .. n from p on: none (0), not here (1), no such number (2) -/
def numK (T : Int → Int) (L p n : Int) : Int := if numE T L p = numS T L p then 1 else if n < numV T L p then 2 else 0
/-- the fault of a sign -/
def sgnK (T : Int → Int) (L p x : Int) : Int := if sB T L p < L ∧ T (sB T L p) = x then 0 else 1
/-- how many SWITCHES of a TABLE stand ahead of a second -/
def posF (c : zC) (t s : Int) : Nat → Int → Int
  | 0, k => k
  | n + 1, k => if k < c 0 t ∧ c 1 (t * 6 + k) < s then posF c t s n (k + 1) else k
def pos (c : zC) (t s : Int) : Int := posF c t s 7 0
def hasP (c : zC) (t s : Int) : Prop := pos c t s < c 0 t ∧ c 1 (t * 6 + pos c t s) = s
/-- a new SWITCH -/
def putC (c : zC) (t s v : Int) : zC := fun f i =>
  if f = 0 then (if i = t then c 0 t + 1 else c 0 i)
  else if f = 1 then (if t * 6 + pos c t s < i ∧ i ≤ t * 6 + c 0 t then c 1 (i - 1) else if i = t * 6 + pos c t s then s else c 1 i)
  else if f = 2 then (if t * 6 + pos c t s < i ∧ i ≤ t * 6 + c 0 t then c 2 (i - 1) else if i = t * 6 + pos c t s then v else c 2 i)
  else c f i
/-- fault, its place, the place behind, what is told -/
abbrev zP : Type := Int × Int × Int × zC
noncomputable def swF (T : Int → Int) (L p t : Int) (c : zC) : zP :=
  if numK T L p 23 ≠ 0 then (numK T L p 23, numS T L p, 0, c)
  else if 6 ≤ c 0 t then (4, numS T L p, 0, c)
  else if sgnK T L (numE T L p) 58 ≠ 0 then (1, sB T L (numE T L p), 0, c)
  else if numK T L (sB T L (numE T L p) + 1) 59 ≠ 0 then (numK T L (sB T L (numE T L p) + 1) 59, numS T L (sB T L (numE T L p) + 1), 0, c)
  else @ite zP (hasP c t (numV T L p * 3600 + numV T L (sB T L (numE T L p) + 1) * 60)) (Classical.propDecidable _) (3, numS T L (sB T L (numE T L p) + 1), 0, c)
    (if numK T L (numE T L (sB T L (numE T L p) + 1)) 3 ≠ 0 then (numK T L (numE T L (sB T L (numE T L p) + 1)) 3, numS T L (numE T L (sB T L (numE T L p) + 1)), 0, c)
    else (0, 0, numE T L (numE T L (sB T L (numE T L p) + 1)), putC c t (numV T L p * 3600 + numV T L (sB T L (numE T L p) + 1) * 60) (numV T L (numE T L (sB T L (numE T L p) + 1)))))
/-- the SWITCHES of a TABLE's line -/
noncomputable def tabF (T : Int → Int) (L t : Int) : Nat → Int → zC → zP
  | 0, p, c => (0, 0, sB T L p, c)
  | n + 1, p, c => if sB T L p < L ∧ 48 ≤ T (sB T L p) ∧ T (sB T L p) ≤ 57 then
      (if (swF T L (sB T L p) t c).1 ≠ 0 then swF T L (sB T L p) t c else tabF T L t n (swF T L (sB T L p) t c).2.2.1 (swF T L (sB T L p) t c).2.2.2)
    else (0, 0, sB T L p, c)
/-- a number that mustn't be told yet (f: 5 tables, 6 seasons) -/
def newK (T : Int → Int) (L p n : Int) (c : zC) (f : Nat) : Int := if numK T L p n ≠ 0 then numK T L p n else if c f (numV T L p) = 1 then 3 else 0
noncomputable def tblF (T : Int → Int) (L p : Int) (c : zC) : zP :=
  if newK T L p 7 c 5 ≠ 0 then (newK T L p 7 c 5, numS T L p, 0, c) else tabF T L (numV T L p) 7 (numE T L p) (fu c 5 (numV T L p) 1)
/-- n numbers 0 .. most into field f from index i on -/
def rowF (T : Int → Int) (L most : Int) (f : Nat) : Nat → Int → Int → zC → zP
  | 0, p, _, c => (0, 0, p, c)
  | n + 1, p, i, c => if numK T L p most ≠ 0 then (numK T L p most, numS T L p, 0, c) else rowF T L most f n (numE T L p) (i + 1) (fu c f i (numV T L p))
def ssnF (T : Int → Int) (L p : Int) (c : zC) : zP :=
  if newK T L p 3 c 6 ≠ 0 then (newK T L p 3 c 6, numS T L p, 0, c)
  else if numK T L (numE T L p) 364 ≠ 0 then (numK T L (numE T L p) 364, numS T L (numE T L p), 0, c)
  else rowF T L 7 4 7 (numE T L (numE T L p)) (numV T L p * 7) (fu (fu c 6 (numV T L p) 1) 3 (numV T L p) (numV T L (numE T L p)))
def spcF (T : Int → Int) (L p : Int) (c : zC) : zP :=
  if numK T L p 364 ≠ 0 then (numK T L p 364, numS T L p, 0, c)
  else if c 7 (numV T L p) ≠ -1 then (3, numS T L p, 0, c)
  else if numK T L (numE T L p) 7 ≠ 0 then (numK T L (numE T L p) 7, numS T L (numE T L p), 0, c)
  else (0, 0, numE T L (numE T L p), fu (fu c 7 (numV T L p) (numV T L (numE T L p))) 8 0 (c 8 0 + 1))
def prcF (T : Int → Int) (L p : Int) (c : zC) : zP :=
  if (rowF T L 100 10 4 p 0 c).1 ≠ 0 then rowF T L 100 10 4 p 0 c else (0, 0, (rowF T L 100 10 4 p 0 c).2.2.1, fu (rowF T L 100 10 4 p 0 c).2.2.2 9 0 1)
/-- which word stands at p: 1 table, 2 season, 3 special, 4 price, 0 none -/
def wrdF (T : Int → Int) (L p : Int) : Int :=
  if sW T L p = p + 5 ∧ T p = 116 ∧ T (p + 1) = 97 ∧ T (p + 2) = 98 ∧ T (p + 3) = 108 ∧ T (p + 4) = 101 then 1
  else if sW T L p = p + 6 ∧ T p = 115 ∧ T (p + 1) = 101 ∧ T (p + 2) = 97 ∧ T (p + 3) = 115 ∧ T (p + 4) = 111 ∧ T (p + 5) = 110 then 2
  else if sW T L p = p + 7 ∧ T p = 115 ∧ T (p + 1) = 112 ∧ T (p + 2) = 101 ∧ T (p + 3) = 99 ∧ T (p + 4) = 105 ∧ T (p + 5) = 97 ∧ T (p + 6) = 108 then 3
  else if sW T L p = p + 5 ∧ T p = 112 ∧ T (p + 1) = 114 ∧ T (p + 2) = 105 ∧ T (p + 3) = 99 ∧ T (p + 4) = 101 then 4 else 0
/-- a line but for its last sign -/
noncomputable def bdyF (T : Int → Int) (L p : Int) (c : zC) : zP :=
  if wrdF T L p = 1 then tblF T L (p + 5) c
  else if wrdF T L p = 2 then ssnF T L (p + 6) c
  else if wrdF T L p = 3 then (if 16 ≤ c 8 0 then (4, p, 0, c) else spcF T L (p + 7) c)
  else if wrdF T L p = 4 then (if c 9 0 = 1 then (3, p, 0, c) else prcF T L (p + 5) c)
  else (1, p, 0, c)
noncomputable def linF (T : Int → Int) (L p : Int) (c : zC) : zP :=
  if (bdyF T L p c).1 ≠ 0 then bdyF T L p c
  else if sgnK T L (bdyF T L p c).2.2.1 59 ≠ 0 then (1, sB T L (bdyF T L p c).2.2.1, 0, c)
  else (0, 0, sB T L (sB T L (bdyF T L p c).2.2.1 + 1), (bdyF T L p c).2.2.2)
/-- all lines: fault, its place, how many lines, what is told -/
noncomputable def allF (T : Int → Int) (L : Int) : Nat → Int → Int → zC → zP
  | 0, _, n, c => (0, 0, n, c)
  | k + 1, p, n, c => if p < L then (if (linF T L p c).1 ≠ 0 then linF T L p c else allF T L k (linF T L p c).2.2.1 (n + 1) (linF T L p c).2.2.2) else (0, 0, n, c)
