/-! The calendar on both sides: what is told. -/
def fu (w : Int → Int) (i x : Int) : Int → Int := fun j => if j = i then x else w j
theorem zu_row (m : zM) (g k : Nat) (i x : Int) : z_upd m g k i x g k = fu (m g k) i x := by
  funext i'
  unfold z_upd fu
  by_cases h : i' = i
  · rw [if_pos ⟨rfl, rfl, h⟩, if_pos h]
  · rw [if_neg (fun e => h e.2.2), if_neg h]
theorem zu_g (m : zM) {g g' k : Nat} (i x : Int) (h : g' ≠ g) : z_upd m g k i x g' = m g' := by
  funext k' i'
  unfold z_upd
  rw [if_neg (fun e => h e.1)]
theorem zu_k (m : zM) {g g' k k' : Nat} (i x : Int) (h : k' ≠ k) : z_upd m g k i x g' k' = m g' k' := by
  funext i'
  unfold z_upd
  rw [if_neg (fun e => h e.2.1)]
theorem fu_s (w : Int → Int) (i x : Int) : fu w i x i = x := if_pos rfl
theorem fu_i (w : Int → Int) {i i' : Int} (x : Int) (h : i' ≠ i) : fu w i x i' = w i' := if_neg h
theorem spN_fu {w : Int → Int} {d x : Int} (h0 : 0 ≤ d) : ∀ n : Nat, spN (fu w (423 + d) x) n = spN w n + if d < n then (if x = -1 then 0 else 1) - (if w (423 + d) = -1 then 0 else 1) else 0
  | 0 => by
    rw [if_neg (by omega)]
    rfl
  | n + 1 => by
    unfold spN
    rw [spN_fu h0 n]
    by_cases e : (n : Int) = d
    · rw [e, fu_s, if_neg (by omega), if_pos (show d < ((n + 1 : Nat) : Int) by omega)]
      omega
    · rw [fu_i _ _ (show (423 : Int) + n ≠ 423 + d by omega)]
      by_cases e2 : d < n
      · rw [if_pos e2, if_pos (show d < ((n + 1 : Nat) : Int) by omega)]
        omega
      · rw [if_neg e2, if_neg (show ¬ d < ((n + 1 : Nat) : Int) by omega)]
        omega
theorem CS.season {a15 a16 w : Int → Int} (h : CS a15 a16 w) {s x : Int} (h0 : 0 ≤ s) (h1 : s < 4) : CS (fu a15 s x) a16 (fu w (391 + s) x) := by
  refine ⟨fun s' e0 e1 => ?_, fun d e0 e1 => ?_⟩
  · by_cases e : s' = s
    · rw [e, fu_s, fu_s]
    · rw [fu_i _ _ e, fu_i _ _ (by omega)]
      exact h.1 s' e0 e1
  · rw [fu_i _ _ (by omega)]
    exact h.2 d e0 e1
theorem CS.week {a15 a16 w : Int → Int} (h : CS a15 a16 w) {d x : Int} (h0 : 0 ≤ d) (h1 : d < 28) : CS a15 (fu a16 d x) (fu w (395 + d) x) := by
  refine ⟨fun s e0 e1 => ?_, fun d' e0 e1 => ?_⟩
  · rw [fu_i _ _ (by omega)]
    exact h.1 s e0 e1
  · by_cases e : d' = d
    · rw [e, fu_s, fu_s]
    · rw [fu_i _ _ e, fu_i _ _ (by omega)]
      exact h.2 d' e0 e1
theorem CT.wipe {a12 a13 a14 w : Int → Int} (h : CT a12 a13 a14 w) (hb : ∀ t : Int, 0 ≤ t → t < 8 → a12 t ≤ 6) {t : Int} (h0 : 0 ≤ t) (h1 : t < 8) : CT (fu a12 t 0) a13 a14 (fu w (287 + t) 0) := by
  refine ⟨fun t' e0 e1 => ?_, fun t' k e0 e1 e2 e3 => ?_, fun t' k e0 e1 e2 e3 => ?_⟩
  · by_cases e : t' = t
    · rw [e, fu_s, fu_s]
    · rw [fu_i _ _ e, fu_i _ _ (by omega)]
      exact h.1 t' e0 e1
  · by_cases e : t' = t
    · rw [e, fu_s] at e3
      omega
    · rw [fu_i _ _ e] at e3
      have := hb t' e0 e1
      rw [fu_i _ _ (by omega), fu_i _ _ (by omega)]
      exact h.2.1 t' k e0 e1 e2 e3
  · by_cases e : t' = t
    · rw [e, fu_s] at e3
      omega
    · rw [fu_i _ _ e] at e3
      exact h.2.2 t' k e0 e1 e2 e3
/-- the same second told again -/
theorem CT.again {a12 a13 a14 w : Int → Int} (h : CT a12 a13 a14 w) (hb : ∀ t : Int, 0 ≤ t → t < 8 → a12 t ≤ 6) {t v x : Int} (h0 : 0 ≤ t) (h1 : t < 8) (v0 : 0 ≤ v) (v1 : v < a12 t) : CT a12 a13 (fu a14 (t * 6 + v) x) (fu (fu w (295 + 6 * t + v) (a13 (t * 6 + v))) (343 + 6 * t + v) x) := by
  have hv := hb t h0 h1
  refine ⟨fun t' e0 e1 => ?_, fun t' k e0 e1 e2 e3 => ?_, h.2.2⟩
  · rw [fu_i _ _ (by omega), fu_i _ _ (by omega)]
    exact h.1 t' e0 e1
  · have := hb t' e0 e1
    obtain ⟨e4, e5⟩ := h.2.1 t' k e0 e1 e2 e3
    by_cases e : t' = t ∧ k = v
    · obtain ⟨rfl, rfl⟩ := e
      rw [fu_i _ _ (by omega), fu_s, fu_s, fu_s]
      exact ⟨rfl, rfl⟩
    · rw [fu_i _ _ (show 295 + 6 * t' + k ≠ 343 + 6 * t + v by omega), fu_i _ _ (show 295 + 6 * t' + k ≠ 295 + 6 * t + v by omega), fu_i _ _ (show t' * 6 + k ≠ t * 6 + v by omega), fu_i _ _ (show 343 + 6 * t' + k ≠ 343 + 6 * t + v by omega), fu_i _ _ (show 343 + 6 * t' + k ≠ 295 + 6 * t + v by omega)]
      exact ⟨e4, e5⟩
/-- a row with one number more at v of the places from b on: what lay from v on up to b + n lies one further -/
def shf (a : Int → Int) (b v n x : Int) : Int → Int := fun i => if i = b + v then x else if b + v < i ∧ i ≤ b + n then a (i - 1) else a i
theorem shf_at (a : Int → Int) (b v n x k : Int) : shf a b v n x (b + k) = if k = v then x else if v < k ∧ k ≤ n then a (b + k - 1) else a (b + k) := by
  unfold shf
  by_cases e : k = v
  · rw [if_pos (by omega), if_pos e]
  · rw [if_neg (by omega), if_neg e]
    by_cases e2 : v < k ∧ k ≤ n
    · rw [if_pos (by omega), if_pos e2]
    · rw [if_neg (by omega), if_neg e2]
theorem shf_o (a : Int → Int) (b v n x i : Int) (h : i < b + v ∨ b + n < i) (hv : v ≤ n) : shf a b v n x i = a i := by
  unfold shf
  rw [if_neg (by omega), if_neg (by omega)]
/-- a new second -/
theorem CT.new {a12 a13 a14 w : Int → Int} (h : CT a12 a13 a14 w) (hb : ∀ t : Int, 0 ≤ t → t < 8 → 0 ≤ a12 t ∧ a12 t ≤ 6) {t v s x : Int} (h0 : 0 ≤ t) (h1 : t < 8) (v0 : 0 ≤ v) (v1 : v ≤ a12 t) (hn : a12 t < 6) (v2 : ∀ k, 0 ≤ k → k < v → a13 (t * 6 + k) < s) (v3 : v < a12 t → s < a13 (t * 6 + v)) {b12 b13 b14 u : Int → Int}
    (e12 : b12 = fu a12 t (a12 t + 1)) (e13 : b13 = shf a13 (t * 6) v (a12 t) s) (e14 : b14 = shf a14 (t * 6) v (a12 t) x)
    (u12 : ∀ t', 0 ≤ t' → t' < 8 → u (287 + t') = fu a12 t (a12 t + 1) t')
    (u13 : ∀ k, 0 ≤ k → k < 6 → u (295 + 6 * t + k) = if k = v then s else if v < k ∧ k ≤ a12 t then w (295 + 6 * t + k - 1) else w (295 + 6 * t + k))
    (u14 : ∀ k, 0 ≤ k → k < 6 → u (343 + 6 * t + k) = if k = v then x else if v < k ∧ k ≤ a12 t then w (343 + 6 * t + k - 1) else w (343 + 6 * t + k))
    (uo : ∀ i, 295 ≤ i → i < 391 → ¬ (295 + 6 * t ≤ i ∧ i < 301 + 6 * t) → ¬ (343 + 6 * t ≤ i ∧ i < 349 + 6 * t) → u i = w i) : CT b12 b13 b14 u := by
  subst e12 e13 e14
  have hm : ∀ (n : Nat) (j k : Int), 0 ≤ j → k = j + n → k < a12 t → a13 (t * 6 + j) ≤ a13 (t * 6 + k) := by
    intro n
    induction n with
    | zero =>
      intro j k _ e _
      rw [show k = j by omega]
      exact Int.le_refl _
    | succ n ih =>
      intro j k hj e hk
      have g1 := ih j (k - 1) hj (by omega) (by omega)
      have g2 := h.2.2 t (k - 1) h0 h1 (by omega) (by omega)
      rw [show t * 6 + (k - 1) + 1 = t * 6 + k by omega] at g2
      omega
  refine ⟨fun t' e0 e1 => (u12 t' e0 e1).symm, fun t' k e0 e1 e2 e3 => ?_, fun t' k e0 e1 e2 e3 => ?_⟩
  · by_cases e : t' = t
    · subst e
      rw [fu_s] at e3
      rw [shf_at, shf_at, u13 k e2 (by omega), u14 k e2 (by omega)]
      by_cases c1 : k = v
      · rw [if_pos c1, if_pos c1, if_pos c1, if_pos c1]
        exact ⟨rfl, rfl⟩
      · rw [if_neg c1, if_neg c1, if_neg c1, if_neg c1]
        by_cases c2 : v < k ∧ k ≤ a12 t'
        · rw [if_pos c2, if_pos c2, if_pos c2, if_pos c2]
          obtain ⟨g1, g2⟩ := h.2.1 t' (k - 1) h0 h1 (by omega) (by omega)
          rw [show t' * 6 + k - 1 = t' * 6 + (k - 1) by omega, show 295 + 6 * t' + k - 1 = 295 + 6 * t' + (k - 1) by omega, show 343 + 6 * t' + k - 1 = 343 + 6 * t' + (k - 1) by omega]
          exact ⟨g1, g2⟩
        · rw [if_neg c2, if_neg c2, if_neg c2, if_neg c2]
          exact h.2.1 t' k h0 h1 e2 (by omega)
    · rw [fu_i _ _ e] at e3
      have := hb t' e0 e1
      rw [shf_o _ _ _ _ _ _ (by omega) v1, shf_o _ _ _ _ _ _ (by omega) v1, uo _ (by omega) (by omega) (by omega) (by omega), uo _ (by omega) (by omega) (by omega) (by omega)]
      exact h.2.1 t' k e0 e1 e2 e3
  · by_cases e : t' = t
    · subst e
      rw [fu_s] at e3
      rw [show t' * 6 + k + 1 = t' * 6 + (k + 1) by omega, shf_at, shf_at]
      by_cases c1 : k = v
      · rw [if_pos c1, if_neg (by omega), if_pos (by omega), c1, show t' * 6 + (v + 1) - 1 = t' * 6 + v by omega]
        exact v3 (by omega)
      · rw [if_neg c1]
        by_cases c2 : k + 1 = v
        · rw [if_pos c2, if_neg (by omega)]
          exact v2 k e2 (by omega)
        · rw [if_neg c2]
          by_cases c3 : v < k
          · rw [if_pos (by omega), if_pos (by omega), show t' * 6 + (k + 1) - 1 = t' * 6 + (k - 1) + 1 by omega, show t' * 6 + k - 1 = t' * 6 + (k - 1) by omega]
            exact h.2.2 t' (k - 1) h0 h1 (by omega) (by omega)
          · rw [if_neg (by omega), if_neg (by omega), show t' * 6 + (k + 1) = t' * 6 + k + 1 by omega]
            exact h.2.2 t' k h0 h1 e2 (by omega)
    · rw [fu_i _ _ e] at e3
      have := hb t' e0 e1
      rw [shf_o _ _ _ _ _ _ (by omega) v1, shf_o _ _ _ _ _ _ (by omega) v1]
      exact h.2.2 t' k e0 e1 e2 e3
/-- a SPECIAL day more -/
theorem CP.new {n : Int} {a17 a18 w : Int → Int} (h : CP n a17 a18 w) (hb : ∀ k : Int, 0 ≤ k → k < n → 0 ≤ a17 k ∧ a17 k ≤ 364) (hn : 0 ≤ n) {d x : Int} (h0 : 0 ≤ d) (h1 : d < 365) (hd : ∀ k, 0 ≤ k → k < n → a17 k ≠ d) (hw : w (423 + d) = -1) (hx : x ≠ -1) : CP (n + 1) (fu a17 n d) (fu a18 n x) (fu w (423 + d) x) := by
  refine ⟨fun k e0 e1 => ?_, fun j k e0 e1 e2 => ?_, fun d' e0 e1 e2 => ?_, ?_⟩
  · by_cases e : k = n
    · rw [e, fu_s, fu_s, fu_s]
    · have := hd k e0 (by omega)
      rw [fu_i _ _ e, fu_i _ _ e, fu_i _ _ (by omega)]
      exact h.1 k e0 (by omega)
  · rw [fu_i _ _ (show j ≠ n by omega)]
    by_cases e : k = n
    · rw [e, fu_s]
      exact hd j e0 (by omega)
    · rw [fu_i _ _ e]
      exact h.2.1 j k e0 e1 (by omega)
  · by_cases e : d' = d
    · exact ⟨n, hn, by omega, by rw [fu_s, e]⟩
    · rw [fu_i _ _ (by omega)] at e2
      obtain ⟨k, k0, k1, k2⟩ := h.2.2.1 d' e0 e1 e2
      exact ⟨k, k0, by omega, by rw [fu_i _ _ (by omega)]; exact k2⟩
  · rw [spN_fu h0, h.2.2.2, if_pos (show d < ((365 : Nat) : Int) by omega), if_neg hx, if_pos hw]
    omega
/-- a SPECIAL day told again -/
theorem CP.again {n : Int} {a17 a18 w : Int → Int} (h : CP n a17 a18 w) {v x : Int} (v0 : 0 ≤ v) (v1 : v < n) (h0 : 0 ≤ a17 v) (h1 : a17 v < 365) (hw : w (423 + a17 v) ≠ -1) (hx : x ≠ -1) : CP n (fu a17 v (a17 v)) (fu a18 v x) (fu w (423 + a17 v) x) := by
  have e17 : fu a17 v (a17 v) = a17 := by
    funext i
    unfold fu
    split
    · rename_i e
      rw [e]
    · rfl
  rw [e17]
  have hne : ∀ k, 0 ≤ k → k < n → k ≠ v → a17 k ≠ a17 v := fun k e0 e1 e2 => by
    rcases Int.lt_or_gt_of_ne e2 with e | e
    · exact h.2.1 k v e0 e v1
    · exact fun e9 => h.2.1 v k v0 e e1 e9.symm
  refine ⟨fun k e0 e1 => ?_, h.2.1, fun d' e0 e1 e2 => ?_, ?_⟩
  · by_cases e : k = v
    · rw [e, fu_s, fu_s]
    · have := hne k e0 e1 e
      rw [fu_i _ _ e, fu_i _ _ (by omega)]
      exact h.1 k e0 e1
  · by_cases e : d' = a17 v
    · exact ⟨v, v0, v1, e.symm⟩
    · rw [fu_i _ _ (by omega)] at e2
      exact h.2.2.1 d' e0 e1 e2
  · rw [spN_fu h0, h.2.2.2, if_pos (show a17 v < ((365 : Nat) : Int) by omega), if_neg hx, if_neg hw]
    omega
/-- a SPECIAL day less: the last one comes to its place -/
theorem CP.drop {n : Int} {a17 a18 w : Int → Int} (h : CP n a17 a18 w) (hb : ∀ k : Int, 0 ≤ k → k < n → 0 ≤ a17 k ∧ a17 k ≤ 364) {v : Int} (v0 : 0 ≤ v) (v1 : v < n) (hw : w (423 + a17 v) ≠ -1) : CP (n - 1) (fu a17 v (a17 (n - 1))) (fu a18 v (a18 (n - 1))) (fu w (423 + a17 v) (-1)) := by
  have hv := hb v v0 v1
  have hne : ∀ k, 0 ≤ k → k < n → k ≠ v → a17 k ≠ a17 v := fun k e0 e1 e2 => by
    rcases Int.lt_or_gt_of_ne e2 with e | e
    · exact h.2.1 k v e0 e v1
    · exact fun e9 => h.2.1 v k v0 e e1 e9.symm
  refine ⟨fun k e0 e1 => ?_, fun j k e0 e1 e2 => ?_, fun d' e0 e1 e2 => ?_, ?_⟩
  · by_cases e : k = v
    · have := hne (n - 1) (by omega) (by omega) (by omega)
      rw [e, fu_s, fu_s, fu_i _ _ (by omega)]
      exact h.1 (n - 1) (by omega) (by omega)
    · have := hne k e0 (by omega) e
      rw [fu_i _ _ e, fu_i _ _ e, fu_i _ _ (by omega)]
      exact h.1 k e0 (by omega)
  · by_cases e : j = v
    · rw [e, fu_s, fu_i _ _ (show k ≠ v by omega)]
      exact fun e9 => h.2.1 k (n - 1) (by omega) (by omega) (by omega) e9.symm
    · rw [fu_i _ _ e]
      by_cases e3 : k = v
      · rw [e3, fu_s]
        exact h.2.1 j (n - 1) e0 (by omega) (by omega)
      · rw [fu_i _ _ e3]
        exact h.2.1 j k e0 e1 (by omega)
  · by_cases e : d' = a17 v
    · rw [e, fu_s] at e2
      exact absurd rfl e2
    · rw [fu_i _ _ (by omega)] at e2
      obtain ⟨k, k0, k1, k2⟩ := h.2.2.1 d' e0 e1 e2
      have hkv : k ≠ v := fun e9 => e (by rw [← k2, e9])
      by_cases e3 : k = n - 1
      · exact ⟨v, v0, by omega, by rw [fu_s, ← e3]; exact k2⟩
      · exact ⟨k, k0, by omega, by rw [fu_i _ _ hkv]; exact k2⟩
  · rw [spN_fu (by omega), h.2.2.2, if_pos (show a17 v < ((365 : Nat) : Int) by omega), if_pos rfl, if_neg hw]
    omega
