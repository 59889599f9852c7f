/-! The tape as it is read: blanks, letters, digits, the number of digits. -/
/-- the first place from p on, below L, where the tape has no blank -/
def sBF (T : Int → Int) (L : Int) : Nat → Int → Int
  | 0, p => p
  | n + 1, p => if p < L ∧ T p = 32 then sBF T L n (p + 1) else p
def sB (T : Int → Int) (L p : Int) : Int := sBF T L (L - p).toNat p
def sDF (T : Int → Int) (L : Int) : Nat → Int → Int
  | 0, p => p
  | n + 1, p => if p < L ∧ 48 ≤ T p ∧ T p ≤ 57 then sDF T L n (p + 1) else p
def sD (T : Int → Int) (L p : Int) : Int := sDF T L (L - p).toNat p
def sWF (T : Int → Int) (L : Int) : Nat → Int → Int
  | 0, p => p
  | n + 1, p => if p < L ∧ 97 ≤ T p ∧ T p ≤ 122 then sWF T L n (p + 1) else p
def sW (T : Int → Int) (L p : Int) : Int := sWF T L (L - p).toNat p
section
variable {T T' : Int → Int} {L p q : Int}
theorem sB_go (h : p < L) (h2 : T p = 32) : sB T L p = sB T L (p + 1) := by
  unfold sB
  rw [show (L - p).toNat = (L - (p + 1)).toNat + 1 by omega, sBF, if_pos ⟨h, h2⟩]
theorem sB_no (h : ¬ (p < L ∧ T p = 32)) : sB T L p = p := by
  unfold sB
  cases (L - p).toNat with
  | zero => rfl
  | succ n => rw [sBF, if_neg h]
theorem sD_go (h : p < L) (h2 : 48 ≤ T p ∧ T p ≤ 57) : sD T L p = sD T L (p + 1) := by
  unfold sD
  rw [show (L - p).toNat = (L - (p + 1)).toNat + 1 by omega, sDF, if_pos ⟨h, h2⟩]
theorem sD_no (h : ¬ (p < L ∧ 48 ≤ T p ∧ T p ≤ 57)) : sD T L p = p := by
  unfold sD
  cases (L - p).toNat with
  | zero => rfl
  | succ n => rw [sDF, if_neg h]
theorem sW_go (h : p < L) (h2 : 97 ≤ T p ∧ T p ≤ 122) : sW T L p = sW T L (p + 1) := by
  unfold sW
  rw [show (L - p).toNat = (L - (p + 1)).toNat + 1 by omega, sWF, if_pos ⟨h, h2⟩]
theorem sW_no (h : ¬ (p < L ∧ 97 ≤ T p ∧ T p ≤ 122)) : sW T L p = p := by
  unfold sW
  cases (L - p).toNat with
  | zero => rfl
  | succ n => rw [sWF, if_neg h]
/-- two tapes that are alike below L -/
def tEq (T T' : Int → Int) (L : Int) : Prop := ∀ i, 0 ≤ i → i < L → (T i = 32 ↔ T' i = 32) ∧ (48 ≤ T i ∧ T i ≤ 57 ↔ 48 ≤ T' i ∧ T' i ≤ 57) ∧ (97 ≤ T i ∧ T i ≤ 122 ↔ 97 ≤ T' i ∧ T' i ≤ 122) ∧ (0 ≤ T i ∧ T i ≤ 127 → T' i = T i) ∧ (0 ≤ T' i ∧ T' i ≤ 127 → T i = T' i)
theorem sBF_eq (h : tEq T T' L) : ∀ (n : Nat) (p : Int), 0 ≤ p → sBF T L n p = sBF T' L n p
  | 0, _, _ => rfl
  | n + 1, p, hp => by
    unfold sBF
    by_cases c : p < L ∧ T p = 32
    · rw [if_pos c, if_pos ⟨c.1, (h p hp c.1).1.mp c.2⟩, sBF_eq h n (p + 1) (by omega)]
    · rw [if_neg c, if_neg (fun e => c ⟨e.1, (h p hp e.1).1.mpr e.2⟩)]
theorem sDF_eq (h : tEq T T' L) : ∀ (n : Nat) (p : Int), 0 ≤ p → sDF T L n p = sDF T' L n p
  | 0, _, _ => rfl
  | n + 1, p, hp => by
    unfold sDF
    by_cases c : p < L ∧ 48 ≤ T p ∧ T p ≤ 57
    · rw [if_pos c, if_pos ⟨c.1, (h p hp c.1).2.1.mp c.2⟩, sDF_eq h n (p + 1) (by omega)]
    · rw [if_neg c, if_neg (fun e => c ⟨e.1, (h p hp e.1).2.1.mpr e.2⟩)]
theorem sWF_eq (h : tEq T T' L) : ∀ (n : Nat) (p : Int), 0 ≤ p → sWF T L n p = sWF T' L n p
  | 0, _, _ => rfl
  | n + 1, p, hp => by
    unfold sWF
    by_cases c : p < L ∧ 97 ≤ T p ∧ T p ≤ 122
    · rw [if_pos c, if_pos ⟨c.1, (h p hp c.1).2.2.1.mp c.2⟩, sWF_eq h n (p + 1) (by omega)]
    · rw [if_neg c, if_neg (fun e => c ⟨e.1, (h p hp e.1).2.2.1.mpr e.2⟩)]
theorem sB_eq (h : tEq T T' L) (hp : 0 ≤ p) : sB T L p = sB T' L p := sBF_eq h _ p hp
theorem sD_eq (h : tEq T T' L) (hp : 0 ≤ p) : sD T L p = sD T' L p := sDF_eq h _ p hp
theorem sW_eq (h : tEq T T' L) (hp : 0 ≤ p) : sW T L p = sW T' L p := sWF_eq h _ p hp
theorem sBF_b : ∀ (n : Nat) (p : Int), (L - p).toNat = n → p ≤ sBF T L n p ∧ (p ≤ L → sBF T L n p ≤ L)
  | 0, p, _ => ⟨Int.le_refl _, fun h => h⟩
  | n + 1, p, e => by
    unfold sBF
    split
    · rename_i c
      have h := sBF_b n (p + 1) (by omega)
      exact ⟨by omega, fun _ => h.2 (by omega)⟩
    · exact ⟨Int.le_refl _, fun h => h⟩
theorem sDF_b : ∀ (n : Nat) (p : Int), (L - p).toNat = n → p ≤ sDF T L n p ∧ (p ≤ L → sDF T L n p ≤ L)
  | 0, p, _ => ⟨Int.le_refl _, fun h => h⟩
  | n + 1, p, e => by
    unfold sDF
    split
    · rename_i c
      have h := sDF_b n (p + 1) (by omega)
      exact ⟨by omega, fun _ => h.2 (by omega)⟩
    · exact ⟨Int.le_refl _, fun h => h⟩
theorem sWF_b : ∀ (n : Nat) (p : Int), (L - p).toNat = n → p ≤ sWF T L n p ∧ (p ≤ L → sWF T L n p ≤ L)
  | 0, p, _ => ⟨Int.le_refl _, fun h => h⟩
  | n + 1, p, e => by
    unfold sWF
    split
    · rename_i c
      have h := sWF_b n (p + 1) (by omega)
      exact ⟨by omega, fun _ => h.2 (by omega)⟩
    · exact ⟨Int.le_refl _, fun h => h⟩
theorem sB_b (T : Int → Int) (L p : Int) : p ≤ sB T L p ∧ (p ≤ L → sB T L p ≤ L) := sBF_b _ p rfl
theorem sD_b (T : Int → Int) (L p : Int) : p ≤ sD T L p ∧ (p ≤ L → sD T L p ≤ L) := sDF_b _ p rfl
theorem sW_b (T : Int → Int) (L p : Int) : p ≤ sW T L p ∧ (p ≤ L → sW T L p ≤ L) := sWF_b _ p rfl
/-- the number of the digits s .. s + n, as the program takes it and as the reference does -/
def nCF (T : Int → Int) (s : Int) : Nat → Int
  | 0 => 0
  | n + 1 => min (nCF T s n * 10 + T (s + n) - 48) 1000000
def nRF (T : Int → Int) (s : Int) : Nat → Int
  | 0 => 0
  | n + 1 => if 100000 < nRF T s n then nRF T s n else 10 * nRF T s n + T (s + n) - 48
def nC (T : Int → Int) (s q : Int) : Int := nCF T s (q - s).toNat
def nR (T : Int → Int) (s q : Int) : Int := nRF T s (q - s).toNat
theorem nC_0 (T : Int → Int) (s : Int) : nC T s s = 0 := by
  unfold nC
  rw [show (s - s).toNat = 0 by omega, nCF]
theorem nR_0 (T : Int → Int) (s : Int) : nR T s s = 0 := by
  unfold nR
  rw [show (s - s).toNat = 0 by omega, nRF]
theorem nC_go {s : Int} (h : s ≤ q) : nC T s (q + 1) = min (nC T s q * 10 + T q - 48) 1000000 := by
  unfold nC
  rw [show (q + 1 - s).toNat = (q - s).toNat + 1 by omega, nCF, show s + ((q - s).toNat : Int) = q by omega]
theorem nR_go {s : Int} (h : s ≤ q) : nR T s (q + 1) = if 100000 < nR T s q then nR T s q else 10 * nR T s q + T q - 48 := by
  unfold nR
  rw [show (q + 1 - s).toNat = (q - s).toNat + 1 by omega, nRF, show s + ((q - s).toNat : Int) = q by omega]
/-- the two numbers of the same digits: alike, or both too great -/
theorem n_rel {s : Int} : ∀ (n : Nat), (∀ i, s ≤ i → i < s + n → 48 ≤ T i ∧ T i ≤ 57 ∧ T' i = T i) → (nCF T s n = nRF T' s n ∧ 0 ≤ nCF T s n ∧ nCF T s n ≤ 1000000) ∨ (100000 < nCF T s n ∧ 100000 < nRF T' s n)
  | 0, _ => .inl ⟨rfl, (show (0 : Int) ≤ 0 by decide), (show (0 : Int) ≤ 1000000 by decide)⟩
  | n + 1, h => by
    have hd := h (s + n) (by omega) (by omega)
    have ih := n_rel n (fun i h1 h2 => h i h1 (by omega))
    rw [nCF, nRF, hd.2.2]
    split <;> omega
end
