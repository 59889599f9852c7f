section
variable {ρ : Type} {res : ρ}
theorem x_pure_ex {i : Instr} {n : Nat} {st : List Value} {k : List Value → Option ρ} (h : x_pure i n st k = some res) : ∃ st', k st' = some res := by
  cases i with
  | iconst c => exact ⟨_, (x_push_inv h).2⟩
  | bipush c => exact ⟨_, (x_push_inv h).2⟩
  | sipush c => exact ⟨_, (x_push_inv h).2⟩
  | lconst c => exact ⟨_, (x_push_inv h).2⟩
  | aconst_null => exact ⟨_, (x_push_inv h).2⟩
  | iadd =>
    obtain ⟨-, x, y, r, -, h⟩ := x_ii_inv h
    exact ⟨_, h⟩
  | isub =>
    obtain ⟨-, x, y, r, -, h⟩ := x_ii_inv h
    exact ⟨_, h⟩
  | imul =>
    obtain ⟨-, x, y, r, -, h⟩ := x_ii_inv h
    exact ⟨_, h⟩
  | iand =>
    obtain ⟨-, x, y, r, -, h⟩ := x_ii_inv h
    exact ⟨_, h⟩
  | ior =>
    obtain ⟨-, x, y, r, -, h⟩ := x_ii_inv h
    exact ⟨_, h⟩
  | ixor =>
    obtain ⟨-, x, y, r, -, h⟩ := x_ii_inv h
    exact ⟨_, h⟩
  | ishl =>
    obtain ⟨-, x, y, r, -, h⟩ := x_ii_inv h
    exact ⟨_, h⟩
  | ishr =>
    obtain ⟨-, x, y, r, -, h⟩ := x_ii_inv h
    exact ⟨_, h⟩
  | iushr =>
    obtain ⟨-, x, y, r, -, h⟩ := x_ii_inv h
    exact ⟨_, h⟩
  | idiv =>
    obtain ⟨-, x, y, r, -, -, h⟩ := x_id_inv h
    exact ⟨_, h⟩
  | irem =>
    obtain ⟨-, x, y, r, -, -, h⟩ := x_id_inv h
    exact ⟨_, h⟩
  | ladd =>
    obtain ⟨-, x, y, r, -, h⟩ := x_ll_inv h
    exact ⟨_, h⟩
  | lsub =>
    obtain ⟨-, x, y, r, -, h⟩ := x_ll_inv h
    exact ⟨_, h⟩
  | lmul =>
    obtain ⟨-, x, y, r, -, h⟩ := x_ll_inv h
    exact ⟨_, h⟩
  | land =>
    obtain ⟨-, x, y, r, -, h⟩ := x_ll_inv h
    exact ⟨_, h⟩
  | lor =>
    obtain ⟨-, x, y, r, -, h⟩ := x_ll_inv h
    exact ⟨_, h⟩
  | lxor =>
    obtain ⟨-, x, y, r, -, h⟩ := x_ll_inv h
    exact ⟨_, h⟩
  | ldiv =>
    obtain ⟨-, x, y, r, -, -, h⟩ := x_ld_inv h
    exact ⟨_, h⟩
  | lrem =>
    obtain ⟨-, x, y, r, -, -, h⟩ := x_ld_inv h
    exact ⟨_, h⟩
  | lshl =>
    obtain ⟨-, x, y, r, -, h⟩ := x_li_inv h
    exact ⟨_, h⟩
  | lshr =>
    obtain ⟨-, x, y, r, -, h⟩ := x_li_inv h
    exact ⟨_, h⟩
  | lushr =>
    obtain ⟨-, x, y, r, -, h⟩ := x_li_inv h
    exact ⟨_, h⟩
  | lcmp =>
    obtain ⟨-, x, y, r, -, h⟩ := x_lli_inv h
    exact ⟨_, h⟩
  | ineg =>
    obtain ⟨-, x, r, -, h⟩ := x_i1_inv h
    exact ⟨_, h⟩
  | i2b =>
    obtain ⟨-, x, r, -, h⟩ := x_i1_inv h
    exact ⟨_, h⟩
  | i2s =>
    obtain ⟨-, x, r, -, h⟩ := x_i1_inv h
    exact ⟨_, h⟩
  | i2c =>
    obtain ⟨-, x, r, -, h⟩ := x_i1_inv h
    exact ⟨_, h⟩
  | lneg =>
    obtain ⟨-, x, r, -, h⟩ := x_l1_inv h
    exact ⟨_, h⟩
  | i2l =>
    obtain ⟨-, x, r, -, h⟩ := x_i2_inv h
    exact ⟨_, h⟩
  | l2i =>
    obtain ⟨-, x, r, -, h⟩ := x_l2_inv h
    exact ⟨_, h⟩
  | dup =>
    obtain ⟨-, v, r, -, -, h⟩ := x_s1'_inv h
    exact ⟨_, h⟩
  | pop =>
    obtain ⟨-, v, r, -, -, h⟩ := x_s1'_inv h
    exact ⟨_, h⟩
  | dup_x1 =>
    obtain ⟨-, v, w, r, -, -, -, h⟩ := x_s2'_inv h
    exact ⟨_, h⟩
  | dup2_x1 =>
    obtain ⟨-, v, w, r, -, -, -, h⟩ := x_s2'_inv h
    exact ⟨_, h⟩
  | dup_x2 =>
    obtain ⟨-, v, w, z, r, -, -, -, -, h⟩ := x_s3'_inv h
    exact ⟨_, h⟩
  | dup2_x2 =>
    obtain ⟨-, v, w, z, r, -, -, -, -, h⟩ := x_s3'_inv h
    exact ⟨_, h⟩
  | dup2 =>
    replace h : x_d2 n (fun v r => v :: v :: r) (fun v w r => v :: w :: v :: w :: r) st k = some res := h
    obtain ⟨-, ⟨v, r, -, -, h⟩ | ⟨v, w, r, -, -, -, h⟩⟩ := x_d2_inv h
    · exact ⟨_, h⟩
    · exact ⟨_, h⟩
  | pop2 =>
    replace h : x_d2 n (fun _ r => r) (fun _ _ r => r) st k = some res := h
    obtain ⟨-, ⟨v, r, -, -, h⟩ | ⟨v, w, r, -, -, -, h⟩⟩ := x_d2_inv h
    · exact ⟨_, h⟩
    · exact ⟨_, h⟩
  | _ => exact x_no h
theorem x_loc_ex {i : Instr} {n : Nat} {lv : xL} {st : List Value} {k : xL → List Value → Option ρ} (h : x_loc i n lv st k = some res) : ∃ lv' st', k lv' st' = some res := by
  cases i with
  | iload j =>
    obtain ⟨-, x, -, h⟩ := x_ldi_inv h
    exact ⟨_, _, h⟩
  | iload_n j =>
    obtain ⟨-, x, -, h⟩ := x_ldi_inv h
    exact ⟨_, _, h⟩
  | istore j =>
    obtain ⟨-, x, r, -, h⟩ := x_sti_inv h
    exact ⟨_, _, h⟩
  | istore_n j =>
    obtain ⟨-, x, r, -, h⟩ := x_sti_inv h
    exact ⟨_, _, h⟩
  | lload j =>
    obtain ⟨-, x, -, h⟩ := x_ldl_inv h
    exact ⟨_, _, h⟩
  | lload_n j =>
    obtain ⟨-, x, -, h⟩ := x_ldl_inv h
    exact ⟨_, _, h⟩
  | lstore j =>
    obtain ⟨-, x, r, -, h⟩ := x_stl_inv h
    exact ⟨_, _, h⟩
  | lstore_n j =>
    obtain ⟨-, x, r, -, h⟩ := x_stl_inv h
    exact ⟨_, _, h⟩
  | aload j =>
    obtain ⟨-, ⟨x, -, h⟩ | ⟨-, h⟩⟩ := x_lda_inv h
    · exact ⟨_, _, h⟩
    · exact ⟨_, _, h⟩
  | aload_n j =>
    obtain ⟨-, ⟨x, -, h⟩ | ⟨-, h⟩⟩ := x_lda_inv h
    · exact ⟨_, _, h⟩
    · exact ⟨_, _, h⟩
  | astore j =>
    obtain ⟨-, ⟨x, r, -, h⟩ | ⟨r, -, h⟩⟩ := x_sta_inv h
    · exact ⟨_, _, h⟩
    · exact ⟨_, _, h⟩
  | astore_n j =>
    obtain ⟨-, ⟨x, r, -, h⟩ | ⟨r, -, h⟩⟩ := x_sta_inv h
    · exact ⟨_, _, h⟩
    · exact ⟨_, _, h⟩
  | iinc j z =>
    obtain ⟨-, x, -, h⟩ := x_inc_inv h
    exact ⟨_, _, h⟩
  | _ => exact x_no h
theorem x_c0_ex {c : Jvm.ClassFile.Cond} {x : Int32} {a b : Option ρ} (h : x_c0 c x a b = some res) : a = some res ∨ b = some res := by
  cases c <;> simp only [x_c0] at h <;> split at h <;> first | exact .inl h | exact .inr h
theorem x_c2_ex {c : Jvm.ClassFile.Cond} {x y : Int32} {a b : Option ρ} (h : x_c2 c x y a b = some res) : a = some res ∨ b = some res := by
  cases c <;> simp only [x_c2] at h <;> split at h <;> first | exact .inl h | exact .inr h
theorem x_br_ex {i : Instr} {n pc : Nat} {st : List Value} {k : Nat → List Value → Option ρ} (h : x_br i n pc st k = some res) : ∃ pc' st', k pc' st' = some res := by
  cases i with
  | goto off =>
    simp only [x_br] at h
    split at h
    · obtain ⟨t, -, h⟩ := x_to_inv h
      exact ⟨_, _, h⟩
    · exact x_no h
  | ifCond z off =>
    simp only [x_br] at h
    split at h
    · split at h
      · obtain ⟨t, -, h⟩ := x_to_inv h
        rcases x_c0_ex h with h | h <;> exact ⟨_, _, h⟩
      · exact x_no h
    · exact x_no h
  | if_icmp z off =>
    simp only [x_br] at h
    split at h
    · split at h
      · obtain ⟨t, -, h⟩ := x_to_inv h
        rcases x_c2_ex h with h | h <;> exact ⟨_, _, h⟩
      · exact x_no h
    · exact x_no h
  | ifnull off =>
    simp only [x_br] at h
    split at h
    · split at h
      · obtain ⟨t, -, h⟩ := x_to_inv h
        exact ⟨_, _, h⟩
      · exact x_no h
    · split at h
      · exact ⟨_, _, h⟩
      · exact x_no h
    · exact x_no h
  | ifnonnull off =>
    simp only [x_br] at h
    split at h
    · split at h
      · exact ⟨_, _, h⟩
      · exact x_no h
    · split at h
      · obtain ⟨t, -, h⟩ := x_to_inv h
        exact ⟨_, _, h⟩
      · exact x_no h
    · exact x_no h
  | tableswitch dflt lo hi offs =>
    simp only [x_br] at h
    split at h
    · split at h
      · obtain ⟨t, -, h⟩ := x_to_inv h
        exact ⟨_, _, h⟩
      · split at h
        · obtain ⟨t, -, h⟩ := x_to_inv h
          exact ⟨_, _, h⟩
        · exact x_no h
    · exact x_no h
  | lookupswitch dflt ps =>
    simp only [x_br] at h
    split at h
    · split at h
      · obtain ⟨t, -, h⟩ := x_to_inv h
        exact ⟨_, _, h⟩
      · exact x_no h
    · exact x_no h
  | _ => exact x_no h
theorem x_heap_ex {scr : xZ} {df : Nat → List Value} {x : xI} {pc : Nat} {st : List Value} {u : List xC} {k : Nat → List Value → List xC → Option ρ} (h : x_heap scr df x pc st u k = some res) : ∃ pc' st' u', k pc' st' u' = some res ∧ u.length ≤ u'.length ∧ x_sz u ≤ x_sz u' := by
  obtain ⟨i, n, q, cst⟩ := x
  cases i with
  | getfield idx =>
    dsimp only [x_heap] at h
    obtain ⟨-, p0, r, fs, v, -, -, -, h⟩ := x_gf_inv h
    exact ⟨_, _, _, h, Nat.le_refl _, Nat.le_refl _⟩
  | putfield idx =>
    dsimp only [x_heap] at h
    obtain ⟨-, p0, r, fs, v, -, h1, -, h⟩ := x_pf_inv h
    exact ⟨_, _, _, (x_fit_inv h).1, by rw [List.length_set]; exact Nat.le_refl _, by rw [x_sz_set _ _ _ _ h1 (by simp [x_sz1])]; exact Nat.le_refl _⟩
  | iaload =>
    dsimp only [x_heap] at h
    obtain ⟨-, ⟨i, p0, r, -, -, -, h⟩ | ⟨i, p0, r, N, f, -, -, -, h⟩⟩ := x_ial_inv h
    · exact ⟨_, _, _, h, Nat.le_refl _, Nat.le_refl _⟩
    · exact ⟨_, _, _, h, Nat.le_refl _, Nat.le_refl _⟩
  | laload =>
    dsimp only [x_heap] at h
    obtain ⟨-, i, p0, r, N, f, -, -, -, h⟩ := x_lal_inv h
    exact ⟨_, _, _, h, Nat.le_refl _, Nat.le_refl _⟩
  | baload =>
    dsimp only [x_heap] at h
    obtain ⟨-, ty, i, p0, r, N, f, -, -, -, -, h⟩ := x_bal_inv h
    exact ⟨_, _, _, h, Nat.le_refl _, Nat.le_refl _⟩
  | iastore =>
    dsimp only [x_heap] at h
    obtain ⟨-, z, i, p0, r, N, f, -, h1, -, h⟩ := x_ias_inv h
    exact ⟨_, _, _, h, by rw [List.length_set]; exact Nat.le_refl _, Nat.le_of_eq (Eq.symm (x_sz_set _ _ _ _ h1 rfl))⟩
  | lastore =>
    dsimp only [x_heap] at h
    obtain ⟨-, z, i, p0, r, N, f, -, h1, -, h⟩ := x_las_inv h
    exact ⟨_, _, _, h, by rw [List.length_set]; exact Nat.le_refl _, Nat.le_of_eq (Eq.symm (x_sz_set _ _ _ _ h1 rfl))⟩
  | bastore =>
    dsimp only [x_heap] at h
    obtain ⟨-, ty, z, i, p0, r, N, f, -, -, h1, -, h⟩ := x_bas_inv h
    exact ⟨_, _, _, h, by rw [List.length_set]; exact Nat.le_refl _, Nat.le_of_eq (Eq.symm (x_sz_set _ _ _ _ h1 rfl))⟩
  | arraylength =>
    dsimp only [x_heap] at h
    obtain ⟨-, ⟨p0, r, -, -, h⟩ | ⟨p0, r, ty, a, -, -, h⟩⟩ := x_alen_inv h
    · exact ⟨_, _, _, h, Nat.le_refl _, Nat.le_refl _⟩
    · exact ⟨_, _, _, h, Nat.le_refl _, Nat.le_refl _⟩
  | new idx =>
    simp only [x_heap] at h
    split at h
    · exact ⟨_, _, _, h, by simp, by rw [x_sz_app]; omega⟩
    · exact x_no h
  | newarray t =>
    dsimp only [x_heap] at h
    obtain ⟨-, z, r, -, -, -, h⟩ := x_na_inv h
    obtain ⟨a, -, -, -, -, -, h⟩ := x_zero_inv h
    exact ⟨_, _, _, h, by simp, by rw [x_sz_app]; omega⟩
  | ldc idx =>
    simp only [x_heap] at h
    split at h
    · exact ⟨_, _, _, h, Nat.le_refl _, Nat.le_refl _⟩
    · exact x_no h
  | ldc_w idx =>
    simp only [x_heap] at h
    split at h
    · exact ⟨_, _, _, h, Nat.le_refl _, Nat.le_refl _⟩
    · exact x_no h
  | getstatic idx =>
    simp only [x_heap] at h
    split at h
    · exact ⟨_, _, _, h, Nat.le_refl _, Nat.le_refl _⟩
    · exact x_no h
  | ldc2_w idx =>
    simp only [x_heap] at h
    split at h
    · exact ⟨_, _, _, h, Nat.le_refl _, Nat.le_refl _⟩
    · exact x_no h
  | _ => exact x_no h
theorem x_ma_ex {t : Nat} {st : List Value} {k : List Value → Option ρ} (h : x_ma t st k = some res) : ∃ st', k st' = some res := by
  unfold x_ma at h
  repeat' split at h
  all_goals first | exact x_no h | exact ⟨_, h⟩
theorem x_tx_ex {scr : xZ} {t : Nat} {st : List Value} {k : List Value → Option ρ} (h : x_tx scr t st k = some res) : ∃ st', k st' = some res := by
  rcases x_tx_inv h with ⟨-, p0, r, -, -, -, h⟩ | ⟨-, i, p0, r, -, -, -, -, h⟩
  · exact ⟨_, h⟩
  · exact ⟨_, h⟩
end
theorem x_ret_u {i : Instr} {n : Nat} {ty : Option FieldType} {st : List Value} {u : List xC} {res : xR} (h : x_ret i n ty st u = some res) : res.2 = u := by
  cases i with
  | ireturn =>
    simp only [x_ret] at h
    split at h
    · split at h
      · cases h; rfl
      · exact x_no h
    · split at h
      · split at h
        · cases h; rfl
        · exact x_no h
      · exact x_no h
    · exact x_no h
  | lreturn =>
    simp only [x_ret] at h
    split at h
    · split at h
      · cases h; rfl
      · exact x_no h
    · exact x_no h
  | areturn =>
    simp only [x_ret] at h
    split at h
    · split at h
      · cases h; rfl
      · exact x_no h
    · split at h
      · cases h; rfl
      · exact x_no h
    · exact x_no h
  | return_ =>
    simp only [x_ret] at h
    split at h
    · split at h
      · cases h; rfl
      · exact x_no h
    · exact x_no h
  | _ => exact x_no h
/-- a run over the cells never has fewer of them -/
theorem x_exec_len {scr : xZ} {df : Nat → List Value} {P : Nat → Option xM} : ∀ (n d j pc : Nat) (lv : xL) (st : List Value) (u : List xC) (res : xR), x_exec scr df P n d j pc lv st u = some res → u.length ≤ res.2.length ∧ x_sz u ≤ x_sz res.2
  | 0, _, _, _, _, _, _, _, h => x_no h
  | n + 1, d, j, pc, lv, st, u, res, h => by
    have ih := x_exec_len (scr := scr) (df := df) (P := P) n
    unfold x_exec at h
    split at h
    · split at h
      · rename_i M _ _ x _
        unfold x_step at h
        split at h
        · obtain ⟨st', h⟩ := x_pure_ex h
          exact ih _ _ _ _ _ _ _ h
        · obtain ⟨lv', st', h⟩ := x_loc_ex h
          exact ih _ _ _ _ _ _ _ h
        · obtain ⟨pc', st', h⟩ := x_br_ex h
          exact ih _ _ _ _ _ _ _ h
        · obtain ⟨pc', st', u', h, h1, h2⟩ := x_heap_ex h
          obtain ⟨h3, h4⟩ := ih _ _ _ _ _ _ _ h
          exact ⟨Nat.le_trans h1 h3, Nat.le_trans h2 h4⟩
        · rcases Nat.lt_or_ge x.2.2.1.2.2.1 7 with hq | hq
          · obtain ⟨-, ⟨-, -, p0, r, -, -, h⟩ | ⟨-, As, r, z, -, -, -, hc, h⟩ | ⟨-, -, As, p0, r, fs, z, -, -, -, -, hc, h⟩⟩ := x_inv_inv (by omega) h
            · exact ih _ _ _ _ _ _ _ h
            · obtain ⟨h3, h4⟩ := ih _ _ _ _ _ _ _ h
              split at hc
              · exact x_no hc
              · split at hc
                · split at hc
                  · obtain ⟨h1, h2⟩ := ih _ _ _ _ _ _ _ hc
                    exact ⟨Nat.le_trans h1 h3, Nat.le_trans h2 h4⟩
                  · exact x_no hc
                · exact x_no hc
            · obtain ⟨h3, h4⟩ := ih _ _ _ _ _ _ _ h
              split at hc
              · exact x_no hc
              · split at hc
                · split at hc
                  · obtain ⟨h1, h2⟩ := ih _ _ _ _ _ _ _ hc
                    exact ⟨Nat.le_trans h1 h3, Nat.le_trans h2 h4⟩
                  · exact x_no hc
                · exact x_no hc
          · obtain ⟨-, -, ⟨-, h⟩ | ⟨-, -, h⟩ | ⟨-, h⟩⟩ := x_bi_inv hq h
            · obtain ⟨nn, dp, p1, sp, p0, r, -, -, -, -, ⟨N1, g, N0, f, hu1, -, -, -, h⟩ | ⟨N1, g, N0, f, p2, hu1, -, -, -, -, h⟩⟩ := x_cp_inv h
              · obtain ⟨h3, h4⟩ := ih _ _ _ _ _ _ _ (x_low_inv h).2
                rw [List.length_set] at h3
                refine ⟨h3, Nat.le_trans (Nat.le_of_eq (Eq.symm (x_sz_set _ _ _ _ hu1 ?_))) h4⟩; rfl
              · obtain ⟨h3, h4⟩ := ih _ _ _ _ _ _ _ (x_low_inv h).2
                rw [List.length_set] at h3
                refine ⟨h3, Nat.le_trans (Nat.le_of_eq (Eq.symm (x_sz_set _ _ _ _ hu1 ?_))) h4⟩; rfl
            · obtain ⟨st', h⟩ := x_tx_ex h
              exact ih _ _ _ _ _ _ _ (x_low_inv h).2
            · obtain ⟨st', h⟩ := x_ma_ex h
              exact ih _ _ _ _ _ _ _ (x_low_inv h).2
        · rw [x_ret_u h]
          exact ⟨Nat.le_refl _, Nat.le_refl _⟩
      · exact x_no h
    · exact x_no h
/-- what must be known of the whole program -/
def x_OK (os : xT) (cL cC : ByteArray) (T : List Jvm.Cond) (cl : List vw_C) (tyf : Nat → Nat → FieldType) (tyl : List FieldType) (df : Nat → List Value) (P : Nat → Option xM) (K : Nat) : Prop :=
  (∀ w ∈ T, (w.onTables && w.keeps) = true ∨ ∃ ty, w = .arrayClass ty) ∧ x_CL T cl tyf df ∧ 30 ≤ K ∧ (∀ (j : Nat) (M : xM), P j = some M → M.2.2.1 + 19 ≤ K ∧ plainName M.1.cls = true ∧ ∀ (pc : Nat) (x : xI), M.2.2.2.2 pc = some x → x_okI os cL cC T cl tyf tyl P M pc x)
set_option maxHeartbeats 8000000 in
/-- THE SOUND ROW: where the run over the cells ends, the machine comes to its end with these cells -/
theorem x_sound {l : Launch} {os : xT} {cL cC : ByteArray} {T : List Jvm.Cond} {D : va_G} {cl : List vw_C} {tyf : Nat → Nat → FieldType} {tyl : List FieldType} {ca : FieldType → ClassId} {b0 : Nat → Nat} {b : Nat} {scr : xZ} {df : Nat → List Value} {P : Nat → Option xM} {K : Nat} (hOK : x_OK os cL cC T cl tyf tyl df P K) (hSt : x_St os l T K D cl tyl ca b0 b scr cL cC) :
    ∀ (n d j : Nat) (M : xM), P j = some M → ∀ (p : Program) (e : Env) (R : Room) (s : State) (m : MethodId) (args : Array Value) (below : List Frame) (meth : Method) (c : Code) (Q : State → Prop) (u0 : List xC) (res : xR),
      x_Fix os T D cl tyl ca b0 b scr u0 M p s m args meth c → d ≤ R.frames → d * K ≤ R.locals → res.2.length ≤ R.cells + u0.length → x_sz res.2 ≤ R.slots + x_sz u0 →
      (∀ (i : Instr) (k pc : Nat) (st : List Value) (u : List xC) (H : Heap) (locs : List Loc) (cells slots : Nat) (ls : Array Slot), decode M.2.1 pc = .ok (i, k) → x_ret i k M.2.2.2.1 st u = some res → x_Inv D cl tyl ca b0 b s u0 u H locs cells slots → W p l e R s m args below meth c H locs cells slots Q (F0 m pc ls (st.map (x_v b0 b)))) →
      ∀ (pc : Nat) (lv : xL) (st : List Value) (u : List xC) (H : Heap) (locs : List Loc) (cells slots : Nat) (ls : Array Slot), x_exec scr df P n d j pc lv st u = some res → x_Inv D cl tyl ca b0 b s u0 u H locs cells slots → lv_has ls M.2.2.1 (x_lv b0 b lv) →
        W p l e R s m args below meth c H locs cells slots Q (F0 m pc ls (st.map (x_v b0 b)))
  | 0, _, _, _, _, _, _, _, _, _, _, _, _, _, _, _, _, _, _, _, _, _, _, _, _, _, _, _, _, _, _, _, h, _, _ => x_no h
  | n + 1, d, j, M, hM, p, e, R, s, m, args, below, meth, c, Q, u0, res, hF, hR1, hR2, hR3, hR4, hret, pc, lv, st, u, H, locs, cells, slots, ls, h, hI, hl => by
    have ih := x_sound (l := l) (D := D) (ca := ca) (scr := scr) hOK hSt n
    obtain ⟨hT, hCL, hK20, hPM⟩ := hOK
    obtain ⟨-, -, hcodes⟩ := hPM j M hM
    have hgo : ∀ (pc' : Nat) (lv' : xL) (st' : List Value) (u' : List xC) (H' : Heap) (locs' : List Loc) (cells' slots' : Nat) (ls' : Array Slot), x_exec scr df P n d j pc' lv' st' u' = some res → x_Inv D cl tyl ca b0 b s u0 u' H' locs' cells' slots' → lv_has ls' M.2.2.1 (x_lv b0 b lv') → W p l e R s m args below meth c H' locs' cells' slots' Q (F0 m pc' ls' (st'.map (x_v b0 b))) :=
      fun pc' lv' st' u' H' locs' cells' slots' ls' h' hI' hl' => ih d j M hM p e R s m args below meth c Q u0 res hF hR1 hR2 hR3 hR4 hret pc' lv' st' u' H' locs' cells' slots' ls' h' hI' hl'
    have hroom : ∀ (lv : xL) (pc' : Nat) (st' : List Value) (u' : List xC), x_exec scr df P n d j pc' lv st' u' = some res → u'.length ≤ R.cells + u0.length ∧ x_sz u' ≤ R.slots + x_sz u0 := by
      intro lv pc' st' u' h'
      obtain ⟨h1, h2⟩ := x_exec_len _ _ _ _ _ _ _ _ h'
      exact ⟨Nat.le_trans h1 hR3, Nat.le_trans h2 hR4⟩
    have hx := hF.1
    have hb := hF.2.1
    unfold x_exec at h
    rw [hM] at h
    dsimp only at h
    split at h
    · rename_i x hx0
      have hok := hcodes pc x hx0
      have hlc := x_cut_has x.2.2.2.2 hl
      unfold x_step at h
      split at h
      · exact x_pure_ok hx hb b0 b hok.1 h (fun st' h' => hgo _ _ _ _ _ _ _ _ _ h' hI hlc)
      · exact x_loc_ok hx hb b0 b hlc hok.1 hok.2.1 h (fun ls' lv' st' hl' h' => hgo _ _ _ _ _ _ _ _ _ h' hI hl')
      · exact x_br_ok hx hb b0 b hok.1 h (fun pc' st' h' => hgo _ _ _ _ _ _ _ _ _ h' hI hlc)
      · exact x_heap_ok hCL hF hok hI h (hroom _) (fun pc' st' u' H' locs' cells' slots' h' hI' => hgo _ _ _ _ _ _ _ _ _ h' hI' hlc)
      · rename_i hki
        rcases Nat.lt_or_ge x.2.2.1.2.2.1 7 with hq7 | hq7
        case inr => exact x_bi_ok hT hK20 hSt hF hok hki hq7 hI hl.1 hR1 hR2 h (hroom _) (fun pc' st' u' H' locs' cells' slots' h' hI' => hgo _ _ _ _ _ _ _ _ _ h' hI' hlc)
        refine x_inv_ok (K := K) (d := d) hT (fun j' M' h' => (hPM j' M' h').1) (by omega) ?_ hF hok hki (by omega) hI hl.1 hR1 hR2 h (hroom _) (fun pc' st' u' H' locs' cells' slots' h' hI' => hgo _ _ _ _ _ _ _ _ _ h' hI' hlc)
        intro j' As u' z M' hc hM' hu'
        split at hc
        · exact x_no hc
        · rename_i d'
          rw [hM'] at hc
          dsimp only at hc
          split at hc
          · rename_i hcat
            obtain ⟨h1, h2⟩ := x_exec_len _ _ _ _ _ _ _ _ hc
            refine ⟨d', rfl, h1, h2, ?_⟩
            refine Met.ofW (cc := M'.2.1) (maxL := M'.2.2.1) (ret := M'.2.2.2.1) (hPM j' M' hM').2.1 rfl ?_
            intro p e s m args below meth c s₁ B hml hv
            obtain ⟨rfl, hsz, hP, hK, hX⟩ := hv
            have hts := atoms_spec (ws := x_w T M') B.pre
            have hl' := lv_entry (As.map (x_v b0 b)) (n := M'.2.2.1) (by rw [x_sl_len, x_cats]; exact hcat)
            rw [lg_entry_eq]
            generalize (lg_sl (As.map (x_v b0 b)) ++ List.replicate (M'.2.2.1 - (lg_sl (As.map (x_v b0 b))).length) Slot.unset).toArray = ls at hl' ⊢
            rw [x_lv_args] at hl'
            have hF' : x_Fix os T D cl tyl ca b0 b scr u' M' p s m (As.map (x_v b0 b)).toArray meth c := ⟨B.exec, B.bytes, hml, B.returns, (name_of_methodNamed B.named B.method).1, findClass_of_methodNamed B.named, fun w hw => hts w (List.mem_cons_of_mem _ hw), hK, hX, hsz, B.notSynchronized⟩
            refine ih d' j' M' hM' p e (x_rm K d' (z.2.length - u'.length) (x_sz z.2 - x_sz u')) s m _ below meth c _ u' z hF' (Nat.le_refl _) (Nat.le_refl _) (by show z.2.length ≤ z.2.length - u'.length + u'.length; omega) (by show x_sz z.2 ≤ x_sz z.2 - x_sz u' + x_sz u'; omega) ?_ 0 (lv_args 0 As) [] u' s.heap [] 0 0 ls hc ⟨hP, va_S.rf, by omega, by omega, hu'⟩ hl'
            intro i k pc st u H locs cells slots ls hd hr hI'
            have e1 : res.2 = res.2 := rfl
            have e2 := x_ret_u hr
            obtain ⟨-, -, g1, g2, -⟩ := id hI'
            have g3 : z.2.length - u'.length = cells := by rw [e2]; omega
            have g4 : x_sz z.2 - x_sz u' = slots := by rw [e2]; omega
            rw [g3, g4]
            exact x_ret_ok hF' hI' hd hr
          · exact x_no hc
      · exact hret _ _ _ _ _ _ _ _ _ _ hok.1 h hI
    · exact x_no h

