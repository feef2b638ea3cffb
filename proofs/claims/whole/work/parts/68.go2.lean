section GO2
variable {σ m u : Mm} {S T T' : Nat → Int32} {w a b : Int32}
theorem pn_iff (hv : Inv T) {k y : Nat} (hk : k < 8) (hy : y < sn T) (e : T (123 + k) = nI y) : (T (123 + k) ≠ mN ∧ T (15 + (T (123 + k)).toNatClampNeg) = nI 2) = (T (15 + y) = nI 2) := by
  have n10 := iv_n10 hv
  rw [e, nI_clamp (by omega)]
  exact propext ⟨fun q => q.2, fun q => ⟨hq_ne (n := y) (by omega), q⟩⟩
theorem md_pawnE (hv : Inv T) (hu : u.1 171 = T) {k y : Nat} (hk : k < 8) (hy : y < sn T) (e : T (123 + k) = nI y) : f_Mod_isPawned z_Law u 169 (nI k) = some (if T (15 + y) = nI 2 then nI 1 else nI 0) := by
  rw [md_pawn hv hu hk]
  simp only [pn_iff hv hk hy e]
theorem step_exch (hv : Inv T) {k j : Nat} (hk : k < sm T) (hj : j < sm T) (h1 : ∀ m f1 f2, IR m 61 T → HR m 19 T → (w ≠ nI 5 → f1 = nI k) → (w ≠ nI 5 → w ≠ nI 2 → f2 = nI j) → f_Hands_doLine z_Law m 19 61 (bkw w) f1 f2 = some (nI 0, kI (kI m 21 k (T (123 + j))) 21 j (T (123 + k)))) (h2 : ∀ u : Mm, u.1 171 = T → f_Mod_does z_Law u 169 w (nI k) (nI j) = some (nI 0, kI (kI u 171 (123 + k) (T (123 + j))) 171 (123 + j) (T (123 + k)))) : ∃ code T', sOK T w (nI k) (nI j) code T' := by
  have m8 := iv_m8 hv
  refine ⟨0, sw T k j, fun m f1 f2 hI hH e1 e2 => ⟨_, h1 m f1 f2 hI hH e1 e2, hr_exch (d := 19) hH, fun q q1 q2 q3 q4 => by rw [kI_o _ _ _ _ q1, kI_o _ _ _ _ q1], rfl⟩, fun u hu => ⟨_, h2 u hu, ms_exch hu, fun q q1 _ _ => by rw [kI_o _ _ _ _ q1, kI_o _ _ _ _ q1], rfl⟩, sw_Inv hv hk hj, fun i h => sw_o (by omega) (by omega), by omega⟩
theorem step_swap (hv : Inv T) {k j : Nat} (hk : k < sm T) (hj : j < sm T) : ∃ code T', sOK T (nI 0) (nI k) (nI j) code T' := by
  have m8 := iv_m8 hv
  have n10 := iv_n10 hv
  have lit : ∀ {f1 f2 : Int32}, ((nI 0 : Int32) ≠ nI 5 → f1 = nI k) → ((nI 0 : Int32) ≠ nI 5 → (nI 0 : Int32) ≠ nI 2 → f2 = nI j) → f1 = nI k ∧ f2 = nI j := fun e1 e2 => ⟨e1 (by decide), e2 (by decide) (by decide)⟩
  by_cases hkj : k = j
  · subst hkj
    refine ⟨1, T, so_no hv (by omega) (fun m f1 f2 hI hH e1 e2 => ?_) (fun u hu => ?_)⟩
    · obtain ⟨rfl, rfl⟩ := lit e1 e2
      rw [bkw_0]
      unfold f_Hands_doLine f_Hands_doSwap
      simp (disch := omega) only [fl, fmN, mm_lt, Nat.reduceAdd, Option.bind_some, lt_t, lt_f, le_t, le_f, eq_f, eq_self, nI_add, nI_mul, nI_sub, ↓reduceIte]
    · unfold f_Mod_does
      simp (disch := omega) only [fl, fmN, mm_lt, Nat.reduceAdd, Option.bind_some, lt_t, lt_f, le_t, le_f, eq_f, eq_self, nI_add, nI_mul, nI_sub, ↓reduceIte, zq_171, ld_nI, hu, ite_self]
  · rcases iv_held hv k (by omega) with e | ⟨x, hx, e⟩
    · refine ⟨1, T, so_no hv (by omega) (fun m f1 f2 hI hH e1 e2 => ?_) (fun u hu => ?_)⟩
      · obtain ⟨rfl, rfl⟩ := lit e1 e2
        rw [bkw_0]
        unfold f_Hands_doLine f_Hands_doSwap
        simp (disch := omega) only [fl, fmN, mm_lt, Nat.reduceAdd, Option.bind_some, lt_t, lt_f, le_t, le_f, eq_f, eq_self, nI_add, nI_mul, nI_sub, ↓reduceIte, hd_held HZ_19 hH, e]
      · unfold f_Mod_does
        simp (disch := omega) only [fl, fmN, mm_lt, Nat.reduceAdd, Option.bind_some, lt_t, lt_f, le_t, le_f, eq_f, eq_self, nI_add, nI_mul, nI_sub, ↓reduceIte, zq_171, ld_nI, hu, e]
        rw [if_pos (by decide)]
    · rcases iv_held hv j (by omega) with e' | ⟨y, hy, e'⟩
      · refine ⟨1, T, so_no hv (by omega) (fun m f1 f2 hI hH e1 e2 => ?_) (fun u hu => ?_)⟩
        · obtain ⟨rfl, rfl⟩ := lit e1 e2
          rw [bkw_0]
          unfold f_Hands_doLine f_Hands_doSwap
          simp (disch := omega) only [fl, fmN, mm_lt, Nat.reduceAdd, Option.bind_some, lt_t, lt_f, le_t, le_f, eq_f, eq_self, nI_add, nI_mul, nI_sub, ↓reduceIte, hd_held HZ_19 hH, e, e', mN_ne]
        · unfold f_Mod_does
          simp (disch := omega) only [fl, fmN, mm_lt, Nat.reduceAdd, Option.bind_some, lt_t, lt_f, le_t, le_f, eq_f, eq_self, nI_add, nI_mul, nI_sub, ↓reduceIte, zq_171, ld_nI, hu, e, e']
          unfold f_Mod_does_J180
          simp (disch := omega) only [fl, fmN, mm_lt, Nat.reduceAdd, Option.bind_some, lt_t, lt_f, le_t, le_f, eq_f, eq_self, nI_add, nI_mul, nI_sub, ↓reduceIte, zq_171, ld_nI, hu, e, e']
          rw [if_pos (by decide)]
      · by_cases p1 : T (15 + x) = nI 2
        · refine ⟨2, T, so_no hv (by omega) (fun m f1 f2 hI hH e1 e2 => ?_) (fun u hu => ?_)⟩
          · obtain ⟨rfl, rfl⟩ := lit e1 e2
            rw [bkw_0]
            unfold f_Hands_doLine f_Hands_doSwap
            simp (disch := omega) only [fl, fmN, mm_lt, Nat.reduceAdd, Option.bind_some, lt_t, lt_f, le_t, le_f, eq_f, eq_self, nI_add, nI_mul, nI_sub, ↓reduceIte, hd_held HZ_19 hH, e, e', mN_ne, is_pawn IZ_61 hI, if_pos p1]
          · unfold f_Mod_does
            simp (disch := omega) only [fl, fmN, mm_lt, Nat.reduceAdd, Option.bind_some, lt_t, lt_f, le_t, le_f, eq_f, eq_self, nI_add, nI_mul, nI_sub, ↓reduceIte, zq_171, ld_nI, hu, md_pawnE hv hu (by omega : k < 8) hx e, fl_ite, if_pos p1, e, e']
            unfold f_Mod_does_J180
            simp (disch := omega) only [fl, fmN, mm_lt, Nat.reduceAdd, Option.bind_some, lt_t, lt_f, le_t, le_f, eq_f, eq_self, nI_add, nI_mul, nI_sub, ↓reduceIte, zq_171, ld_nI, hu, md_pawnE hv hu (by omega : k < 8) hx e, fl_ite, if_pos p1, e, e']
            unfold f_Mod_does_J196
            simp (disch := omega) only [fl, fmN, mm_lt, Nat.reduceAdd, Option.bind_some, lt_t, lt_f, le_t, le_f, eq_f, eq_self, nI_add, nI_mul, nI_sub, ↓reduceIte, zq_171, ld_nI, hu, md_pawnE hv hu (by omega : k < 8) hx e, fl_ite, if_pos p1, e, e']
            unfold f_Mod_does_J215
            simp (disch := omega) only [fl, fmN, mm_lt, Nat.reduceAdd, Option.bind_some, lt_t, lt_f, le_t, le_f, eq_f, eq_self, nI_add, nI_mul, nI_sub, ↓reduceIte, zq_171, ld_nI, hu, md_pawnE hv hu (by omega : k < 8) hx e, fl_ite, if_pos p1, e, e']
        · sorry
end GO2
