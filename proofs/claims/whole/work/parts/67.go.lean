/-! the BOOK, LINE by LINE -/
section GO
variable {σ m u : Mm} {S T T' : Nat → Int32} {w a b : Int32}
def sOK (T : Nat → Int32) (w a b : Int32) (code : Nat) (T' : Nat → Int32) : Prop :=
  (∀ m f1 f2, IR m 61 T → HR m 19 T → (w ≠ nI 5 → f1 = a) → (w ≠ nI 5 → w ≠ nI 2 → f2 = b) → ∃ m1, f_Hands_doLine z_Law m 19 61 (bkw w) f1 f2 = some (nI code, m1) ∧ HR m1 19 T' ∧ (∀ q, q ≠ 21 → q ≠ 23 → q ≠ 25 → q ≠ 27 → m1.1 q = m.1 q) ∧ m1.2 = m.2)
  ∧ (∀ u : Mm, u.1 171 = T → ∃ u', f_Mod_does z_Law u 169 w a b = some (nI code, u') ∧ u'.1 171 = T' ∧ (∀ q, q ≠ 171 → q ≠ 178 → q ≠ 179 → u'.1 q = u.1 q) ∧ u'.2 = u.2)
  ∧ Inv T' ∧ (∀ i, (i < 115 ∨ 131 ≤ i) → T' i = T i) ∧ code ≤ 6
theorem so_no (hv : Inv T) {code : Nat} (hc : code ≤ 6) (h1 : ∀ m f1 f2, IR m 61 T → HR m 19 T → (w ≠ nI 5 → f1 = a) → (w ≠ nI 5 → w ≠ nI 2 → f2 = b) → f_Hands_doLine z_Law m 19 61 (bkw w) f1 f2 = some (nI code, m)) (h2 : ∀ u : Mm, u.1 171 = T → f_Mod_does z_Law u 169 w a b = some (nI code, u)) : sOK T w a b code T :=
  ⟨fun m f1 f2 a1 a2 a3 a4 => ⟨m, h1 m f1 f2 a1 a2 a3 a4, a2, fun _ _ _ _ _ => rfl, rfl⟩, fun u hu => ⟨u, h2 u hu, hu, fun _ _ _ _ => rfl, rfl⟩, hv, fun _ _ => rfl, hc⟩
theorem bkw_0 : bkw (nI 0) = nI 12 := by decide
theorem bkw_1 : bkw (nI 1) = nI 13 := by decide
theorem bkw_2 : bkw (nI 2) = nI 14 := by decide
theorem bkw_3 : bkw (nI 3) = nI 15 := by decide
theorem bkw_4 : bkw (nI 4) = nI 8 := by decide
theorem bkw_5 : bkw (nI 5) = nI 16 := by decide
def up1 (T : Nat → Int32) (i : Nat) (v : Int32) : Nat → Int32 := fun q => if q = i then v else T q
theorem up1_s {i : Nat} {v : Int32} : up1 T i v i = v := if_pos rfl
theorem up1_o {i q : Nat} {v : Int32} (h : q ≠ i) : up1 T i v q = T q := if_neg h
theorem ms_up {i : Nat} {v : Int32} (hs : u.1 171 = T) : (kI u 171 i v).1 171 = up1 T i v := by rw [kI_s, hs]; rfl
theorem hr_held {k : Nat} {v : Int32} (h : HR m 19 T) (hk : k < 8) : HR (kI m 21 k v) 19 (up1 T (123 + k) v) := by
  constructor
  · intro j hj
    show (kI m 21 k v).1 21 j = _
    rw [kI_at]
    by_cases g : j = k
    · rw [if_pos g, g, up1_s]
    · rw [if_neg g, up1_o (by omega)]; exact h.1 j hj
  · intro j hj
    show (kI m 21 k v).1 23 j = _
    rw [kI_o _ _ _ _ (by decide), up1_o (by omega)]; exact h.2 j hj
theorem hr_sits {k : Nat} {v : Int32} (h : HR m 19 T) (hk : k < 8) : HR (kI m 23 k v) 19 (up1 T (115 + k) v) := by
  constructor
  · intro j hj
    show (kI m 23 k v).1 21 j = _
    rw [kI_o _ _ _ _ (by decide), up1_o (by omega)]; exact h.1 j hj
  · intro j hj
    show (kI m 23 k v).1 23 j = _
    rw [kI_at]
    by_cases g : j = k
    · rw [if_pos g, g, up1_s]
    · rw [if_neg g, up1_o (by omega)]; exact h.2 j hj
theorem step_trade (hv : Inv T) (ha : a = nI 0) : ∃ code T', sOK T (nI 5) a b code T' := by
  subst ha
  refine ⟨0, trS T, fun m f1 f2 hI hH _ _ => ?_, fun u hu => ?_, tr_Inv hv, fun i h => trS_o (by omega) (iv_m8 hv), by omega⟩
  · obtain ⟨m1, e, h1, h2, h3⟩ := hat_trade (Or.inr rfl) HZ_19 hI hH hv
    refine ⟨m1, ?_, h1, fun q q1 q2 q3 q4 => h2 q q1 q3 q4, h3⟩
    rw [bkw_5]
    unfold f_Hands_doLine
    simp (disch := omega) only [fl, fmN, mm_lt, Nat.reduceAdd, Option.bind_some, lt_t, lt_f, le_t, le_f, eq_f, eq_self, nI_add, nI_mul, nI_sub, ↓reduceIte, e]
  · obtain ⟨u', e, h1, h2, h3⟩ := md_trades hu hv
    refine ⟨u', ?_, h1, h2, h3⟩
    unfold f_Mod_does
    simp (disch := omega) only [fl, fmN, mm_lt, Nat.reduceAdd, Option.bind_some, lt_t, lt_f, le_t, le_f, eq_f, eq_self, nI_add, nI_mul, nI_sub, ↓reduceIte, zq_171, ld_nI, e]
theorem step_sit (hv : Inv T) {k : Nat} (hk : k < sm T) : ∃ code T', sOK T (nI 4) (nI k) b code T' := by
  have m8 := iv_m8 hv
  have hC := iv_c hv
  by_cases h1 : T (115 + k) = b
  · refine ⟨5, T, so_no hv (by omega) (fun m f1 f2 hI hH e1 e2 => ?_) (fun u hu => ?_)⟩
    · rw [bkw_4, e1 (by decide), e2 (by decide) (by decide)]
      unfold f_Hands_doLine f_Hands_doSit
      simp (disch := omega) only [fl, fmN, mm_lt, Nat.reduceAdd, Option.bind_some, lt_t, lt_f, le_t, le_f, eq_f, eq_self, nI_add, nI_mul, nI_sub, ↓reduceIte, hd_sits HZ_19 hH, if_pos h1]
    · unfold f_Mod_does
      simp (disch := omega) only [fl, fmN, mm_lt, Nat.reduceAdd, Option.bind_some, lt_t, lt_f, le_t, le_f, eq_f, eq_self, nI_add, nI_mul, nI_sub, ↓reduceIte, zq_171, ld_nI, hu, if_pos h1]
  · obtain ⟨c, ec⟩ : ∃ c, fo (fun o n => if T (115 + o) = b then n + nI 1 else n) (sm T) (nI 0) = c := ⟨_, rfl⟩
    have hin : ∀ m, IR m 61 T → HR m 19 T → f_Hands_howManyIn z_Law m 19 61 b = some c := by
      intro m hI hH
      have hm : m.1 64 1 = nI (sm T) := hI.2.1.trans (iv_m hv)
      unfold f_Hands_howManyIn
      simp only [fl]
      rw [lp_fo0 (fun o n => if T (115 + o) = b then n + nI 1 else n) (sm T) (fun i x hi => ?_) (fun x => ?_), ec]
      · rfl
      · unfold f_Hands_howManyIn_L5
        simp (disch := omega) only [fl, fmN, mm_lt, Nat.reduceAdd, Option.bind_some, lt_t, lt_f, le_t, le_f, eq_f, eq_self, nI_add, nI_mul, nI_sub, ↓reduceIte, hm, hd_sits HZ_19 hH]
        split <;> rfl
      · unfold f_Hands_howManyIn_L5
        simp (disch := omega) only [fl, fmN, mm_lt, Nat.reduceAdd, Option.bind_some, lt_t, lt_f, le_t, le_f, eq_f, eq_self, nI_add, nI_mul, nI_sub, ↓reduceIte, hm]
    have min : ∀ u : Mm, u.1 171 = T → mm_lp (f_Mod_does_L49 z_Law u 169 (nI k) b) (nI 0, nI 0) = some c := by
      intro u hu
      rw [lp_fo0 (fun o n => if T (115 + o) = b then n + nI 1 else n) (sm T) (fun i x hi => ?_) (fun x => ?_), ec]
      · unfold f_Mod_does_L49
        simp (disch := omega) only [fl, fmN, mm_lt, Nat.reduceAdd, Option.bind_some, lt_t, lt_f, le_t, le_f, eq_f, eq_self, nI_add, nI_mul, nI_sub, ↓reduceIte, zq_171, ld_nI, hu, iv_m hv, i_add0]
        split <;> rfl
      · unfold f_Mod_does_L49
        simp (disch := omega) only [fl, fmN, mm_lt, Nat.reduceAdd, Option.bind_some, lt_t, lt_f, le_t, le_f, eq_f, eq_self, nI_add, nI_mul, nI_sub, ↓reduceIte, zq_171, ld_nI, hu, iv_m hv]
    by_cases h2 : c < nI (sc T)
    · refine ⟨0, up1 T (115 + k) b, fun m f1 f2 hI hH e1 e2 => ?_, fun u hu => ?_, ?_, fun i h => up1_o (by omega), by omega⟩
      · refine ⟨kI m 23 k b, ?_, hr_sits hH (by omega), fun q q1 q2 q3 q4 => kI_o _ _ _ _ q2, rfl⟩
        have hs : m.1 61 7 = nI (sc T) := hI.2.2.2.1.trans hC.1
        rw [bkw_4, e1 (by decide), e2 (by decide) (by decide)]
        unfold f_Hands_doLine f_Hands_doSit
        simp (disch := omega) only [fl, fmN, mm_lt, Nat.reduceAdd, Option.bind_some, lt_t, lt_f, le_t, le_f, eq_f, eq_self, nI_add, nI_mul, nI_sub, ↓reduceIte, hd_sits HZ_19 hH, if_neg h1, hin m hI hH, hs, if_pos h2, row_putE (p := 23) rfl zq_23]
      · refine ⟨kI u 171 (115 + k) b, ?_, ms_up hu, fun q q1 _ _ => kI_o _ _ _ _ q1, rfl⟩
        unfold f_Mod_does
        simp (disch := omega) only [fl, fmN, mm_lt, Nat.reduceAdd, Option.bind_some, lt_t, lt_f, le_t, le_f, eq_f, eq_self, nI_add, nI_mul, nI_sub, ↓reduceIte, zq_171, ld_nI, st_nI, hu, if_neg h1, min u hu, hC.1, if_pos h2]
      · exact Inv_held hv (fun i hi h => up1_o (by omega)) (fun j hj => by rw [up1_o (by omega)]; exact iv_held hv j hj) (fun j h1 h2 => by rw [up1_o (by omega)]; exact iv_none hv j h1 h2) (fun i j h1 h2 h3 h4 => by rw [up1_o (by omega), up1_o (by omega)] at h4; rw [up1_o (by omega)]; exact iv_one' hv h1 h2 h3 h4)
    · refine ⟨6, T, so_no hv (by omega) (fun m f1 f2 hI hH e1 e2 => ?_) (fun u hu => ?_)⟩
      · have hs : m.1 61 7 = nI (sc T) := hI.2.2.2.1.trans hC.1
        rw [bkw_4, e1 (by decide), e2 (by decide) (by decide)]
        unfold f_Hands_doLine f_Hands_doSit
        simp (disch := omega) only [fl, fmN, mm_lt, Nat.reduceAdd, Option.bind_some, lt_t, lt_f, le_t, le_f, eq_f, eq_self, nI_add, nI_mul, nI_sub, ↓reduceIte, hd_sits HZ_19 hH, if_neg h1, hin m hI hH, hs, if_neg h2]
      · unfold f_Mod_does
        simp (disch := omega) only [fl, fmN, mm_lt, Nat.reduceAdd, Option.bind_some, lt_t, lt_f, le_t, le_f, eq_f, eq_self, nI_add, nI_mul, nI_sub, ↓reduceIte, zq_171, ld_nI, hu, if_neg h1, min u hu, hC.1, if_neg h2]
theorem step_take (hv : Inv T) {k x : Nat} (hk : k < sm T) (hx : x < sn T) : ∃ code T', sOK T (nI 3) (nI k) (nI x) code T' := by
  have m8 := iv_m8 hv
  have n10 := iv_n10 hv
  rcases iv_held hv k (by omega) with e | ⟨y, hy, e⟩
  · by_cases h1 : T (15 + x) = nI 2
    · refine ⟨2, T, so_no hv (by omega) (fun m f1 f2 hI hH e1 e2 => ?_) (fun u hu => ?_)⟩
      · rw [bkw_3, e1 (by decide), e2 (by decide) (by decide)]
        unfold f_Hands_doLine f_Hands_doTake
        simp (disch := omega) only [fl, fmN, mm_lt, Nat.reduceAdd, Option.bind_some, lt_t, lt_f, le_t, le_f, eq_f, eq_self, nI_add, nI_mul, nI_sub, ↓reduceIte, hd_held HZ_19 hH, e, is_pawn IZ_61 hI, if_pos h1]
      · unfold f_Mod_does
        simp (disch := omega) only [fl, fmN, mm_lt, Nat.reduceAdd, Option.bind_some, lt_t, lt_f, le_t, le_f, eq_f, eq_self, nI_add, nI_mul, nI_sub, ↓reduceIte, zq_171, ld_nI, hu, e, if_pos h1]
        rw [if_pos (by decide)]
    · rcases fd_cases (hp T x) (sm T) with ⟨j, hj, j1, j2, ef⟩ | ⟨j1, ef⟩
      · refine ⟨4, T, so_no hv (by omega) (fun m f1 f2 hI hH e1 e2 => ?_) (fun u hu => ?_)⟩
        · rw [bkw_3, e1 (by decide), e2 (by decide) (by decide)]
          unfold f_Hands_doLine f_Hands_doTake
          simp (disch := omega) only [fl, fmN, mm_lt, Nat.reduceAdd, Option.bind_some, lt_t, lt_f, le_t, le_f, eq_f, eq_self, nI_add, nI_mul, nI_sub, ↓reduceIte, hd_held HZ_19 hH, e, is_pawn IZ_61 hI, if_neg h1, hd_holderOf HZ_19 hH, hp_cut hv, ef, mN_ne]
        · unfold f_Mod_does
          simp (disch := omega) only [fl, fmN, mm_lt, Nat.reduceAdd, Option.bind_some, lt_t, lt_f, le_t, le_f, eq_f, eq_self, nI_add, nI_mul, nI_sub, ↓reduceIte, zq_171, ld_nI, hu, e, if_neg h1, md_holderOf hu hv, ef]
          rw [if_pos (by decide)]
      · have hno : ∀ j, j < 8 → T (123 + j) ≠ nI x := fun j hj q => by
          by_cases g : j < sm T
          · exact dec_f (j1 j g) q
          · rw [iv_none hv j (by omega) hj, mN_ne' x (by omega)] at q; exact q
        refine ⟨0, up1 T (123 + k) (nI x), fun m f1 f2 hI hH e1 e2 => ?_, fun u hu => ?_, ?_, fun i h => up1_o (by omega), by omega⟩
        · refine ⟨kI m 21 k (nI x), ?_, hr_held hH (by omega), fun q q1 q2 q3 q4 => kI_o _ _ _ _ q1, rfl⟩
          rw [bkw_3, e1 (by decide), e2 (by decide) (by decide)]
          unfold f_Hands_doLine f_Hands_doTake
          simp (disch := omega) only [fl, fmN, mm_lt, Nat.reduceAdd, Option.bind_some, lt_t, lt_f, le_t, le_f, eq_f, eq_self, nI_add, nI_mul, nI_sub, ↓reduceIte, hd_held HZ_19 hH, e, is_pawn IZ_61 hI, if_neg h1, hd_holderOf HZ_19 hH, hp_cut hv, ef, row_putE (p := 21) rfl zq_21]
        · refine ⟨kI u 171 (123 + k) (nI x), ?_, ms_up hu, fun q q1 _ _ => kI_o _ _ _ _ q1, rfl⟩
          unfold f_Mod_does
          simp (disch := omega) only [fl, fmN, mm_lt, Nat.reduceAdd, Option.bind_some, lt_t, lt_f, le_t, le_f, eq_f, eq_self, nI_add, nI_mul, nI_sub, ↓reduceIte, zq_171, ld_nI, st_nI, hu, e, if_neg h1, md_holderOf hu hv, ef]
          rw [if_pos (by decide), if_pos (by decide)]
        · refine Inv_held hv (fun i hi h => up1_o (by omega)) (fun j hj => ?_) (fun j h1 h2 => by rw [up1_o (by omega)]; exact iv_none hv j h1 h2) (fun i j h1 h2 h3 h4 => ?_)
          · by_cases g : j = k
            · rw [g, up1_s]; exact Or.inr ⟨x, hx, rfl⟩
            · rw [up1_o (by omega)]; exact iv_held hv j hj
          · by_cases g : j = k
            · rw [g, up1_s, up1_o (by omega)] at h4; exact absurd h4 (hno i h2)
            · by_cases g2 : i = k
              · rw [g2, up1_s, up1_o (by omega)] at h4; exact absurd h4.symm (hno j h3)
              · rw [up1_o (by omega), up1_o (by omega)] at h4; rw [up1_o (by omega)]; exact iv_one' hv h1 h2 h3 h4
  · refine ⟨1, T, so_no hv (by omega) (fun m f1 f2 hI hH e1 e2 => ?_) (fun u hu => ?_)⟩
    · rw [bkw_3, e1 (by decide), e2 (by decide) (by decide)]
      unfold f_Hands_doLine f_Hands_doTake
      simp (disch := omega) only [fl, fmN, mm_lt, Nat.reduceAdd, Option.bind_some, lt_t, lt_f, le_t, le_f, eq_f, eq_self, nI_add, nI_mul, nI_sub, ↓reduceIte, hd_held HZ_19 hH, e, mN_ne]
    · unfold f_Mod_does
      simp (disch := omega) only [fl, fmN, mm_lt, Nat.reduceAdd, Option.bind_some, lt_t, lt_f, le_t, le_f, eq_f, eq_self, nI_add, nI_mul, nI_sub, ↓reduceIte, zq_171, ld_nI, hu, e]
theorem step_drop (hv : Inv T) {k : Nat} (hk : k < sm T) : ∃ code T', sOK T (nI 2) (nI k) b code T' := by
  have m8 := iv_m8 hv
  have n10 := iv_n10 hv
  rcases iv_held hv k (by omega) with e | ⟨y, hy, e⟩
  · refine ⟨1, T, so_no hv (by omega) (fun m f1 f2 hI hH e1 e2 => ?_) (fun u hu => ?_)⟩
    · rw [bkw_2, e1 (by decide)]
      unfold f_Hands_doLine f_Hands_doDrop
      simp (disch := omega) only [fl, fmN, mm_lt, Nat.reduceAdd, Option.bind_some, lt_t, lt_f, le_t, le_f, eq_f, eq_self, nI_add, nI_mul, nI_sub, ↓reduceIte, hd_held HZ_19 hH, e]
    · unfold f_Mod_does
      simp (disch := omega) only [fl, fmN, mm_lt, Nat.reduceAdd, Option.bind_some, lt_t, lt_f, le_t, le_f, eq_f, eq_self, nI_add, nI_mul, nI_sub, ↓reduceIte, zq_171, ld_nI, hu, e]
      rw [if_pos (by decide)]
  · by_cases h1 : T (15 + y) = nI 2
    · have hpn : T (123 + k) ≠ mN ∧ T (15 + (T (123 + k)).toNatClampNeg) = nI 2 := by
        rw [e, nI_clamp (by omega)]; exact ⟨hq_ne (n := y) (by omega), h1⟩
      refine ⟨2, T, so_no hv (by omega) (fun m f1 f2 hI hH e1 e2 => ?_) (fun u hu => ?_)⟩
      · rw [bkw_2, e1 (by decide)]
        unfold f_Hands_doLine f_Hands_doDrop
        simp (disch := omega) only [fl, fmN, mm_lt, Nat.reduceAdd, Option.bind_some, lt_t, lt_f, le_t, le_f, eq_f, eq_self, nI_add, nI_mul, nI_sub, ↓reduceIte, hd_held HZ_19 hH, e, mN_ne, is_pawn IZ_61 hI, if_pos h1]
      · unfold f_Mod_does f_Mod_does_J180 f_Mod_does_J196 f_Mod_does_J215
        simp (disch := omega) only [fl, fmN, mm_lt, Nat.reduceAdd, Option.bind_some, lt_t, lt_f, le_t, le_f, eq_f, eq_self, nI_add, nI_mul, nI_sub, ↓reduceIte, zq_171, ld_nI, hu, md_pawn hv hu, fl_ite, if_pos hpn]
        rw [e]
        simp (disch := omega) only [lt_f, ↓reduceIte]
    · have hpn : ¬ (T (123 + k) ≠ mN ∧ T (15 + (T (123 + k)).toNatClampNeg) = nI 2) := by
        rw [e, nI_clamp (by omega)]; exact fun q => h1 q.2
      refine ⟨0, up1 T (123 + k) mN, fun m f1 f2 hI hH e1 e2 => ?_, fun u hu => ?_, ?_, fun i h => up1_o (by omega), by omega⟩
      · refine ⟨kI m 21 k mN, ?_, hr_held hH (by omega), fun q q1 q2 q3 q4 => kI_o _ _ _ _ q1, rfl⟩
        rw [bkw_2, e1 (by decide)]
        unfold f_Hands_doLine f_Hands_doDrop
        simp (disch := omega) only [fl, fmN, mm_lt, Nat.reduceAdd, Option.bind_some, lt_t, lt_f, le_t, le_f, eq_f, eq_self, nI_add, nI_mul, nI_sub, ↓reduceIte, hd_held HZ_19 hH, e, mN_ne, is_pawn IZ_61 hI, if_neg h1, row_putE (p := 21) rfl zq_21]
      · refine ⟨kI u 171 (123 + k) mN, ?_, ms_up hu, fun q q1 _ _ => kI_o _ _ _ _ q1, rfl⟩
        unfold f_Mod_does f_Mod_does_J180 f_Mod_does_J196 f_Mod_does_J215 f_Mod_does_J237 f_Mod_does_J291 f_Mod_does_J308
        simp (disch := omega) only [fl, fmN, mm_lt, Nat.reduceAdd, Option.bind_some, lt_t, lt_f, le_t, le_f, eq_f, eq_self, nI_add, nI_mul, nI_sub, ↓reduceIte, zq_171, ld_nI, st_nI, hu, md_pawn hv hu, fl_ite, if_neg hpn]
        rw [e]
        simp (disch := omega) only [lt_f, ↓reduceIte]
      · refine Inv_held hv (fun i hi h => up1_o (by omega)) (fun j hj => ?_) (fun j h1 h2 => by rw [up1_o (by omega)]; exact iv_none hv j h1 h2) (fun i j h1 h2 h3 h4 => ?_)
        · by_cases g : j = k
          · rw [g, up1_s]; exact Or.inl rfl
          · rw [up1_o (by omega)]; exact iv_held hv j hj
        · by_cases g : j = k
          · rw [g, up1_s]
          · by_cases g2 : i = k
            · rw [g2, up1_s] at h4; exact h4.symm
            · rw [up1_o (by omega), up1_o (by omega)] at h4; rw [up1_o (by omega)]; exact iv_one' hv h1 h2 h3 h4
end GO
