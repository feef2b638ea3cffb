section SEAT3
variable {σ m u : Mm} {S : Nat → Int32}
theorem md_can (hs : u.1 171 = S) (hv : Inv S) {k : Nat} {p : Nat → Nat} (hk : k < sm S) (hp : ∀ i, i < k + 1 → u.1 182 i = nI (p i)) (hp8 : ∀ i, i < k + 1 → p i < 8) : f_Mod_canSit z_Law u 169 (nI k) = some (bI (vld S p k (p k))) := by
  have m8 := iv_m8 hv
  have hC := iv_c hv
  obtain ⟨j0, ej⟩ : ∃ j0, fa_first (fun o => decide (p o = p k) && foe S o k) k = j0 := ⟨_, rfl⟩
  have hle := fa_first_le (fun o => decide (p o = p k) && foe S o k) k
  have hno := fa_first_no (fun o => decide (p o = p k) && foe S o k) k
  rw [ej] at hle hno
  have step : ∀ o, o < k → (decide (p o = p k) && foe S o k) = false → f_Mod_canSit_L4 z_Law u 169 (nI k) (nI (ctp p o (p k)), nI o) = some (.inl (nI (ctp p (o + 1) (p k)), nI (o + 1))) := by
    intro o ho h
    have q1 := hp8 o (by omega)
    have q2 := hp8 k (by omega)
    have e9 : ctp p (o + 1) (p k) = ctp p o (p k) + (if decide (p o = p k) = true then 1 else 0) := rfl
    unfold f_Mod_canSit_L4
    simp (disch := omega) only [fl, fmN, mm_lt, Nat.reduceAdd, Option.bind_some, lt_t, lt_f, le_t, le_f, eq_f, eq_self, nI_add, nI_mul, nI_sub, ↓reduceIte, zq_182, ld_nI, hp o (by omega), hp k (by omega), nI_eq, md_foes hs hv (by omega : o < 8) (by omega : k < 8), bI_0]
    rw [e9]
    by_cases g : p o = p k
    · rw [decide_eq_true g, Bool.true_and] at h
      rw [if_pos g, if_pos h, decide_eq_true g, if_pos rfl]
    · rw [if_neg g, decide_eq_false g, if_neg (by decide)]
      rfl
  unfold f_Mod_canSit
  simp only [fl]
  by_cases hj : j0 < k
  · have hy := fa_first_yes (fun o => decide (p o = p k) && foe S o k) k (by rw [ej]; exact hj)
    rw [ej] at hy
    obtain ⟨y1, y2⟩ := (Bool.and_eq_true _ _).mp hy
    have y1 := dec_t y1
    have run : mm_lp (f_Mod_canSit_L4 z_Law u 169 (nI k)) (nI 0, nI 0) = some (.inl (nI 0)) := by
      refine lp_go (fun o => (nI (ctp p o (p k)), nI o)) j0 rfl (fun o ho => step o (by omega) (hno o ho)) ?_
      have q2 := hp8 k (by omega)
      unfold f_Mod_canSit_L4
      simp (disch := omega) only [fl, fmN, mm_lt, Nat.reduceAdd, Option.bind_some, lt_t, lt_f, le_t, le_f, eq_f, eq_self, nI_add, nI_mul, nI_sub, ↓reduceIte, zq_182, ld_nI, hp j0 (by omega), hp k (by omega), y1, md_foes hs hv (by omega : j0 < 8) (by omega : k < 8), bI_0, y2, Bool.true_eq_false]
    have : vld S p k (p k) = false := by
      unfold vld
      rw [decide_eq_false (fun q : ∀ o, o < k → p o = p k → foe S o k = false => by rw [q j0 hj y1] at y2; cases y2), Bool.and_false]
    rw [run, this]; rfl
  · have run : mm_lp (f_Mod_canSit_L4 z_Law u 169 (nI k)) (nI 0, nI 0) = some (.inr (nI (ctp p k (p k)))) := by
      refine lp_go (fun o => (nI (ctp p o (p k)), nI o)) k rfl (fun o ho => step o (by omega) (hno o (by omega))) ?_
      unfold f_Mod_canSit_L4
      simp only [fl, fmN, mm_lt, Nat.reduceAdd, Option.bind_some, lt_t, lt_f, le_t, le_f, eq_f, eq_self, nI_add, nI_mul, nI_sub, ↓reduceIte, Int32.le_refl, if_true]
    have hall : ∀ o, o < k → p o = p k → foe S o k = false := fun o ho g => by
      have := hno o (by omega)
      rw [decide_eq_true g, Bool.true_and] at this
      exact this
    have hct : ctp p k (p k) ≤ k := fb_ct_le _ _
    rw [run, Option.bind_some]
    simp (disch := omega) only [Sum.elim_inr, fl, fmN, mm_lt, Nat.reduceAdd, Option.bind_some, lt_t, lt_f, le_t, le_f, eq_f, eq_self, nI_add, nI_mul, nI_sub, ↓reduceIte, zq_171, ld_nI, hs, hC.1]
    unfold vld
    rw [decide_eq_true hall, Bool.and_true]
    by_cases g : ctp p k (p k) < sc S
    · simp (disch := omega) only [fl, fmN, mm_lt, Nat.reduceAdd, Option.bind_some, lt_t, lt_f, le_t, le_f, eq_f, eq_self, nI_add, nI_mul, nI_sub, ↓reduceIte, decide_eq_true g, bI_t]
    · simp (disch := omega) only [fl, fmN, mm_lt, Nat.reduceAdd, Option.bind_some, lt_t, lt_f, le_t, le_f, eq_f, eq_self, nI_add, nI_mul, nI_sub, ↓reduceIte, decide_eq_false g, bI_f]
theorem md_seat (hv : Inv S) : ∀ d k, k + d + 1 = sm S → ∀ r v p m best mv pcv, v + r = pw S → m.1 171 = S → (∀ j, j < k → m.1 182 j = nI (p j)) → (∀ j, j < k → p j < pw S) → m.1 182 k = nI v - nI 1 → mv ≤ k → best ≤ 1000000000 → pcv = (if v = 0 then 0 else cst S k (v - 1)) → ∃ best2 m2, mm_lp (f_Mod_seats_L36 z_Law 169) (nI best, nI (mv + pcv), nI k, m) = mm_lp (f_Mod_seats_L36 z_Law 169) (nI best2, nI mv, nI k + mN, m2) ∧ best2 ≤ best ∧ (∀ q, q ≠ 182 → q ≠ 183 → m2.1 q = m.1 q) ∧ m2.2 = m.2 ∧ (∀ j, j < k → m2.1 182 j = m.1 182 j) ∧ bst (fun b => fsome (sfc S d p k b) v (pw S - v)) mv best best2 (fun p' => ∀ i, i < sm S → m2.1 183 i = nI (p' i)) (∀ i, m2.1 183 i = m.1 183 i) := by
  have m8 := iv_m8 hv
  have hP := iv_p hv
  have cst01 : ∀ k v, cst S k v = 0 ∧ S (115 + k) = nI v ∨ cst S k v = 1 ∧ ¬ S (115 + k) = nI v := by
    intro k v
    unfold cst
    by_cases q : S (115 + k) = nI v
    · exact Or.inl ⟨if_pos q, q⟩
    · exact Or.inr ⟨if_neg q, q⟩
  -- the head of the loop: what this HOUSE cost where it sat is taken off again
  have head : ∀ {k v m best mv pcv}, k < 8 → v ≤ pw S → m.1 171 = S → m.1 182 k = nI v - nI 1 → mv ≤ k → pcv = (if v = 0 then 0 else cst S k (v - 1)) → f_Mod_seats_L36 z_Law 169 (nI best, nI (mv + pcv), nI k, m) = f_Mod_seats_J70 z_Law 169 (nI best) (nI mv) (nI k) m := by
    intro k v m best mv pcv hk hvP hs hcur hmv hpc
    unfold f_Mod_seats_L36
    by_cases h0 : v = 0
    · subst h0
      have e : m.1 182 k = mN := by rw [hcur]; decide
      rw [if_pos rfl] at hpc
      simp (disch := omega) only [fl, fmN, mm_lt, Nat.reduceAdd, Option.bind_some, lt_t, lt_f, le_t, le_f, eq_f, eq_self, nI_add, nI_mul, nI_sub, ↓reduceIte, zq_182, ld_nI, e, hpc, Nat.add_zero]
      rw [if_pos (by decide)]
    · rw [nI_sub (by omega)] at hcur
      rw [if_neg h0] at hpc
      simp (disch := omega) only [fl, fmN, mm_lt, Nat.reduceAdd, Option.bind_some, lt_t, lt_f, le_t, le_f, eq_f, eq_self, nI_add, nI_mul, nI_sub, ↓reduceIte, zq_182, zq_171, ld_nI, hcur, hs]
      rcases cst01 k (v - 1) with ⟨c1, c2⟩ | ⟨c1, c2⟩
      · rw [if_pos c2.symm, hpc, c1, Nat.add_zero]
      · rw [if_neg (fun q => c2 q.symm), hpc, c1]
        exact congrArg (fun w => f_Mod_seats_J70 z_Law 169 (nI best) w (nI k) m) (pk_m1 mv)
  have last : ∀ {k m best mv}, k < 8 → m.1 171 = S → m.1 182 k = nI (pw S) - nI 1 → f_Mod_seats_J70 z_Law 169 (nI best) (nI mv) (nI k) m = some (.inl (nI best, nI mv, nI k + mN, kI m 182 k (nI (pw S)))) := by
    intro k m best mv hk hs hcur
    have hcur' : m.1 182 k + nI 1 = nI (pw S) := by rw [hcur, Int32.sub_add_cancel]
    have e1 : (kI m 182 k (nI (pw S))).1 182 k = nI (pw S) := kI_at.trans (if_pos rfl)
    have e2 : (kI m 182 k (nI (pw S))).1 171 = S := hs
    unfold f_Mod_seats_J70
    simp (disch := omega) only [fl, fmN, mm_lt, Nat.reduceAdd, Option.bind_some, lt_t, lt_f, le_t, le_f, eq_f, eq_self, nI_add, nI_mul, nI_sub, ↓reduceIte, zq_182, zq_171, ld_nI, st_nI, hcur', e1, e2, hP.1]
  have mid : ∀ {k v m best mv}, k < 8 → v < pw S → mv ≤ k → m.1 171 = S → m.1 182 k = nI v - nI 1 → f_Mod_seats_J70 z_Law 169 (nI best) (nI mv) (nI k) m = f_Mod_seats_J122 z_Law 169 (nI best) (nI (mv + cst S k v)) (nI k) (kI m 182 k (nI v)) := by
    intro k v m best mv hk hvP hmv hs hcur
    have hcur' : m.1 182 k + nI 1 = nI v := by rw [hcur, Int32.sub_add_cancel]
    have e1 : (kI m 182 k (nI v)).1 182 k = nI v := kI_at.trans (if_pos rfl)
    have e2 : (kI m 182 k (nI v)).1 171 = S := hs
    unfold f_Mod_seats_J70
    simp (disch := omega) only [fl, fmN, mm_lt, Nat.reduceAdd, Option.bind_some, lt_t, lt_f, le_t, le_f, eq_f, eq_self, nI_add, nI_mul, nI_sub, ↓reduceIte, zq_182, zq_171, ld_nI, st_nI, hcur', e1, e2, hP.1]
    rcases cst01 k v with ⟨c1, c2⟩ | ⟨c1, c2⟩
    · rw [if_pos c2.symm, c1, Nat.add_zero]
    · rw [if_neg (fun q => c2 q.symm), c1]
  have upP : ∀ {p : Nat → Nat} {k v}, (∀ j, j < k → p j < pw S) → v < pw S → ∀ j, j < k + 1 → upn p k v j < pw S := by
    intro p k v hp hvP j hj
    by_cases g : j = k
    · rw [g, upn_s]; exact hvP
    · rw [upn_o g]; exact hp j (by omega)
  have upT : ∀ {p : Nat → Nat} {k v} {m : Mm}, (∀ j, j < k → m.1 182 j = nI (p j)) → ∀ j, j < k + 1 → (kI m 182 k (nI v)).1 182 j = nI (upn p k v j) := by
    intro p k v m hp j hj
    rw [kI_at]
    by_cases g : j = k
    · rw [if_pos g, g, upn_s]
    · rw [if_neg g, upn_o g]; exact hp j (by omega)
  have vup : ∀ {p : Nat → Nat} {k v}, vld S (upn p k v) k v = vld S p k v := by
    intro p k v
    unfold vld
    rw [ctp_c (p := p) (fun i hi => upn_o (by omega))]
    congr 1
    apply decide_eq_decide.mpr
    constructor
    · intro q o ho e; exact q o ho (by rw [upn_o (by omega)]; exact e)
    · intro q o ho e; rw [upn_o (by omega)] at e; exact q o ho e
  -- no further with this PEW
  have stay : ∀ {k v m best mv} {p : Nat → Nat}, k < sm S → v < pw S → mv ≤ k → best ≤ 1000000000 → m.1 171 = S → (∀ j, j < k → m.1 182 j = nI (p j)) → (∀ j, j < k → p j < pw S) → ¬ (vld S p k v = true ∧ mv + cst S k v < best) → f_Mod_seats_J122 z_Law 169 (nI best) (nI (mv + cst S k v)) (nI k) (kI m 182 k (nI v)) = some (.inl (nI best, nI (mv + cst S k v), nI k, kI m 182 k (nI v))) := by
    intro k v m best mv p hk hvP hmv hbest hs hp hpP hno
    have hc1 := cst_le (S := S) k v
    unfold f_Mod_seats_J122
    by_cases h1 : best ≤ mv + cst S k v
    · simp (disch := omega) only [fl, fmN, mm_lt, Nat.reduceAdd, Option.bind_some, lt_t, lt_f, le_t, le_f, eq_f, eq_self, nI_add, nI_mul, nI_sub, ↓reduceIte]
    · have e2 : (kI m 182 k (nI v)).1 171 = S := hs
      have hcan := md_can (p := upn p k v) e2 hv hk (upT hp) (fun i hi => by have := upP hpP hvP i hi; omega)
      rw [upn_s, vup, Bool.eq_false_iff.mpr (fun q => hno ⟨q, by omega⟩)] at hcan
      simp (disch := omega) only [fl, fmN, mm_lt, Nat.reduceAdd, Option.bind_some, lt_t, lt_f, le_t, le_f, eq_f, eq_self, nI_add, nI_mul, nI_sub, ↓reduceIte, hcan, bI_f]
  have go : ∀ {k v m best mv} {p : Nat → Nat}, k < sm S → v < pw S → mv ≤ k → best ≤ 1000000000 → m.1 171 = S → (∀ j, j < k → m.1 182 j = nI (p j)) → (∀ j, j < k → p j < pw S) → vld S p k v = true → mv + cst S k v < best → f_Mod_seats_J122 z_Law 169 (nI best) (nI (mv + cst S k v)) (nI k) (kI m 182 k (nI v)) = if sm S - 1 ≤ k then some (.inl (nI (mv + cst S k v), nI (mv + cst S k v), nI k, kP (kI m 182 k (nI v)) 183 0 (sm S) ((kI m 182 k (nI v)).1 182))) else some (.inl (nI best, nI (mv + cst S k v), nI (k + 1), kI (kI m 182 k (nI v)) 182 (k + 1) mN)) := by
    intro k v m best mv p hk hvP hmv hbest hs hp hpP hvl hlt
    have hc1 := cst_le (S := S) k v
    have e2 : (kI m 182 k (nI v)).1 171 = S := hs
    have hcan := md_can (p := upn p k v) e2 hv hk (upT hp) (fun i hi => by have := upP hpP hvP i hi; omega)
    rw [upn_s, vup, hvl] at hcan
    have L168 : ∀ a b c : Int32, mm_lp (f_Mod_seats_L168 z_Law 169 a b c) (nI 0, kI m 182 k (nI v)) = some (kP (kI m 182 k (nI v)) 183 0 (sm S) ((kI m 182 k (nI v)).1 182)) := by
      intro a b c
      refine lp_go (fun i => (nI i, kP (kI m 182 k (nI v)) 183 0 i ((kI m 182 k (nI v)).1 182))) (sm S) (Prod.ext rfl kP_0.symm) (fun i hi => ?_) ?_
      · have f171 : (kP (kI m 182 k (nI v)) 183 0 i ((kI m 182 k (nI v)).1 182)).1 171 = S := by rw [kP_o (by decide)]; exact e2
        have f182 : (kP (kI m 182 k (nI v)) 183 0 i ((kI m 182 k (nI v)).1 182)).1 182 = (kI m 182 k (nI v)).1 182 := kP_o (by decide)
        unfold f_Mod_seats_L168
        simp (disch := omega) only [fl, fmN, mm_lt, Nat.reduceAdd, Option.bind_some, lt_t, lt_f, le_t, le_f, eq_f, eq_self, nI_add, nI_mul, nI_sub, ↓reduceIte, zq_171, zq_182, zq_183, ld_nI, st_nI, f171, f182, iv_m hv]
        have := kP_succ (m := kI m 182 k (nI v)) (o := 183) (a := 0) (n := i) (g := (kI m 182 k (nI v)).1 182)
        rw [Nat.zero_add] at this
        rw [← this]
      · have f171 : (kP (kI m 182 k (nI v)) 183 0 (sm S) ((kI m 182 k (nI v)).1 182)).1 171 = S := by rw [kP_o (by decide)]; exact e2
        unfold f_Mod_seats_L168
        simp (disch := omega) only [fl, fmN, mm_lt, Nat.reduceAdd, Option.bind_some, lt_t, lt_f, le_t, le_f, eq_f, eq_self, nI_add, nI_mul, nI_sub, ↓reduceIte, zq_171, ld_nI, f171, iv_m hv]
    unfold f_Mod_seats_J122
    simp (disch := omega) only [fl, fmN, mm_lt, Nat.reduceAdd, Option.bind_some, lt_t, lt_f, le_t, le_f, eq_f, eq_self, nI_add, nI_mul, nI_sub, ↓reduceIte, hcan, bI_t, zq_171, zq_182, ld_nI, e2, iv_m hv, L168]
    by_cases g : sm S - 1 ≤ k
    · simp (disch := omega) only [le_t, ↓reduceIte, if_pos g]
    · simp (disch := omega) only [le_f, ↓reduceIte, if_neg g, st_nI, Option.bind_some]
  have main : ∀ d k, k + d + 1 = sm S → (∀ v p m best mv, v < pw S → m.1 171 = S → (∀ j, j < k → m.1 182 j = nI (p j)) → (∀ j, j < k → p j < pw S) → mv ≤ k → best ≤ 1000000000 → vld S p k v = true → mv + cst S k v < best → ∃ best1 m1 N1, (∀ x, f_Mod_seats_J122 z_Law 169 (nI best) (nI (mv + cst S k v)) (nI k) (kI m 182 k (nI v)) = some (.inl x) → mm_lp (f_Mod_seats_L36 z_Law 169) x = mm_lp (f_Mod_seats_L36 z_Law 169) (nI best1, nI (mv + cst S k v), nI k, m1)) ∧ best1 ≤ best ∧ (∀ q, q ≠ 182 → q ≠ 183 → m1.1 q = m.1 q) ∧ m1.2 = m.2 ∧ (∀ j, j < k → m1.1 182 j = m.1 182 j) ∧ m1.1 182 k = nI v ∧ bst (fun b => sf S d (upn p k v) (k + 1) b) (mv + cst S k v) best best1 (fun p' => ∀ i, i < sm S → m1.1 183 i = nI (p' i)) N1 ∧ (N1 → ∀ i, m1.1 183 i = m.1 183 i)) → ∀ r v p m best mv pcv, v + r = pw S → m.1 171 = S → (∀ j, j < k → m.1 182 j = nI (p j)) → (∀ j, j < k → p j < pw S) → m.1 182 k = nI v - nI 1 → mv ≤ k → best ≤ 1000000000 → pcv = (if v = 0 then 0 else cst S k (v - 1)) → ∃ best2 m2, mm_lp (f_Mod_seats_L36 z_Law 169) (nI best, nI (mv + pcv), nI k, m) = mm_lp (f_Mod_seats_L36 z_Law 169) (nI best2, nI mv, nI k + mN, m2) ∧ best2 ≤ best ∧ (∀ q, q ≠ 182 → q ≠ 183 → m2.1 q = m.1 q) ∧ m2.2 = m.2 ∧ (∀ j, j < k → m2.1 182 j = m.1 182 j) ∧ bst (fun b => fsome (sfc S d p k b) v (pw S - v)) mv best best2 (fun p' => ∀ i, i < sm S → m2.1 183 i = nI (p' i)) (∀ i, m2.1 183 i = m.1 183 i) := by
    intro d k hkd inner r
    induction r with
    | zero =>
      intro v p m best mv pcv hvr hs hp hpP hcur hmv hbest hpc
      have hvP : v = pw S := by omega
      subst hvP
      refine ⟨best, kI m 182 k (nI (pw S)), mm_lp_step ((head (by omega) (Nat.le_refl _) hs hcur hmv hpc).trans (last (by omega) hs hcur)), Nat.le_refl _, fun q q1 q2 => kI_o _ _ _ _ q1, rfl, fun j hj => by rw [kI_at, if_neg (by omega)], Or.inr ⟨fun b _ => fs_end (Nat.le_refl _), rfl, fun i => by rw [kI_o _ _ _ _ (by decide)]⟩⟩
    | succ r ihr =>
      intro v p m best mv pcv hvr hs hp hpP hcur hmv hbest hpc
      have hvP : v < pw S := by omega
      have h0 := (head (best := best) (by omega : k < 8) (by omega) hs hcur hmv hpc).trans (mid (by omega) hvP hmv hs hcur)
      by_cases hgo : vld S p k v = true ∧ mv + cst S k v < best
      · obtain ⟨best1, m1, N1, a1, a2, a3, a4, a5, a6, a7, a8⟩ := inner v p m best mv hvP hs hp hpP hmv hbest hgo.1 hgo.2
        have hg := go (by omega : k < sm S) hvP hmv hbest hs hp hpP hgo.1 hgo.2
        have e1 : mm_lp (f_Mod_seats_L36 z_Law 169) (nI best, nI (mv + pcv), nI k, m) = mm_lp (f_Mod_seats_L36 z_Law 169) (nI best1, nI (mv + cst S k v), nI k, m1) := by
          by_cases g : sm S - 1 ≤ k
          · rw [if_pos g] at hg
            exact (mm_lp_step (h0.trans hg)).trans (a1 _ hg)
          · rw [if_neg g] at hg
            exact (mm_lp_step (h0.trans hg)).trans (a1 _ hg)
        obtain ⟨best2, m2, b1, b2, b3, b4, b5, b6⟩ := ihr (v + 1) p m1 best1 mv (cst S k v) (by omega) (by rw [a3 171 (by decide) (by decide)]; exact hs) (fun j hj => (a5 j hj).trans (hp j hj)) hpP (by rw [a6, ← nI_add v 1, Int32.add_sub_cancel]) hmv (by omega) (by rw [if_neg (by omega), Nat.add_sub_cancel])
        refine ⟨best2, m2, e1.trans b1, by omega, fun q q1 q2 => (b3 q q1 q2).trans (a3 q q1 q2), b4.trans a4, fun j hj => (b5 j hj).trans (a5 j hj), bst_step hvP hgo.1 hgo.2 a7 b6 (fun p' t n i hi => (n i).trans (t i hi)) (fun n1 n2 i => (n2 i).trans (a8 n1 i))⟩
      · have hst := stay (by omega : k < sm S) hvP hmv hbest hs hp hpP hgo
        obtain ⟨best2, m2, b1, b2, b3, b4, b5, b6⟩ := ihr (v + 1) p (kI m 182 k (nI v)) best mv (cst S k v) (by omega) hs (fun j hj => by rw [kI_at, if_neg (by omega)]; exact hp j hj) hpP (by rw [kI_at, if_pos rfl, ← nI_add v 1, Int32.add_sub_cancel]) hmv hbest (by rw [if_neg (by omega), Nat.add_sub_cancel])
        refine ⟨best2, m2, (mm_lp_step (h0.trans hst)).trans b1, b2, fun q q1 q2 => (b3 q q1 q2).trans (kI_o _ _ _ _ q1), b4, fun j hj => (b5 j hj).trans (by rw [kI_at, if_neg (by omega)]), bst_skip hvP hgo b6⟩
  intro d
  induction d with
  | zero =>
    intro k hkd
    refine main 0 k hkd (fun v p m best mv hvP hs hp hpP hmv hbest hvl hlt => ?_)
    have hg := go (by omega : k < sm S) hvP hmv hbest hs hp hpP hvl hlt
    rw [if_pos (by omega)] at hg
    refine ⟨mv + cst S k v, kP (kI m 182 k (nI v)) 183 0 (sm S) ((kI m 182 k (nI v)).1 182), False, fun x hx => ?_, by omega, fun q q1 q2 => by rw [kP_o q2, kI_o _ _ _ _ q1], rfl, fun j hj => ?_, ?_, Or.inl ⟨0, upn p k v, rfl, fun b' hb' => absurd hb' (by omega), by omega, rfl, fun i hi => ?_⟩, fun q => q.elim⟩
    · rw [hg] at hx; cases hx; rfl
    · rw [kP_o (by decide), kI_at, if_neg (by omega)]
    · rw [kP_o (by decide), kI_at, if_pos rfl]
    · rw [kP_in (by omega) (by omega), Nat.sub_zero]
      exact upT hp i (by omega)
  | succ d ihd =>
    intro k hkd
    refine main (d + 1) k hkd (fun v p m best mv hvP hs hp hpP hmv hbest hvl hlt => ?_)
    have hc1 := cst_le (S := S) k v
    have hg := go (by omega : k < sm S) hvP hmv hbest hs hp hpP hvl hlt
    rw [if_neg (by omega)] at hg
    obtain ⟨best1, m1, b1, b2, b3, b4, b5, b6⟩ := ihd (k + 1) (by omega) (pw S) 0 (upn p k v) (kI (kI m 182 k (nI v)) 182 (k + 1) mN) best (mv + cst S k v) 0 (by omega) hs (fun j hj => by rw [kI_at, if_neg (by omega)]; exact upT hp j hj) (upP hpP hvP) (by rw [kI_at, if_pos rfl]; decide) (by omega) hbest rfl
    refine ⟨best1, m1, _, fun x hx => ?_, b2, fun q q1 q2 => by rw [b3 q q1 q2, kI_o _ _ _ _ q1, kI_o _ _ _ _ q1], b4, fun j hj => by rw [b5 j (by omega), kI_at, if_neg (by omega), kI_at, if_neg (by omega)], by rw [b5 k (by omega), kI_at, if_neg (by omega), kI_at, if_pos rfl], b6, fun n i => by rw [n i, kI_o _ _ _ _ (by decide), kI_o _ _ _ _ (by decide)]⟩
    rw [hg] at hx
    cases hx
    rw [Nat.add_zero] at b1
    rw [b1]
    exact congrArg (fun w => mm_lp (f_Mod_seats_L36 z_Law 169) (nI best1, nI (mv + cst S k v), w, m1)) (pk_m1 k)
end SEAT3
