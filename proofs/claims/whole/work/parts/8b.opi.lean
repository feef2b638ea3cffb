section OPI
variable {M0 U0 σ a b m u w x : Mm} {t : Nat → Nat} {sz lim κ v ap np n i : Nat} {l : List Nat}
theorem ln_isl (hT : Tp M0 U0 t sz lim) (h : At M0 U0 sz lim a b m u κ l v ap np) (hκ0 : κ ≠ 0) (hD : Di i a b) : Sm M0 U0 (Ln M0 U0 sz lim np κ (fun a b => a.1 1 2 = nI i ∧ b.1 169 19 = nI i ∧ Di (i + 1) (kI a 1 2 (nI (i + 1))) (kI b 169 19 (nI (i + 1))))) (f_Reader_islandLine z_Law m 1) (f_Mod_line z_Law u 169) := by
  have cw := c_word h
  have eu := il_u h
  by_cases hκ : κ = 1
  · rw [if_pos hκ] at cw
    rcases rwd_hq l with e | ⟨j, hj, e⟩
    · have hno : ∀ k, k < 17 → ¬ (κ = 1 ∧ rwd l = nI k) := fun k hk q => by rw [e, mN_ne' k (by omega)] at q; exact q.2
      rw [if_neg (hno 0 (by decide)), if_neg (hno 3 (by decide)), if_neg (hno 5 (by decide)), if_neg (hno 6 (by decide)), if_neg (hno 7 (by decide)), if_neg (hno 8 (by decide)), if_neg (hno 9 (by decide))] at eu
      exact sm_bad h (k := 1) (by decide) (il_cM h (cw.trans e)) eu
    · have hk : ∀ k, k < 17 → k ≠ j → ¬ (κ = 1 ∧ rwd l = nI k) := fun k hk hne q => hne (nI_inj (by omega) (by omega) (q.2.symm.trans e))
      have hy : κ = 1 ∧ rwd l = nI j := ⟨hκ, e⟩
      have hc := il_c (cw.trans e)
      by_cases h0 : j = 0
      · subst h0
        rw [if_pos hy] at eu
        rw [hc.1 rfl, eu]
        exact sm_zb (il_name hT h hκ hD)
      by_cases h3 : j = 3
      · subst h3
        rw [if_neg (hk 0 (by decide) (by decide)), if_pos hy] at eu
        rw [hc.2.1 rfl, eu]
        exact sm_zb (il_house hT h hκ hD)
      by_cases h5 : j = 5
      · subst h5
        rw [if_neg (hk 0 (by decide) (by decide)), if_neg (hk 3 (by decide) (by decide)), if_pos hy] at eu
        rw [hc.2.2.1 rfl, eu]
        exact sm_zb (il_wants hT h hκ hD)
      by_cases h6 : j = 6
      · subst h6
        rw [if_neg (hk 0 (by decide) (by decide)), if_neg (hk 3 (by decide) (by decide)), if_neg (hk 5 (by decide) (by decide)), if_pos hy] at eu
        rw [hc.2.2.2.1 rfl, eu]
        exact sm_zb (il_feud hT h hκ hD)
      by_cases h7 : j = 7
      · subst h7
        rw [if_neg (hk 0 (by decide) (by decide)), if_neg (hk 3 (by decide) (by decide)), if_neg (hk 5 (by decide) (by decide)), if_neg (hk 6 (by decide) (by decide)), if_pos hy] at eu
        rw [hc.2.2.2.2.1 rfl, eu]
        exact sm_zbC (il_pews hT h hκ hD)
      by_cases h8 : j = 8
      · subst h8
        rw [if_neg (hk 0 (by decide) (by decide)), if_neg (hk 3 (by decide) (by decide)), if_neg (hk 5 (by decide) (by decide)), if_neg (hk 6 (by decide) (by decide)), if_neg (hk 7 (by decide) (by decide)), if_pos hy] at eu
        rw [hc.2.2.2.2.2.1 rfl, eu]
        exact sm_zbC (il_sits hT h hκ hD)
      by_cases h9 : j = 9
      · subst h9
        rw [if_neg (hk 0 (by decide) (by decide)), if_neg (hk 3 (by decide) (by decide)), if_neg (hk 5 (by decide) (by decide)), if_neg (hk 6 (by decide) (by decide)), if_neg (hk 7 (by decide) (by decide)), if_neg (hk 8 (by decide) (by decide)), if_pos hy] at eu
        rw [hc.2.2.2.2.2.2 rfl, eu]
        exact sm_zbC (il_field hT h hκ hD)
      rw [if_neg (hk 0 (by decide) (by omega)), if_neg (hk 3 (by decide) (by omega)), if_neg (hk 5 (by decide) (by omega)), if_neg (hk 6 (by decide) (by omega)), if_neg (hk 7 (by decide) (by omega)), if_neg (hk 8 (by decide) (by omega)), if_neg (hk 9 (by decide) (by omega))] at eu
      exact sm_bad h (k := 1) (by decide) (il_cN h hj (cw.trans e) ⟨h0, h3, h5, h6, h7, h8, h9⟩) eu
  · rw [if_neg hκ] at cw
    have hno : ∀ k, ¬ (κ = 1 ∧ rwd l = nI k) := fun k q => hκ q.1
    rw [if_neg (hno 0), if_neg (hno 3), if_neg (hno 5), if_neg (hno 6), if_neg (hno 7), if_neg (hno 8), if_neg (hno 9)] at eu
    exact sm_bad h (k := 1) (by decide) (il_cM h cw) eu
theorem L37_isl {s : Mm} (hi : i ≤ 940) (hs : f_Tokens_step z_Law s 2 = some m) : f_Reader_readText_L37 z_Law 1 (nI 0) (nI i, s) = if m.1 2 4 = nI 0 then some (.inr (.inl m)) else (f_Reader_islandLine z_Law m 1).bind (fun q => f_Reader_readText_J90 z_Law 1 (nI 0) (nI i) q.1 q.2) := by
  unfold f_Reader_readText_L37
  simp (disch := omega) only [fl, Nat.reduceAdd, lt_f, ↓reduceIte, hs, Option.bind_some]
theorem L88_isl (u : Mm) : f_Mod_island_L88 z_Law 169 u = if u.1 169 11 = nI 0 then some (.inr (.inr u)) else (f_Mod_line z_Law u 169).bind (fun q => if q.1 = nI 0 then some (.inr (.inl (mN - q.2.1 169 16, q.2))) else (f_Mod_sign z_Law q.2 169 (nI 59)).bind (fun q' => if q'.1 = nI 0 then some (.inr (.inl (mN - q'.2.1 169 16, q'.2))) else some (.inl (kI q'.2 169 19 (q'.2.1 169 19 + nI 1))))) := by
  unfold f_Mod_island_L88
  simp only [fl, fmN, mm_lt]
def fil (m : Mm) (o n : Nat) (v : Int32) : Mm := kF m o (fun k => if k < n then v else m.1 o k)
theorem fil_o {o n q : Nat} {v : Int32} (h : q ≠ o) : (fil m o n v).1 q = m.1 q := kF_o _ _ _ h
theorem fil_s {o n k : Nat} {v : Int32} (h : k < n) : (fil m o n v).1 o k = v := by unfold fil; rw [kF_s]; exact if_pos h
theorem row_fl {z : Nat → Nat} {o p n : Nat} {v : Int32} (hp : o + 1 = p) (hz : z p = n) (hn : n < 2 ^ 31) : f_Row_fill z m o v = some (fil m p n v) := by
  subst hp; rw [row_fill hz hn]; rfl
/-- an empty ISLAND in State b -/
def clr (m : Mm) (b : Nat) : Mm := kI (fil (kI (fil (fil (kI (fil (fil (kI (kI (kI (fil (fil (fil (fil (kI (kI m (b + 2) 1 (nI 0)) (b + 4) 1 (nI 0)) (b + 7) 10 (nI 0)) (b + 9) 10 (nI 0)) (b + 11) 10 (nI 0)) (b + 13) 80 mN) (b + 1) 6 (nI 1)) (b + 1) 7 (nI 8)) (b + 1) 8 (nI 0)) (b + 16) 8 mN) (b + 18) 8 (nI 0)) b 2 (nI 0)) (b + 24) 200 mN) (b + 26) 200 mN) b 5 (nI 0)) (b + 28) 8 (nI 1023)) b 7 (nI 0)
theorem st_clear {z : Nat → Nat} {b : Nat} (hz : SZ z b) : f_State_clear z m b = some (clr m b) := by
  obtain ⟨z1, z2, z3, z4, z5, z6, z7, z8, z9, z10, z11, z12, z13, z14⟩ := hz
  unfold f_State_clear f_Island_clear f_Names_clear f_Hands_clear f_State_clearRoll
  simp only [fl, fmN, mm_lt, Option.bind_some]
  rw [row_fl (p := b + 7) rfl z3 (by decide), Option.bind_some, row_fl (p := b + 9) rfl z4 (by decide), Option.bind_some, row_fl (p := b + 11) rfl z5 (by decide), Option.bind_some, row_fl (p := b + 13) rfl z6 (by decide), Option.bind_some, Option.bind_some, row_fl (p := b + 16) rfl z7 (by decide), Option.bind_some, row_fl (p := b + 18) rfl z8 (by decide), Option.bind_some, Option.bind_some, row_fl (p := b + 24) rfl z9 (by decide), Option.bind_some, row_fl (p := b + 26) rfl z10 (by decide), Option.bind_some, row_fl (p := b + 28) rfl z11 (by decide), Option.bind_some, Option.bind_some]
  rfl
theorem clr_o {q b : Nat} (h : q < b ∨ b + 35 ≤ q) : (clr m b).1 q = m.1 q := by
  unfold clr
  simp (disch := omega) only [kI_o, fil_o]
theorem clr_2 {b : Nat} : (clr m b).2 = m.2 := rfl
/-- what the rows of an empty ISLAND say -/
def H0 (H : Nat → Int32) : Prop := (∀ k, k < 123 → k ≠ 2 → k ≠ 3 → H k = nI 0) ∧ H 2 = nI 1 ∧ H 3 = nI 8 ∧ ∀ k, k < 8 → H (123 + k) = mN
theorem clr_Co {H : Nat → Int32} {N : Nat → Int64} (h0 : H0 H) (ha : ∀ q, 5 ≤ q → q < 40 → a.1 q = (clr m 5).1 q) : Co a H N := by
  obtain ⟨g1, g2, g3, g4⟩ := h0
  have esn : sn H = 0 := cl_n (g1 0 (by omega) (by omega) (by omega)) (by omega)
  have esm : sm H = 0 := cl_n (g1 1 (by omega) (by omega) (by omega)) (by omega)
  have epw : pw H = 1 := cl_n g2 (by omega)
  have esc : sc H = 8 := cl_n g3 (by omega)
  refine ⟨⟨?_, ?_, ?_, ?_, ?_, fun x hx => ?_, fun x hx => ?_, fun x hx => ?_, fun k x hk hx => ?_, fun k x hk hx => ?_⟩, ⟨fun x hx => by omega, fun k hk => by omega⟩, ⟨fun k hk => ?_, fun k hk => ?_⟩, ?_, fun x h1 h2 => g1 _ (by omega) (by omega) (by omega)⟩
  · rw [g1 0 (by omega) (by omega) (by omega), ha _ (by decide) (by decide)]; unfold clr; simp (disch := omega) only [kI_o, kI_f, kI_e, fil_o, fil_s]
  · rw [g1 1 (by omega) (by omega) (by omega), ha _ (by decide) (by decide)]; unfold clr; simp (disch := omega) only [kI_o, kI_f, kI_e, fil_o, fil_s]
  · rw [g2, ha _ (by decide) (by decide)]; unfold clr; simp (disch := omega) only [kI_o, kI_f, kI_e, fil_o, fil_s]
  · rw [g3, ha _ (by decide) (by decide)]; unfold clr; simp (disch := omega) only [kI_o, kI_f, kI_e, fil_o, fil_s]
  · rw [g1 4 (by omega) (by omega) (by omega), ha _ (by decide) (by decide)]; unfold clr; simp (disch := omega) only [kI_o, kI_f, kI_e, fil_o, fil_s]
  · rw [g1 _ (by omega) (by omega) (by omega), ha _ (by decide) (by decide)]; unfold clr; simp (disch := omega) only [kI_o, kI_f, kI_e, fil_o, fil_s]
  · rw [g1 _ (by omega) (by omega) (by omega), ha _ (by decide) (by decide)]; unfold clr; simp (disch := omega) only [kI_o, kI_f, kI_e, fil_o, fil_s]
  · rw [g1 _ (by omega) (by omega) (by omega), ha _ (by decide) (by decide)]; unfold clr; simp (disch := omega) only [kI_o, kI_f, kI_e, fil_o, fil_s]
  · rw [g1 _ (by omega) (by omega) (by omega), ha _ (by decide) (by decide)]; unfold clr; simp (disch := omega) only [kI_o, kI_f, kI_e, fil_o, fil_s]; decide
  · exact Or.inl (g1 _ (by omega) (by omega) (by omega))
  · rw [g4 k hk, ha _ (by decide) (by decide)]; unfold clr; simp (disch := omega) only [kI_o, kI_f, kI_e, fil_o, fil_s]
  · rw [g1 _ (by omega) (by omega) (by omega), ha _ (by decide) (by decide)]; unfold clr; simp (disch := omega) only [kI_o, kI_f, kI_e, fil_o, fil_s]
  · unfold InvH
    rw [esn, esm, epw, esc]
    refine ⟨⟨g1 0 (by omega) (by omega) (by omega), by omega⟩, ⟨g1 1 (by omega) (by omega) (by omega), by omega⟩, ⟨g2, by omega, by omega⟩, ⟨g3, by omega, by omega⟩, fun k hk => Or.inl (g4 k hk), fun k _ hk => g4 k hk, fun j k h1 h2 _ => g4 k h2, fun x y hx hy => ?_⟩
    rw [g1 _ (by omega) (by omega) (by omega), g1 _ (by omega) (by omega) (by omega), b_nI0, b_nI0]
theorem L39_isl : ∃ U, mm_lp (f_Mod_island_L39 z_Law 169) (nI 0, u) = some U ∧ (∀ q, q ≠ 172 → U.1 q = u.1 q) ∧ U.2 = u.2 ∧ ∀ k, k < 131 → U.1 172 k = if k < 123 then nI 0 else mN := by
  refine lp_ix (fun j s => s.1 = nI j ∧ (∀ q, q ≠ 172 → s.2.1 q = u.1 q) ∧ s.2.2 = u.2 ∧ ∀ k, k < j → s.2.1 172 k = if k < 123 then nI 0 else mN) 131 (fun j s hj hI => ?_) (fun s hI => ?_) ⟨rfl, fun _ _ => rfl, rfl, fun k hk => absurd hk (by omega)⟩
  · obtain ⟨c, q⟩ := s
    obtain ⟨h1, h2, h3, h4⟩ := hI
    dsimp only at h1 h2 h3 h4
    subst h1
    refine ⟨(nI (j + 1), kI q 172 j (if j < 123 then nI 0 else mN)), ?_, rfl, fun o ho => (kI_o _ _ _ _ ho).trans (h2 o ho), h3, fun k hk => ?_⟩
    · unfold f_Mod_island_L39
      by_cases g : j < 123
      · simp (disch := omega) only [fl, mm_lt, Nat.reduceAdd, le_f, lt_t, ↓reduceIte, zq_172, st_nI, nI_add, Option.bind_some, if_pos g]
      · simp (disch := omega) only [fl, fmN, mm_lt, Nat.reduceAdd, le_f, lt_f, ↓reduceIte, zq_172, st_nI, nI_add, Option.bind_some, if_neg g]
    · show (kI q 172 j _).1 172 k = _
      rw [kI_at]
      by_cases g : k = j
      · rw [if_pos g, g]
      · rw [if_neg g]; exact h4 k (by omega)
  · obtain ⟨c, q⟩ := s
    obtain ⟨h1, h2, h3, h4⟩ := hI
    dsimp only at h1 h2 h3 h4
    subst h1
    refine ⟨q, ?_, h2, h3, h4⟩
    unfold f_Mod_island_L39
    simp (disch := omega) only [fl, le_t, ↓reduceIte]
theorem L133_isl : ∃ U, mm_lp (f_Mod_island_L133 z_Law 169) (nI 0, u) = some U ∧ (∀ q, q ≠ 171 → U.1 q = u.1 q) ∧ U.2 = u.2 ∧ ∀ k, k < 744 → U.1 171 k = if k < 131 then u.1 172 k else nI 0 := by
  refine lp_ix (fun j s => s.1 = nI j ∧ (∀ q, q ≠ 171 → s.2.1 q = u.1 q) ∧ s.2.2 = u.2 ∧ ∀ k, k < j → s.2.1 171 k = if k < 131 then u.1 172 k else nI 0) 744 (fun j s hj hI => ?_) (fun s hI => ?_) ⟨rfl, fun _ _ => rfl, rfl, fun k hk => absurd hk (by omega)⟩
  · obtain ⟨c, q⟩ := s
    obtain ⟨h1, h2, h3, h4⟩ := hI
    dsimp only at h1 h2 h3 h4
    subst h1
    have e172 : q.1 172 = u.1 172 := h2 172 (by decide)
    refine ⟨(nI (j + 1), kI q 171 j (if j < 131 then u.1 172 j else nI 0)), ?_, rfl, fun o ho => (kI_o _ _ _ _ ho).trans (h2 o ho), h3, fun k hk => ?_⟩
    · unfold f_Mod_island_L133
      by_cases g : j < 131
      · simp (disch := omega) only [fl, mm_lt, Nat.reduceAdd, le_f, ↓reduceIte, zq_172, zq_171, e172, ld_nI, st_nI, nI_add, Option.bind_some, if_pos g]
      · simp (disch := omega) only [fl, mm_lt, Nat.reduceAdd, le_f, le_t, ↓reduceIte, zq_172, zq_171, st_nI, nI_add, Option.bind_some, if_neg g]
    · show (kI q 171 j _).1 171 k = _
      rw [kI_at]
      by_cases g : k = j
      · rw [if_pos g, g]
      · rw [if_neg g]; exact h4 k (by omega)
  · obtain ⟨c, q⟩ := s
    obtain ⟨h1, h2, h3, h4⟩ := hI
    dsimp only at h1 h2 h3 h4
    subst h1
    refine ⟨q, ?_, h2, h3, h4⟩
    unfold f_Mod_island_L133
    simp (disch := omega) only [fl, le_t, ↓reduceIte]
theorem L171_isl : ∃ U, mm_lp (f_Mod_island_L171 z_Law 169) (nI 0, u) = some U ∧ U.1 = u.1 ∧ (∀ q, q ≠ 174 → U.2 q = u.2 q) ∧ ∀ k, k < 18 → U.2 174 k = u.2 174 (18 + k) := by
  have z174 : z_Law 174 = 36 := rfl
  refine lp_ix (fun j s => s.1 = nI j ∧ s.2.1 = u.1 ∧ (∀ q, q ≠ 174 → s.2.2 q = u.2 q) ∧ (∀ k, k < j → s.2.2 174 k = u.2 174 (18 + k)) ∧ ∀ k, 18 ≤ k → s.2.2 174 k = u.2 174 k) 18 (fun j s hj hI => ?_) (fun s hI => ?_) ⟨rfl, rfl, fun _ _ => rfl, fun k hk => absurd hk (by omega), fun _ _ => rfl⟩
  · obtain ⟨c, q⟩ := s
    obtain ⟨h1, h2, h3, h4, h5⟩ := hI
    dsimp only at h1 h2 h3 h4 h5
    subst h1
    have e18 := h5 (18 + j) (by omega)
    refine ⟨(nI (j + 1), kL q 174 j (u.2 174 (18 + j))), ?_, rfl, h2, fun o ho => (kL_o _ _ _ _ ho).trans (h3 o ho), fun k hk => ?_, fun k hk => ?_⟩
    · unfold f_Mod_island_L171
      simp (disch := omega) only [fl, mm_lt, Nat.reduceAdd, le_f, ↓reduceIte, z174, nI_add, ldL_nI, stL_nI, Option.bind_some, e18]
    · show (kL q 174 j _).2 174 k = _
      rw [kL_at]
      by_cases g : k = j
      · rw [if_pos g, g]
      · rw [if_neg g]; exact h4 k (by omega)
    · show (kL q 174 j _).2 174 k = _
      rw [kL_at, if_neg (by omega)]; exact h5 k hk
  · obtain ⟨c, q⟩ := s
    obtain ⟨h1, h2, h3, h4, h5⟩ := hI
    dsimp only at h1 h2 h3 h4 h5
    subst h1
    refine ⟨q, ?_, h2, h3, h4⟩
    unfold f_Mod_island_L171
    simp (disch := omega) only [fl, le_t, ↓reduceIte]
theorem Inv_isl {S' H : Nat → Int32} (hI : InvH H) (e1 : ∀ i, i < 131 → S' i = H i) (e2 : ∀ i, 131 ≤ i → i < 744 → S' i = nI 0) : Inv S' := by
  have esn := sn_c (e1 0 (by decide))
  have esm := sm_c (e1 1 (by decide))
  have epw := pw_c (e1 2 (by decide))
  have esc := sc_c (e1 3 (by decide))
  have esp : sp S' = 0 := cl_n (e2 131 (by decide) (by decide)) (by omega)
  have esr : sr S' = 0 := cl_n (e2 532 (by decide) (by decide)) (by omega)
  have esb : sb S' = 0 := cl_n (e2 623 (by decide) (by decide)) (by omega)
  unfold Inv
  rw [esn, esm, epw, esc, esp, esr, esb, e1 0 (by decide), e1 1 (by decide), e1 2 (by decide), e1 3 (by decide), e2 131 (by decide) (by decide), e2 532 (by decide) (by decide), e2 623 (by decide) (by decide)]
  refine ⟨hI.1, hI.2.1, hI.2.2.1, hI.2.2.2.1, ⟨rfl, by omega⟩, ⟨rfl, by omega⟩, ⟨rfl, by omega⟩, fun k hk => ?_, fun k h1 h2 => ?_, fun j k h1 h2 h3 => ?_, fun t ht => by omega, fun t k h1 h2 => by omega, fun x y hx hy => ?_, fun i hi => by omega, fun i hi => by omega, fun h => absurd rfl h⟩
  · rw [e1 _ (by omega)]; exact hI.2.2.2.2.1 k hk
  · rw [e1 _ (by omega)]; exact hI.2.2.2.2.2.1 k h1 h2
  · rw [e1 _ (by omega), e1 _ (by omega)] at h3; rw [e1 _ (by omega)]; exact hI.2.2.2.2.2.2.1 j k h1 h2 h3
  · rw [e1 _ (by omega), e1 _ (by omega)]; exact hI.2.2.2.2.2.2.2 x y hx hy
theorem SR_isl {S' H : Nat → Int32} {N N' : Nat → Int64} (hC : Co m H N) (h5 : m.1 5 2 = nI 0 ∧ m.1 5 5 = nI 0 ∧ m.1 5 7 = nI 0) (h33 : ∀ k, k < 8 → m.1 33 k = nI 1023) (e1 : ∀ i, i < 131 → S' i = H i) (e2 : ∀ i, 131 ≤ i → i < 744 → S' i = nI 0) (eN : ∀ i, i < 18 → N' i = N i) : SR m 5 S' N' := by
  have n10 := hC.2.2.2.1.1.2
  have m8 := hC.2.2.2.1.2.1.2
  have esm := sm_c (e1 1 (by decide))
  have esp : sp S' = 0 := cl_n (e2 131 (by decide) (by decide)) (by omega)
  have esr : sr S' = 0 := cl_n (e2 532 (by decide) (by decide)) (by omega)
  have esb : sb S' = 0 := cl_n (e2 623 (by decide) (by decide)) (by omega)
  unfold SR
  rw [esp, esr, esb, esm, e2 131 (by decide) (by decide), e2 532 (by decide) (by decide), e2 623 (by decide) (by decide)]
  exact ⟨IR_cong hC.1 (fun i hi => e1 i (by omega)), NR_cong hC.2.1 n10 m8 (e1 0 (by decide)) (e1 1 (by decide)) eN, HR_cong hC.2.2.1 (fun i hi => e1 i (by omega)), h5.1, fun t k ht => by omega, fun t k h1 h2 => by omega, h5.2.1, fun k hk => h33 k (by omega), h5.2.2, fun i hi => by omega⟩
end OPI
