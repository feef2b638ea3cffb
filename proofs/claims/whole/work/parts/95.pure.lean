section START
variable {σ σ0 m m' u : Mm} {S : Nat → Int32} {N : Nat → Int64} {b b' : Nat}
def shf (b : Nat) (σ0 σ : Mm) : Prop := ∀ j, j < 35 → σ.1 (b + j) = σ0.1 j
theorem shf_kI {p k : Nat} {v : Int32} (h : shf b σ0 σ) : shf b (kI σ0 p k v) (kI σ (b + p) k v) := by
  intro j hj
  by_cases g : j = p
  · subst g
    funext q
    rw [kI_at, kI_at, h j hj]
  · rw [kI_o _ _ _ _ (by omega), kI_o _ _ _ _ g, h j hj]
theorem shf_fil {p n : Nat} {v : Int32} (h : shf b σ0 σ) : shf b (fil σ0 p n v) (fil σ (b + p) n v) := by
  intro j hj
  by_cases g : j = p
  · subst g
    funext q
    unfold fil
    rw [kF_s, kF_s, h j hj]
  · rw [fil_o (by omega), fil_o g, h j hj]
theorem clr_shf (h : shf b σ0 σ) : shf b (clr σ0 0) (clr σ b) := by
  unfold clr
  simp only [Nat.zero_add]
  exact shf_kI (p := 0) (shf_fil (shf_kI (p := 0) (shf_fil (shf_fil (shf_kI (p := 0) (shf_fil (shf_fil (shf_kI (shf_kI (shf_kI (shf_fil (shf_fil (shf_fil (shf_fil (shf_kI (shf_kI h))))))))))))))))
theorem SR_tr (h : SR m b S N) (e1 : ∀ j, j < 35 → m'.1 (b' + j) = m.1 (b + j)) (e2 : ∀ j, j < 35 → m'.2 (b' + j) = m.2 (b + j)) : SR m' b' S N := by
  have e0 : m'.1 b' = m.1 b := e1 0 (by decide)
  have q1 := e1 1 (by decide)
  have q2 := e1 2 (by decide)
  have q4 := e1 4 (by decide)
  have q7 := e1 7 (by decide)
  have q9 := e1 9 (by decide)
  have q11 := e1 11 (by decide)
  have q13 := e1 13 (by decide)
  have q16 := e1 16 (by decide)
  have q18 := e1 18 (by decide)
  have q24 := e1 24 (by decide)
  have q26 := e1 26 (by decide)
  have q28 := e1 28 (by decide)
  have q30 := e1 30 (by decide)
  have q32 := e1 32 (by decide)
  have q34 := e1 34 (by decide)
  have l3 := e2 3 (by decide)
  have l5 := e2 5 (by decide)
  unfold SR IR NR HR at h ⊢
  simp only [Nat.add_assoc, Nat.reduceAdd] at h ⊢
  rw [e0, q1, q2, q4, q7, q9, q11, q13, q16, q18, q24, q26, q28, q30, q32, q34, l3, l5]
  exact h
theorem SZ_st : SZ z_State 0 := by refine ⟨rfl, rfl, rfl, rfl, rfl, rfl, rfl, rfl, rfl, rfl, rfl, rfl, rfl, rfl⟩
theorem md_init : ∃ σM : Mm, f_Mod_init2 z_Mod (kI (kI mm_0 0 26 (-1)) 0 35 (-1)) 0 = some σM ∧ (∀ q, q ≠ 2 → σM.1 q = (kI (kI mm_0 0 26 (-1)) 0 35 (-1)).1 q) ∧ (∀ k, σM.1 2 k = if 123 ≤ k ∧ k < 131 then mN else if k = 2 then nI 1 else if k = 3 then nI 8 else nI 0) ∧ (∀ q, q ≠ 6 → σM.2 q = mm_0.2 q) ∧ ∀ k, k < 17 → σM.2 6 k = lN (resv.getD k 0) := by
  obtain ⟨A, eA⟩ : ∃ A, kL (kL (kL (kL (kL (kL (kL (kL (kL (kL (kL (kL (kL (kL (kL (kL (kL (kI (kI mm_0 0 26 (-1)) 0 35 (-1)) 6 0 (lN 1851878757)) 6 1 (lN 109356082488676)) 6 2 (lN 123563917862244)) 6 3 (lN 448546567013)) 6 4 (lN 448545973363)) 6 5 (lN 512735736947)) 6 6 (lN 1717925220)) 6 7 (lN 1885697907)) 6 8 (lN 1936290931)) 6 9 (lN 439854918756)) 6 10 (lN 6840691)) 6 11 (lN 7237492)) 6 12 (lN 1937203568)) 6 13 (lN 1734964837)) 6 14 (lN 1685221232)) 6 15 (lN 1952541541)) 6 16 (lN 500135191653) = A := ⟨_, rfl⟩
  obtain ⟨B, eB⟩ : ∃ B, kI (kI A 2 2 (nI 1)) 2 3 (nI 8) = B := ⟨_, rfl⟩
  have z6 : z_Mod 6 = 17 := rfl
  have z2 : z_Mod 2 = 744 := rfl
  have key : ∃ U, mm_lp (f_Mod_init_L358 z_Mod 0) (nI 0, B) = some U ∧ (∀ q, q ≠ 2 → U.1 q = B.1 q) ∧ U.2 = B.2 ∧ ∀ k, U.1 2 k = if 123 ≤ k ∧ k < 123 + 8 then mN else B.1 2 k := by
    refine lp_ix (fun j s => s.1 = nI j ∧ (∀ q, q ≠ 2 → s.2.1 q = B.1 q) ∧ s.2.2 = B.2 ∧ ∀ k, s.2.1 2 k = if 123 ≤ k ∧ k < 123 + j then mN else B.1 2 k) 8 (fun j s hj hI => ?_) (fun s hI => ?_) ⟨rfl, fun _ _ => rfl, rfl, fun k => by rw [if_neg (by omega)]⟩
    · obtain ⟨c, q⟩ := s
      obtain ⟨h1, h2, h3, h4⟩ := hI
      dsimp only at h1 h2 h3 h4
      subst h1
      refine ⟨(nI (j + 1), kI q 2 (123 + j) mN), ?_, rfl, fun o ho => (kI_o _ _ _ _ ho).trans (h2 o ho), h3, fun k => ?_⟩
      · unfold f_Mod_init_L358
        simp (disch := omega) only [fl, fmN, mm_lt, Nat.reduceAdd, le_f, ↓reduceIte, z2, st_nI, nI_add, Option.bind_some]
      · show (kI q 2 (123 + j) mN).1 2 k = _
        rw [kI_at]
        by_cases g : k = 123 + j
        · rw [if_pos g, if_pos (by omega)]
        · rw [if_neg g, h4 k]
          by_cases g2 : 123 ≤ k ∧ k < 123 + j
          · rw [if_pos g2, if_pos (by omega)]
          · rw [if_neg g2, if_neg (by omega)]
    · obtain ⟨c, q⟩ := s
      obtain ⟨h1, h2, h3, h4⟩ := hI
      dsimp only at h1 h2 h3 h4
      subst h1
      refine ⟨q, ?_, h2, h3, h4⟩
      unfold f_Mod_init_L358
      simp (disch := omega) only [fl, le_t, ↓reduceIte]
  obtain ⟨U, k1, k2, k3, k4⟩ := key
  have A1 : A.1 = (kI (kI mm_0 0 26 (-1)) 0 35 (-1)).1 := by rw [← eA]; rfl
  refine ⟨U, ?_, fun q hq => ?_, fun k => ?_, fun q hq => ?_, fun k hk => ?_⟩
  · unfold f_Mod_init2
    simp (disch := omega) only [Nat.reduceAdd, Nat.zero_add, fl64, fl, z6, z2, stL_nI, st_nI, Option.bind_some]
    rw [show (-nI 1) = (-1 : Int32) from by rw [fmN, fmN'], eA, eB, k1]
    rfl
  · rw [k2 q hq, ← eB, kI_o _ _ _ _ hq, kI_o _ _ _ _ hq, A1]
  · rw [k4 k, ← eB, kI_at, kI_at, A1, kI_o _ _ _ _ (by decide), kI_o _ _ _ _ (by decide)]
    by_cases g : k = 3
    · subst g; rfl
    · rw [if_neg g]
      by_cases g2 : k = 2
      · subst g2; rfl
      · rw [if_neg g2, if_neg g2, if_neg g]; rfl
  · rw [k3, ← eB]
    show A.2 q = _
    rw [← eA]
    simp (disch := omega) only [kL_o]
    rfl
  · rw [k3, ← eB]
    show A.2 6 k = _
    rw [← eA]
    simp only [kL_at]
    match k, hk with
    | 0, _ => rfl
    | 1, _ => rfl
    | 2, _ => rfl
    | 3, _ => rfl
    | 4, _ => rfl
    | 5, _ => rfl
    | 6, _ => rfl
    | 7, _ => rfl
    | 8, _ => rfl
    | 9, _ => rfl
    | 10, _ => rfl
    | 11, _ => rfl
    | 12, _ => rfl
    | 13, _ => rfl
    | 14, _ => rfl
    | 15, _ => rfl
    | 16, _ => rfl
    | k + 17, h => exact absurd h (by omega)
end START
theorem whole_pure (xs : Nat → Int32) (L : Nat) (hL : L ≤ 3072) : ∃ σS σM : Mm, f_State_clear z_State mm_0 0 = some σS ∧ f_Mod_init2 z_Mod (kI (kI mm_0 0 26 (-1)) 0 35 (-1)) 0 = some σM ∧ f_law z_Law xs L (mm_Law σS σM) = some 1 := by
  obtain ⟨σM, e, s1, s2, s3, s4⟩ := md_init
  refine ⟨clr mm_0 0, σM, st_clear SZ_st, e, law_all hL ?_⟩
  obtain ⟨m, em⟩ : ∃ m, mm_Law (clr mm_0 0) σM = m := ⟨_, rfl⟩
  have mH : ∀ q, q < 169 → m.1 q = (mm_Hat (clr mm_0 0)).1 q ∧ m.2 q = (mm_Hat (clr mm_0 0)).2 q := fun q hq => by
    rw [← em]
    refine ⟨?_, ?_⟩
    · show (if 169 ≤ q ∧ q < 169 + 21 then _ else (if 0 ≤ q ∧ q < 0 + 169 then _ else _)) = _
      rw [if_neg (by omega), if_pos (by omega), Nat.sub_zero]
    · show (if 169 ≤ q ∧ q < 169 + 21 then _ else (if 0 ≤ q ∧ q < 0 + 169 then _ else _)) = _
      rw [if_neg (by omega), if_pos (by omega), Nat.sub_zero]
  have mM : ∀ j, j < 21 → m.1 (169 + j) = σM.1 j ∧ m.2 (169 + j) = σM.2 j := fun j hj => by
    rw [← em]
    refine ⟨?_, ?_⟩
    · show (if 169 ≤ 169 + j ∧ 169 + j < 169 + 21 then _ else _) = _
      rw [if_pos (by omega), Nat.add_sub_cancel_left]
    · show (if 169 ≤ 169 + j ∧ 169 + j < 169 + 21 then _ else _) = _
      rw [if_pos (by omega), Nat.add_sub_cancel_left]
  rw [em]
  have m0 : m.1 0 = mm_0.1 0 := (mH 0 (by decide)).1
  have m40 : m.1 40 = mm_0.1 40 := (mH 40 (by decide)).1
  have m47 : m.1 47 1 = mN := by rw [(mH 47 (by decide)).1]; rfl
  have m169 : ∀ k, k ≠ 26 → k ≠ 35 → m.1 169 k = nI 0 := fun k k1 k2 => by
    rw [show m.1 169 = σM.1 0 from (mM 0 (by decide)).1, s1 0 (by decide), kI_f k2, kI_f k1]; rfl
  have m26 : m.1 169 26 = mN := by
    rw [show m.1 169 = σM.1 0 from (mM 0 (by decide)).1, s1 0 (by decide), kI_f (by decide), kI_e]; rfl
  have m35 : m.1 169 35 = mN := by
    rw [show m.1 169 = σM.1 0 from (mM 0 (by decide)).1, s1 0 (by decide), kI_e]; rfl
  have m189 : ∀ k, m.1 189 k = nI 0 := fun k => by
    rw [show m.1 189 = σM.1 20 from (mM 20 (by decide)).1, s1 20 (by decide), kI_o _ _ _ _ (by decide), kI_o _ _ _ _ (by decide)]; rfl
  have m171 : m.1 171 = σM.1 2 := (mM 2 (by decide)).1
  have hH0 : H0 (m.1 171) := by
    rw [m171]
    refine ⟨fun k hk k2 k3 => ?_, ?_, ?_, fun k hk => ?_⟩
    · rw [s2, if_neg (by omega), if_neg k2, if_neg k3]
    · rw [s2, if_neg (by omega), if_pos rfl]
    · rw [s2, if_neg (by omega), if_neg (by decide), if_pos rfl]
    · rw [s2, if_pos (by omega)]
  have hz : ∀ i, 131 ≤ i → i < 744 → m.1 171 i = nI 0 := fun i h1 h2 => by
    rw [m171, s2, if_neg (by omega), if_neg (by omega), if_neg (by omega)]
  have hC : Co (clr mm_0 5) (m.1 171) (m.2 174) := clr_Co (m := mm_0) hH0 (fun _ _ _ => rfl)
  have hv : Inv (m.1 171) := Inv_isl hC.2.2.2.1 (fun _ _ => rfl) hz
  have h5 : SR (clr mm_0 5) 5 (m.1 171) (m.2 174) := by
    refine SR_isl hC ⟨?_, ?_, ?_⟩ (fun k hk => ?_) (fun _ _ => rfl) hz (fun _ _ => rfl)
    · unfold clr; simp (disch := omega) only [kI_o, kI_f, kI_e, fil_o, fil_s]
    · unfold clr; simp (disch := omega) only [kI_o, kI_f, kI_e, fil_o, fil_s]
    · unfold clr; simp (disch := omega) only [kI_o, kI_f, kI_e, fil_o, fil_s]
    · unfold clr; simp (disch := omega) only [kI_o, kI_f, kI_e, fil_o, fil_s]
  have hsh := clr_shf (b := 5) (σ0 := mm_0) (σ := mm_0) (fun _ _ => rfl)
  have h60 : SR m 60 (m.1 171) (m.2 174) := by
    refine SR_tr h5 (fun j hj => ?_) (fun j hj => ?_)
    · rw [hsh j hj, (mH (60 + j) (by omega)).1]
      show (if 130 ≤ 60 + j ∧ 60 + j < 130 + 35 then _ else (if 95 ≤ 60 + j ∧ 60 + j < 95 + 35 then _ else (if 60 ≤ 60 + j ∧ 60 + j < 60 + 35 then (clr mm_0 0).1 (60 + j - 60) else _))) = _
      rw [if_neg (by omega), if_neg (by omega), if_pos (by omega), Nat.add_sub_cancel_left]
    · rw [(mH (60 + j) (by omega)).2]
      show (if 130 ≤ 60 + j ∧ 60 + j < 130 + 35 then _ else (if 95 ≤ 60 + j ∧ 60 + j < 95 + 35 then _ else (if 60 ≤ 60 + j ∧ 60 + j < 60 + 35 then (clr mm_0 0).2 (60 + j - 60) else _))) = _
      rw [if_neg (by omega), if_neg (by omega), if_pos (by omega)]
      rfl
  refine ⟨⟨0, by decide, by rw [m0]; rfl, m169 2 (by decide) (by decide), fun i hi => absurd hi (by omega)⟩, ?_, ⟨h60, hv⟩, ⟨0, by decide, by rw [m40]; rfl, Or.inr ⟨rfl, m26⟩, fun i hi => absurd hi (by omega)⟩, ⟨by rw [m47, m35], by rw [m47]; exact Or.inl rfl, fun i hi => ?_⟩, ⟨?_, ?_, fun h => ?_⟩, ⟨?_, ?_, fun h => ?_, ?_, ?_, fun h => ?_⟩, fun k hk => ?_⟩
  · rw [m0, m169 15 (by decide) (by decide)]; rfl
  · rw [m47] at hi
    have e9 : mN.toNatClampNeg = 0 := by decide +kernel
    omega
  · rw [m0, m169 32 (by decide) (by decide)]; rfl
  · rw [m0]; exact Or.inl rfl
  · rw [m0] at h; exact absurd h (by decide)
  · rw [m0, m189]; rfl
  · rw [m0]; exact Or.inl rfl
  · rw [m0] at h; exact absurd h (by decide)
  · rw [m0, m189]; rfl
  · rw [m0]; exact Or.inl rfl
  · rw [m0] at h; exact absurd h (by decide)
  · rw [show m.2 175 = σM.2 6 from (mM 6 (by decide)).2]; exact s4 k hk
