section LAW
variable {σ : Mm} {xs : Nat → Int32} {n i : Nat}
theorem lg_same (x : Int64) : lg_cmp x x = nI 0 := by rw [lg_eq0]
theorem th_surname (hR : RL σ) (a1 a2 : Int32) : ∃ k m1 b m2, f_Law_surname z_Law σ 0 a1 a2 190 = some (k, m1) ∧ f_Mod_surname z_Law m1 169 a1 a2 = some (b, m2) ∧ m2.1 169 0 = k ∧ (k = nI 0 ∧ m2.2 190 0 = b.toInt64 ∨ k = nI 1) ∧ RL m2 := by
  rcases op_surname hR a1 a2 with ⟨e, w, m, eM, e0, hr⟩ | ⟨v, u, e, hM⟩
  · refine ⟨nI 1, σ, w, m, ?_, eM, e0, Or.inr rfl, hr⟩
    unfold f_Law_surname
    rw [e]
    rfl
  · obtain ⟨m, eM, e0, e9, hr⟩ := hM (v.toInt64)
    refine ⟨nI 0, kL u 190 0 (v.toInt64), v, m, ?_, eM, e0, Or.inl ⟨rfl, e9⟩, hr⟩
    unfold f_Law_surname
    rw [e]
    rfl
theorem th_house (hR : RL σ) (a1 a2 : Int32) : ∃ k m1 b m2, f_Law_house z_Law σ 0 a1 a2 190 = some (k, m1) ∧ f_Mod_house z_Law m1 169 a1 a2 = some (b, m2) ∧ m2.1 169 0 = k ∧ (k = nI 0 ∧ m2.2 190 0 = b.toInt64 ∨ k = nI 1) ∧ RL m2 := by
  rcases op_house hR a1 a2 with ⟨e, w, m, eM, e0, hr⟩ | ⟨v, u, e, hM⟩
  · refine ⟨nI 1, σ, w, m, ?_, eM, e0, Or.inr rfl, hr⟩
    unfold f_Law_house
    rw [e]
    rfl
  · obtain ⟨m, eM, e0, e9, hr⟩ := hM (v.toInt64)
    refine ⟨nI 0, kL u 190 0 (v.toInt64), v, m, ?_, eM, e0, Or.inl ⟨rfl, e9⟩, hr⟩
    unfold f_Law_house
    rw [e]
    rfl
theorem th_value (hR : RL σ) (a1 a2 : Int32) : ∃ k m1 b m2, f_Law_value z_Law σ 0 a1 a2 190 = some (k, m1) ∧ f_Mod_value z_Law m1 169 a1 a2 = some (b, m2) ∧ m2.1 169 0 = k ∧ (k = nI 0 ∧ m2.2 190 0 = b.toInt64 ∨ k = nI 1) ∧ RL m2 := by
  rcases op_value hR a1 a2 with ⟨e, w, m, eM, e0, hr⟩ | ⟨v, u, e, hM⟩
  · refine ⟨nI 1, σ, w, m, ?_, eM, e0, Or.inr rfl, hr⟩
    unfold f_Law_value
    rw [e]
    rfl
  · obtain ⟨m, eM, e0, e9, hr⟩ := hM (v.toInt64)
    refine ⟨nI 0, kL u 190 0 (v.toInt64), v, m, ?_, eM, e0, Or.inl ⟨rfl, e9⟩, hr⟩
    unfold f_Law_value
    rw [e]
    rfl
theorem th_waiting (hR : RL σ) (a1 a2 : Int32) : ∃ k m1 b m2, f_Law_waiting z_Law σ 0 a1 a2 190 = some (k, m1) ∧ f_Mod_waiting z_Law m1 169 a1 a2 = some (b, m2) ∧ m2.1 169 0 = k ∧ (k = nI 0 ∧ m2.2 190 0 = b.toInt64 ∨ k = nI 1) ∧ RL m2 := by
  rcases op_waiting hR a1 a2 with ⟨e, w, m, eM, e0, hr⟩ | ⟨v, u, e, hM⟩
  · refine ⟨nI 1, σ, w, m, ?_, eM, e0, Or.inr rfl, hr⟩
    unfold f_Law_waiting
    rw [e]
    rfl
  · obtain ⟨m, eM, e0, e9, hr⟩ := hM (v.toInt64)
    refine ⟨nI 0, kL u 190 0 (v.toInt64), v, m, ?_, eM, e0, Or.inl ⟨rfl, e9⟩, hr⟩
    unfold f_Law_waiting
    rw [e]
    rfl
theorem th_wedding (hR : RL σ) (a1 a2 a3 a4 : Int32) : ∃ k m1 b m2, f_Law_wedding z_Law σ 0 a1 a2 a3 a4 190 = some (k, m1) ∧ f_Mod_wedding z_Law m1 169 a1 a2 a3 a4 = some (b, m2) ∧ m2.1 169 0 = k ∧ (k = nI 0 ∧ m2.2 190 0 = b.toInt64 ∨ k = nI 1) ∧ RL m2 := by
  rcases op_wedding hR a1 a2 a3 a4 with ⟨e, w, m, eM, e0, hr⟩ | ⟨v, u, e, hM⟩
  · refine ⟨nI 1, σ, w, m, ?_, eM, e0, Or.inr rfl, hr⟩
    unfold f_Law_wedding
    rw [e]
    rfl
  · obtain ⟨m, eM, e0, e9, hr⟩ := hM (v.toInt64)
    refine ⟨nI 0, kL u 190 0 (v.toInt64), v, m, ?_, eM, e0, Or.inl ⟨rfl, e9⟩, hr⟩
    unfold f_Law_wedding
    rw [e]
    rfl
theorem th_luck (hR : RL σ) (a1 a2 a3 : Int32) : ∃ k m1 b m2, f_Law_luck z_Law σ 0 a1 a2 a3 190 = some (k, m1) ∧ f_Mod_luck z_Law m1 169 a1 a2 a3 = some (b, m2) ∧ m2.1 169 0 = k ∧ (k = nI 0 ∧ m2.2 190 0 = b ∨ k = nI 1) ∧ RL m2 := by
  rcases op_luck hR a1 a2 a3 with ⟨e, w, m, eM, e0, hr⟩ | ⟨v, u, e, hM⟩
  · refine ⟨nI 1, σ, w, m, ?_, eM, e0, Or.inr rfl, hr⟩
    unfold f_Law_luck
    rw [e]
    rfl
  · obtain ⟨m, eM, e0, e9, hr⟩ := hM (v)
    refine ⟨nI 0, kL u 190 0 (v), v, m, ?_, eM, e0, Or.inl ⟨rfl, e9⟩, hr⟩
    unfold f_Law_luck
    rw [e]
    rfl
theorem law_step (hi : i + 6 ≤ n) (hn : n ≤ 3072) (hR : RL σ) : ∃ m, f_Law_L z_Law xs n (nI i, σ) = some (.inl (nI (i + 6), m)) ∧ RL m := by
  obtain ⟨a1, e1⟩ : ∃ a, xs (i + 1) = a := ⟨_, rfl⟩
  obtain ⟨a2, e2⟩ : ∃ a, xs (i + 2) = a := ⟨_, rfl⟩
  obtain ⟨a3, e3⟩ : ∃ a, xs (i + 3) = a := ⟨_, rfl⟩
  obtain ⟨a4, e4⟩ : ∃ a, xs (i + 4) = a := ⟨_, rfl⟩
  obtain ⟨a5, e5⟩ : ∃ a, xs (i + 5) = a := ⟨_, rfl⟩
  have l0 : mm_ldI xs n (nI i) = some (xs i) := ld_nI (by omega) (by omega)
  have l1 : mm_ldI xs n (nI i + 1) = some a1 := by rw [show (1 : Int32) = nI 1 from fl 1, nI_add, ld_nI (by omega) (by omega), e1]
  have l2 : mm_ldI xs n (nI i + 2) = some a2 := by rw [show (2 : Int32) = nI 2 from fl 2, nI_add, ld_nI (by omega) (by omega), e2]
  have l3 : mm_ldI xs n (nI i + 3) = some a3 := by rw [show (3 : Int32) = nI 3 from fl 3, nI_add, ld_nI (by omega) (by omega), e3]
  have l4 : mm_ldI xs n (nI i + 4) = some a4 := by rw [show (4 : Int32) = nI 4 from fl 4, nI_add, ld_nI (by omega) (by omega), e4]
  have l5 : mm_ldI xs n (nI i + 5) = some a5 := by rw [show (5 : Int32) = nI 5 from fl 5, nI_add, ld_nI (by omega) (by omega), e5]
  have l6 : nI i + 6 = nI (i + 6) := by rw [show (6 : Int32) = nI 6 from fl 6, nI_add]
  have hx : ¬ nI n - 6 < nI i := by
    rw [show (6 : Int32) = nI 6 from fl 6, nI_sub (by omega)]; exact nI_nlt (by omega) (by omega)
  obtain ⟨x, ex⟩ : ∃ x, xs i &&& 63 = x := ⟨_, rfl⟩
  unfold f_Law_L
  dsimp only
  rw [if_neg hx, l0]
  simp only [Option.bind_some, mm_lt, ex, l6]
  by_cases c0 : x = 0
  · rw [if_pos c0]
    obtain ⟨r, m1, m2, h1, h2, h3⟩ := op_feed hR a1 a2 a3 a4 a5
    exact ⟨m2, by simp only [l1, l2, l3, l4, l5, h1, h2, Option.bind_some, ↓reduceIte], h3⟩
  rw [if_neg c0]
  by_cases c1 : x = 1
  · rw [if_pos c1]
    obtain ⟨r, m1, m2, h1, h2, h3⟩ := op_end hR a1
    exact ⟨m2, by simp only [l1, h1, h2, Option.bind_some, ↓reduceIte], h3⟩
  rw [if_neg c1]
  by_cases c2 : x = 2
  · rw [if_pos c2]
    obtain ⟨r, m1, m2, h1, h2, h3⟩ := op_island hR 
    exact ⟨m2, by simp only [h1, h2, Option.bind_some, ↓reduceIte], h3⟩
  rw [if_neg c2]
  by_cases c3 : x = 3
  · rw [if_pos c3]
    obtain ⟨r, m, h1, h2, h3⟩ := op_fault hR 
    exact ⟨m, by simp only [h1, h2, Option.bind_some, ↓reduceIte], h3⟩
  rw [if_neg c3]
  by_cases c4 : x = 4
  · rw [if_pos c4]
    obtain ⟨k, m1, b, m2, h1, h2, h3, h4, h5⟩ := th_surname hR a1 a2
    refine ⟨m2, ?_, h5⟩
    simp only [l1, l2, h1, h2, Option.bind_some, f_Mod_thrown, h3, ↓reduceIte]
    rcases h4 with ⟨g1, g2⟩ | g1
    · rw [if_pos (show k = 0 from g1), show (0 : Int32) = nI 0 from rfl, ldL_nI (show 0 < z_Law 190 by decide) (by decide), Option.bind_some, g2, if_pos (lg_same _)]
    · rw [if_neg (show ¬ k = 0 from fun q => absurd (g1.symm.trans q) (by decide))]
  rw [if_neg c4]
  by_cases c5 : x = 5
  · rw [if_pos c5]
    obtain ⟨k, m1, b, m2, h1, h2, h3, h4, h5⟩ := th_house hR a1 a2
    refine ⟨m2, ?_, h5⟩
    simp only [l1, l2, h1, h2, Option.bind_some, f_Mod_thrown, h3, ↓reduceIte]
    rcases h4 with ⟨g1, g2⟩ | g1
    · rw [if_pos (show k = 0 from g1), show (0 : Int32) = nI 0 from rfl, ldL_nI (show 0 < z_Law 190 by decide) (by decide), Option.bind_some, g2, if_pos (lg_same _)]
    · rw [if_neg (show ¬ k = 0 from fun q => absurd (g1.symm.trans q) (by decide))]
  rw [if_neg c5]
  by_cases c6 : x = 6
  · rw [if_pos c6]
    obtain ⟨k, m1, b, m2, h1, h2, h3, h4, h5⟩ := th_value hR a1 a2
    refine ⟨m2, ?_, h5⟩
    simp only [l1, l2, h1, h2, Option.bind_some, f_Mod_thrown, h3, ↓reduceIte]
    rcases h4 with ⟨g1, g2⟩ | g1
    · rw [if_pos (show k = 0 from g1), show (0 : Int32) = nI 0 from rfl, ldL_nI (show 0 < z_Law 190 by decide) (by decide), Option.bind_some, g2, if_pos (lg_same _)]
    · rw [if_neg (show ¬ k = 0 from fun q => absurd (g1.symm.trans q) (by decide))]
  rw [if_neg c6]
  by_cases c7 : x = 7
  · rw [if_pos c7]
    obtain ⟨r, m1, m2, h1, h2, h3⟩ := op_spring hR a1
    exact ⟨m2, by simp only [l1, h1, h2, Option.bind_some, ↓reduceIte], h3⟩
  rw [if_neg c7]
  by_cases c8 : x = 8
  · rw [if_pos c8]
    obtain ⟨r, m, h1, h2, h3⟩ := op_held hR a1 a2
    exact ⟨m, by simp only [l1, l2, h1, h2, Option.bind_some, ↓reduceIte], h3⟩
  rw [if_neg c8]
  by_cases c9 : x = 9
  · rw [if_pos c9]
    obtain ⟨r, m1, m2, h1, h2, h3⟩ := op_swap hR a1 a2
    exact ⟨m2, by simp only [l1, l2, h1, h2, Option.bind_some, ↓reduceIte], h3⟩
  rw [if_neg c9]
  by_cases c10 : x = 10
  · rw [if_pos c10]
    obtain ⟨r, m1, m2, h1, h2, h3⟩ := op_ring hR 
    exact ⟨m2, by simp only [h1, h2, Option.bind_some, ↓reduceIte], h3⟩
  rw [if_neg c10]
  by_cases c11 : x = 11
  · rw [if_pos c11]
    obtain ⟨r, m, h1, h2, h3⟩ := op_ringAt hR a1
    exact ⟨m, by simp only [l1, h1, h2, Option.bind_some, ↓reduceIte], h3⟩
  rw [if_neg c11]
  by_cases c12 : x = 12
  · rw [if_pos c12]
    obtain ⟨r, m1, m2, h1, h2, h3⟩ := op_trade hR 
    exact ⟨m2, by simp only [h1, h2, Option.bind_some, ↓reduceIte], h3⟩
  rw [if_neg c12]
  by_cases c13 : x = 13
  · rw [if_pos c13]
    obtain ⟨r, m1, m2, h1, h2, h3⟩ := op_book hR 
    exact ⟨m2, by simp only [h1, h2, Option.bind_some, ↓reduceIte], h3⟩
  rw [if_neg c13]
  by_cases c14 : x = 14
  · rw [if_pos c14]
    obtain ⟨r, m1, m2, h1, h2, h3⟩ := op_go hR a1
    exact ⟨m2, by simp only [l1, h1, h2, Option.bind_some, ↓reduceIte], h3⟩
  rw [if_neg c14]
  by_cases c15 : x = 15
  · rw [if_pos c15]
    obtain ⟨r, m, h1, h2, h3⟩ := op_went hR a1
    exact ⟨m, by simp only [l1, h1, h2, Option.bind_some, ↓reduceIte], h3⟩
  rw [if_neg c15]
  by_cases c16 : x = 16
  · rw [if_pos c16]
    obtain ⟨r, m, h1, h2, h3⟩ := op_keeper hR a1 a2
    exact ⟨m, by simp only [l1, l2, h1, h2, Option.bind_some, ↓reduceIte], h3⟩
  rw [if_neg c16]
  by_cases c17 : x = 17
  · rw [if_pos c17]
    obtain ⟨r, m, h1, h2, h3⟩ := op_envy hR a1
    exact ⟨m, by simp only [l1, h1, h2, Option.bind_some, ↓reduceIte], h3⟩
  rw [if_neg c17]
  by_cases c18 : x = 18
  · rw [if_pos c18]
    obtain ⟨r, m, h1, h2, h3⟩ := op_worth hR 
    exact ⟨m, by simp only [h1, h2, Option.bind_some, ↓reduceIte], h3⟩
  rw [if_neg c18]
  by_cases c19 : x = 19
  · rw [if_pos c19]
    obtain ⟨k, m1, b, m2, h1, h2, h3, h4, h5⟩ := th_waiting hR a1 a2
    refine ⟨m2, ?_, h5⟩
    simp only [l1, l2, h1, h2, Option.bind_some, f_Mod_thrown, h3, ↓reduceIte]
    rcases h4 with ⟨g1, g2⟩ | g1
    · rw [if_pos (show k = 0 from g1), show (0 : Int32) = nI 0 from rfl, ldL_nI (show 0 < z_Law 190 by decide) (by decide), Option.bind_some, g2, if_pos (lg_same _)]
    · rw [if_neg (show ¬ k = 0 from fun q => absurd (g1.symm.trans q) (by decide))]
  rw [if_neg c19]
  by_cases c20 : x = 20
  · rw [if_pos c20]
    obtain ⟨k, m1, b, m2, h1, h2, h3, h4, h5⟩ := th_wedding hR a1 a2 a3 a4
    refine ⟨m2, ?_, h5⟩
    simp only [l1, l2, l3, l4, h1, h2, Option.bind_some, f_Mod_thrown, h3, ↓reduceIte]
    rcases h4 with ⟨g1, g2⟩ | g1
    · rw [if_pos (show k = 0 from g1), show (0 : Int32) = nI 0 from rfl, ldL_nI (show 0 < z_Law 190 by decide) (by decide), Option.bind_some, g2, if_pos (lg_same _)]
    · rw [if_neg (show ¬ k = 0 from fun q => absurd (g1.symm.trans q) (by decide))]
  rw [if_neg c20]
  by_cases c21 : x = 21
  · rw [if_pos c21]
    obtain ⟨r, m, h1, h2, h3⟩ := op_broken hR 
    exact ⟨m, by simp only [h1, h2, Option.bind_some, ↓reduceIte], h3⟩
  rw [if_neg c21]
  by_cases c22 : x = 22
  · rw [if_pos c22]
    obtain ⟨r, m1, m2, h1, h2, h3⟩ := op_seats hR 
    exact ⟨m2, by simp only [h1, h2, Option.bind_some, ↓reduceIte], h3⟩
  rw [if_neg c22]
  by_cases c23 : x = 23
  · rw [if_pos c23]
    obtain ⟨r, m, h1, h2, h3⟩ := op_seatOf hR a1
    exact ⟨m, by simp only [l1, h1, h2, Option.bind_some, ↓reduceIte], h3⟩
  rw [if_neg c23]
  by_cases c24 : x = 24
  · rw [if_pos c24]
    obtain ⟨r, m1, m2, h1, h2, h3⟩ := op_sit hR 
    exact ⟨m2, by simp only [h1, h2, Option.bind_some, ↓reduceIte], h3⟩
  rw [if_neg c24]
  by_cases c25 : x = 25
  · rw [if_pos c25]
    obtain ⟨r, m1, m2, h1, h2, h3⟩ := op_roll hR 
    exact ⟨m2, by simp only [h1, h2, Option.bind_some, ↓reduceIte], h3⟩
  rw [if_neg c25]
  by_cases c26 : x = 26
  · rw [if_pos c26]
    obtain ⟨r, m1, m2, h1, h2, h3⟩ := op_dealings hR 
    exact ⟨m2, by simp only [h1, h2, Option.bind_some, ↓reduceIte], h3⟩
  rw [if_neg c26]
  by_cases c27 : x = 27
  · rw [if_pos c27]
    obtain ⟨r, m1, m2, h1, h2, h3⟩ := op_dealt hR a1 a2
    exact ⟨m2, by simp only [l1, l2, h1, h2, Option.bind_some, ↓reduceIte], h3⟩
  rw [if_neg c27]
  by_cases c28 : x = 28
  · rw [if_pos c28]
    obtain ⟨r, m1, m2, h1, h2, h3⟩ := op_could hR a1
    exact ⟨m2, by simp only [l1, h1, h2, Option.bind_some, ↓reduceIte], h3⟩
  rw [if_neg c28]
  by_cases c29 : x = 29
  · rw [if_pos c29]
    obtain ⟨r, m1, m2, h1, h2, h3⟩ := op_grave hR 
    exact ⟨m2, by simp only [h1, h2, Option.bind_some, ↓reduceIte], h3⟩
  rw [if_neg c29]
  by_cases c30 : x = 30
  · rw [if_pos c30]
    obtain ⟨r, m, h1, h2, h3⟩ := op_lapsed hR a1
    exact ⟨m, by simp only [l1, h1, h2, Option.bind_some, ↓reduceIte], h3⟩
  rw [if_neg c30]
  by_cases c31 : x = 31
  · rw [if_pos c31]
    obtain ⟨k, m1, b, m2, h1, h2, h3, h4, h5⟩ := th_luck hR a1 a2 a3
    refine ⟨m2, ?_, h5⟩
    simp only [l1, l2, l3, h1, h2, Option.bind_some, f_Mod_thrown, h3, ↓reduceIte]
    rcases h4 with ⟨g1, g2⟩ | g1
    · rw [if_pos (show k = 0 from g1), show (0 : Int32) = nI 0 from rfl, ldL_nI (show 0 < z_Law 190 by decide) (by decide), Option.bind_some, g2, if_pos (lg_same _)]
    · rw [if_neg (show ¬ k = 0 from fun q => absurd (g1.symm.trans q) (by decide))]
  rw [if_neg c31]
  by_cases c32 : x = 32
  · rw [if_pos c32]
    obtain ⟨r, m1, m2, h1, h2, h3⟩ := op_unfair hR a1 a2 a3 a4
    exact ⟨m2, by simp only [l1, l2, l3, l4, h1, h2, Option.bind_some, ↓reduceIte], h3⟩
  rw [if_neg c32]
  by_cases c33 : x = 33
  · rw [if_pos c33]
    obtain ⟨r, m1, m2, h1, h2, h3⟩ := op_image hR a1
    exact ⟨m2, by simp only [l1, h1, h2, Option.bind_some, ↓reduceIte], h3⟩
  rw [if_neg c33]
  by_cases c34 : x = 34
  · rw [if_pos c34]
    obtain ⟨r, m1, m2, h1, h2, h3⟩ := op_restore hR a1
    exact ⟨m2, by simp only [l1, h1, h2, Option.bind_some, ↓reduceIte], h3⟩
  rw [if_neg c34]
  by_cases c35 : x = 35
  · rw [if_pos c35]
    obtain ⟨r, m, h1, h2, h3⟩ := op_count hR a1
    exact ⟨m, by simp only [l1, h1, h2, Option.bind_some, ↓reduceIte], h3⟩
  rw [if_neg c35]
  exact ⟨σ, rfl, hR⟩
theorem law_all (hn : n ≤ 3072) (hR : RL σ) : f_law z_Law xs n σ = some 1 := by
  have key : ∀ r j σ, j + r = n → RL σ → mm_lp (f_Law_L z_Law xs n) (nI j, σ) = some (.inr ()) := by
    intro r
    induction r using Nat.strongRecOn with
    | ind r ih =>
      intro j σ hj hR
      by_cases h6 : 6 ≤ r
      · obtain ⟨m, e, hm⟩ := law_step (xs := xs) (n := n) (i := j) (by omega) hn hR
        rw [mm_lp_step e]
        exact ih (r - 6) (by omega) (j + 6) m (by omega) hm
      · refine mm_lp_done ?_
        have hx : nI n - 6 < nI j := by
          rw [show (6 : Int32) = nI 6 from fl 6, fa_lt, nI_toInt (by omega)]
          by_cases g : 6 ≤ n
          · rw [nI_sub g, nI_toInt (by omega)]; omega
          · have e9 : (nI n - nI 6).toInt = (n : Int) - 6 := pk_sub_toInt (by omega) (by omega)
            rw [e9]; omega
        unfold f_Law_L
        exact if_pos hx
  unfold f_law
  rw [show ((0 : Int32), σ) = (nI 0, σ) from rfl, key n 0 σ (by omega) hR]
  rfl
end LAW
