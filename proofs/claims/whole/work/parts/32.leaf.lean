/-! the small methods, class and reference -/
section LEAF
variable {z : Nat → Nat} {σ : Mm} {S : Nat → Int32}
theorem nm_has {o k n : Nat} (hs : σ.1 o 1 = nI n) (h : k < n) (hn : n < 2 ^ 31) : f_Names_has z σ o (nI k) = some (nI 1) := by
  unfold f_Names_has
  simp (disch := omega) only [hs, fl, lt_f, le_f, ↓reduceIte]
theorem nm_hasnt {o n : Nat} {i : Int32} (hs : σ.1 o 1 = nI n) (h : i < nI 0 ∨ nI n ≤ i) : f_Names_has z σ o i = some (nI 0) := by
  unfold f_Names_has
  rw [hs]
  rcases h with h | h
  · rw [if_pos (show i < 0 from h)]; rfl
  · by_cases h2 : i < 0
    · rw [if_pos h2]; rfl
    · rw [if_neg h2, if_pos h]; rfl
theorem md_isIn {v : Int32} {k a b : Nat} (hv : v = nI k) (h1 : a ≤ k) (h2 : k ≤ b) (hb : b < 2 ^ 31) : f_Mod_isIn z σ v (nI a) (nI b) = some (nI 1) := by
  unfold f_Mod_isIn
  simp (disch := omega) only [hv, fl, lt_f, ↓reduceIte]
theorem md_isnt {v : Int32} {a b : Int32} (h : v < a ∨ b < v) : f_Mod_isIn z σ v a b = some (nI 0) := by
  unfold f_Mod_isIn
  rcases h with h | h
  · rw [if_pos h]; rfl
  · by_cases h2 : v < a
    · rw [if_pos h2]; rfl
    · rw [if_neg h2, if_pos h]; rfl
theorem zb_1 : mm_zb (nI 1) = some (nI 1) := if_pos (Or.inr rfl)
theorem zb_0 : mm_zb (nI 0) = some (nI 0) := if_pos (Or.inl rfl)
theorem pr_lt {n : Nat} {i : Int32} (hn : n < 2 ^ 31) : nI n - nI 1 < i ↔ nI n ≤ i ∨ (n = 0 ∧ i = nI 0 ∧ False) := by
  constructor
  · intro h
    left
    rw [fa_lt] at h
    rw [fa_le, nI_toInt hn]
    by_cases h0 : n = 0
    · subst h0
      rw [show (nI 0 - nI 1).toInt = -1 from by decide +kernel] at h
      omega
    · rw [nI_sub (by omega), nI_toInt (by omega)] at h
      omega
  · rintro (h | ⟨-, -, h⟩)
    · rw [fa_le, nI_toInt hn] at h
      rw [fa_lt]
      by_cases h0 : n = 0
      · subst h0
        rw [show (nI 0 - nI 1).toInt = -1 from by decide +kernel]
        omega
      · rw [nI_sub (by omega), nI_toInt (by omega)]
        omega
    · exact h.elim
theorem md_isS {k : Nat} (hv : Inv S) (hs : σ.1 171 = S) (h : k < sn S) : f_Mod_isSurname z_Law σ 169 (nI k) = some (nI 1) := by
  have h1 := iv_n hv
  have h2 := iv_n10 hv
  unfold f_Mod_isSurname
  simp (disch := omega) only [Nat.reduceAdd, zq_171, hs, fl, ld_nI, Option.bind_some, h1, nI_sub]
  rw [md_isIn rfl (by omega) (by omega) (by omega)]
  simp only [Option.bind_some, zb_1]
theorem md_isntS {i : Int32} (hv : Inv S) (hs : σ.1 171 = S) (h : i < nI 0 ∨ nI (sn S) ≤ i) : f_Mod_isSurname z_Law σ 169 i = some (nI 0) := by
  have h1 := iv_n hv
  have h2 := iv_n10 hv
  unfold f_Mod_isSurname
  simp (disch := omega) only [Nat.reduceAdd, zq_171, hs, fl, ld_nI, Option.bind_some, h1]
  rw [md_isnt (by rcases h with h | h; exact Or.inl h; exact Or.inr ((pr_lt (by omega)).mpr (Or.inl h)))]
  simp only [Option.bind_some, zb_0]
theorem md_isH {k : Nat} (hv : Inv S) (hs : σ.1 171 = S) (h : k < sm S) : f_Mod_isHouse z_Law σ 169 (nI k) = some (nI 1) := by
  have h1 := iv_m hv
  have h2 := iv_m8 hv
  unfold f_Mod_isHouse
  simp (disch := omega) only [Nat.reduceAdd, zq_171, hs, fl, ld_nI, Option.bind_some, h1, nI_sub]
  rw [md_isIn rfl (by omega) (by omega) (by omega)]
  simp only [Option.bind_some, zb_1]
theorem md_isntH {i : Int32} (hv : Inv S) (hs : σ.1 171 = S) (h : i < nI 0 ∨ nI (sm S) ≤ i) : f_Mod_isHouse z_Law σ 169 i = some (nI 0) := by
  have h1 := iv_m hv
  have h2 := iv_m8 hv
  unfold f_Mod_isHouse
  simp (disch := omega) only [Nat.reduceAdd, zq_171, hs, fl, ld_nI, Option.bind_some, h1]
  rw [md_isnt (by rcases h with h | h; exact Or.inl h; exact Or.inr ((pr_lt (by omega)).mpr (Or.inl h)))]
  simp only [Option.bind_some, zb_0]
theorem md_throws0 : f_Mod_throwsIf z σ 169 (nI 0) = some (nI 0, kI σ 169 0 (nI 0)) := by
  unfold f_Mod_throwsIf
  rw [if_pos (show nI 0 = 0 from rfl)]
  simp only [mm_lt, zb_0, Option.bind_some, fl]
theorem md_throws1 : f_Mod_throwsIf z σ 169 (nI 1) = some (nI 1, kI σ 169 0 (nI 1)) := by
  unfold f_Mod_throwsIf
  rw [if_neg (show ¬ nI 1 = 0 from by decide)]
  simp only [mm_lt, zb_1, Option.bind_some, fl]
theorem md_valueOf {k x : Nat} (hs : σ.1 171 = S) (hk : k < 8) (hx : x < 10) : f_Mod_valueOf z_Law σ 169 (nI k) (nI x) = some (vw S k x) := by
  unfold f_Mod_valueOf f_Mod_valueOf_J50 vw
  simp (disch := omega) only [Nat.reduceAdd, zq_171, hs, fl, le_t, ↓reduceIte, nI_mul, nI_add, ld_nI, Option.bind_some]
  by_cases h : nI 0 < S (35 + 10 * k + x)
  · rw [if_neg (fun e => (fa_of_lt h).2.1 e), if_pos h]
    split <;> rfl
  · rw [if_pos (fa_of_nlt h), if_neg h]
    split <;> rfl
theorem md_valueN {k : Nat} : f_Mod_valueOf z_Law σ 169 (nI k) mN = some (nI 0) := by
  unfold f_Mod_valueOf
  rw [if_neg (by decide)]; rfl
theorem md_vv {k n : Nat} {w : Int32} (hs : σ.1 171 = S) (hk : k < 8) (hw : hq n w) (hn : n ≤ 10) : f_Mod_valueOf z_Law σ 169 (nI k) w = some (vv S k w) := by
  rcases hw with rfl | ⟨x, hx, rfl⟩
  · rw [md_valueN]; rfl
  · rw [md_valueOf hs hk (by omega)]
    unfold vv
    simp (disch := omega) only [mN_ne, ↓reduceIte, nI_clamp]
theorem md_heldAt {k t : Nat} (hv : Inv S) (hs : σ.1 171 = S) (hk : k < 8) (ht : t ≤ sp S) : f_Mod_heldAt z_Law σ 169 (nI k) (nI t) = some (if t = sp S then S (123 + k) else S (132 + 8 * t + k)) := by
  have h1 := iv_sp hv
  have h2 := iv_sp24 hv
  unfold f_Mod_heldAt
  simp (disch := omega) only [Nat.reduceAdd, zq_171, hs, fl, ld_nI, Option.bind_some, h1, nI_eq, nI_add, nI_mul]
  by_cases h : t = sp S
  · rw [if_pos h, if_pos h]
  · rw [if_neg h, if_neg h]
theorem md_pawn {k : Nat} (hv : Inv S) (hs : σ.1 171 = S) (hk : k < 8) : f_Mod_isPawned z_Law σ 169 (nI k) = some (if S (123 + k) ≠ mN ∧ S (15 + (S (123 + k)).toNatClampNeg) = nI 2 then nI 1 else nI 0) := by
  have h2 := iv_n10 hv
  unfold f_Mod_isPawned
  simp (disch := omega) only [Nat.reduceAdd, zq_171, hs, fl, ld_nI, Option.bind_some, nI_add]
  rcases iv_held hv k hk with e | ⟨x, hx, e⟩
  · rw [e, if_pos (by decide), if_neg (fun h => h.1 rfl)]
  · rw [e]
    simp (disch := omega) only [lt_f, ↓reduceIte, nI_add, ld_nI, Option.bind_some, nI_clamp, ne_eq, mN_ne, not_false_eq_true, true_and]
    by_cases h9 : S (15 + x) = nI 2
    · rw [if_pos h9, if_pos h9]
    · rw [if_neg h9, if_neg h9]
end LEAF
