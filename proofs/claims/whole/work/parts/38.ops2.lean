/-! calls that only read: what the class answers, what the reference does -/
section OPS2
variable {σ u : Mm} {S : Nat → Int32}
theorem md_throwsIf0 {m : Mm} : f_Mod_throwsIf z_Law m 169 (nI 0) = some (nI 0, kI m 169 0 (nI 0)) := md_throws0
theorem md_throwsIf1 {m : Mm} : f_Mod_throwsIf z_Law m 169 (nI 1) = some (nI 1, kI m 169 0 (nI 1)) := md_throws1
theorem th_171 {m : Mm} {v : Int32} : (kI m 169 0 v).1 171 = m.1 171 := rfl
theorem hq_ne {n k : Nat} (hk : k < 2 ^ 31) : ¬ nI k = mN := by rw [mN_ne k hk]; exact id
/-- who holds it -/
def hp (S : Nat → Int32) (k : Nat) : Nat → Bool := fun h => decide (S (123 + h) = nI k)
theorem md_holderOf {k : Nat} (hs : u.1 171 = S) (hv : Inv S) : f_Mod_holderOf z_Law u 169 (nI k) = some (fd (hp S k) (sm S)) := by
  have h1 := iv_m hv
  have h2 := iv_m8 hv
  unfold f_Mod_holderOf
  simp only [fl, fmN]
  refine lp_fd _ _ (fun i hi hp9 => ?_) (fun i hi hp9 => ?_) ?_
  · have hp9 := dec_f hp9
    unfold f_Mod_holderOf_L2
    simp (disch := omega) only [fl, fmN, mm_lt, Nat.reduceAdd, Option.bind_some, lt_t, lt_f, le_t, le_f, eq_f, eq_self, nI_add, nI_mul, nI_sub, ↓reduceIte, zq_171, ld_nI, hs, h1, if_neg hp9]
  · have hp9 := dec_t hp9
    unfold f_Mod_holderOf_L2
    simp (disch := omega) only [fl, fmN, mm_lt, Nat.reduceAdd, Option.bind_some, lt_t, lt_f, le_t, le_f, eq_f, eq_self, nI_add, nI_mul, nI_sub, ↓reduceIte, zq_171, ld_nI, hs, h1, if_pos hp9]
  · unfold f_Mod_holderOf_L2
    simp (disch := omega) only [fl, fmN, mm_lt, Nat.reduceAdd, Option.bind_some, lt_t, lt_f, le_t, le_f, eq_f, eq_self, nI_add, nI_mul, nI_sub, ↓reduceIte, zq_171, ld_nI, hs, h1]
theorem hd_holderOf {z : Nat → Nat} {d k : Nat} (hz : HZ z d) (h : HR σ d S) (hk : k < 2 ^ 31) : f_Hands_holderOf z σ d (nI k) = some (fd (hp S k) 8) := by
  unfold f_Hands_holderOf
  simp only [fl, fmN]
  refine lp_fd _ _ (fun i hi hp9 => ?_) (fun i hi hp9 => ?_) ?_
  · have hp9 := dec_f hp9
    unfold f_Hands_holderOf_L2
    simp (disch := omega) only [fl, fmN, mm_lt, Nat.reduceAdd, Option.bind_some, lt_t, lt_f, le_t, le_f, eq_f, eq_self, nI_add, nI_mul, nI_sub, ↓reduceIte, mN_ne, hd_held hz h hi, if_neg hp9]
  · have hp9 := dec_t hp9
    unfold f_Hands_holderOf_L2
    simp (disch := omega) only [fl, fmN, mm_lt, Nat.reduceAdd, Option.bind_some, lt_t, lt_f, le_t, le_f, eq_f, eq_self, nI_add, nI_mul, nI_sub, ↓reduceIte, mN_ne, hd_held hz h hi, if_pos hp9]
  · unfold f_Hands_holderOf_L2
    simp (disch := omega) only [fl, fmN, mm_lt, Nat.reduceAdd, Option.bind_some, lt_t, lt_f, le_t, le_f, eq_f, eq_self, nI_add, nI_mul, nI_sub, ↓reduceIte]
theorem hp_cut {k : Nat} (hv : Inv S) (hk : k < 2 ^ 31) : fd (hp S k) 8 = fd (hp S k) (sm S) := fd_cut (iv_m8 hv) (fun j h1 h2 => decide_eq_false (by rw [iv_none hv j h1 h2, mN_ne' k hk]; exact id))
theorem op_surname (hR : RL σ) (a b : Int32) : opT σ (f_Hat_surname z_Law σ 0 a b) (fun u => f_Mod_surname z_Law u 169 a b) := by
  have hv := rl_v (rs hR)
  have hn := rl_n (rs hR)
  have n10 := iv_n10 hv
  have hI := rl_I (rs hR)
  have hH := rl_H (rs hR)
  rcases arg_of a (sn (σ.1 171)) (by omega) with ⟨k, hk, rfl⟩ | h
  · rcases arg_of b 4 (by decide) with ⟨j, hj, rfl⟩ | h2
    · refine opT_yes hR (v := if j = 0 then σ.1 171 (5 + k) else if j = 1 then σ.1 171 (15 + k) else if j = 2 then fd (hp (σ.1 171) k) (sm (σ.1 171)) else σ.1 171 (25 + k)) ?_ (fun u hu => ?_)
      · unfold f_Hat_surname
        simp (disch := omega) only [fl, fmN, mm_lt, Nat.reduceAdd, Option.bind_some, lt_t, lt_f, le_t, le_f, eq_f, eq_self, nI_add, nI_mul, nI_sub, ↓reduceIte, nm_has hn hk]
        match j, hj with
        | 0, _ => simp (disch := omega) only [fl, fmN, mm_lt, Nat.reduceAdd, Option.bind_some, lt_t, lt_f, le_t, le_f, eq_f, eq_self, nI_add, nI_mul, nI_sub, ↓reduceIte, row_atE (p := 67) rfl zq_67, hI.2.2.2.2.2.1 k]
        | 1, _ => simp (disch := omega) only [fl, fmN, mm_lt, Nat.reduceAdd, Option.bind_some, lt_t, lt_f, le_t, le_f, eq_f, eq_self, nI_add, nI_mul, nI_sub, ↓reduceIte, row_atE (p := 69) rfl zq_69, hI.2.2.2.2.2.2.1 k]; rfl
        | 2, _ => simp (disch := omega) only [fl, fmN, mm_lt, Nat.reduceAdd, Option.bind_some, lt_t, lt_f, le_t, le_f, eq_f, eq_self, nI_add, nI_mul, nI_sub, ↓reduceIte, hd_holderOf HZ_74 hH, hp_cut hv]; rfl
        | 3, _ => simp (disch := omega) only [fl, fmN, mm_lt, Nat.reduceAdd, Option.bind_some, lt_t, lt_f, le_t, le_f, eq_f, eq_self, nI_add, nI_mul, nI_sub, ↓reduceIte, row_atE (p := 71) rfl zq_71, hI.2.2.2.2.2.2.2.1 k]; rfl
      · have hs : u.1 171 = σ.1 171 := by rw [hu]
        unfold f_Mod_surname f_Mod_surname_J23
        simp (disch := omega) only [fl, fmN, mm_lt, Nat.reduceAdd, Option.bind_some, lt_t, lt_f, le_t, le_f, eq_f, eq_self, nI_add, nI_mul, nI_sub, ↓reduceIte, md_isS hv hs hk, md_isIn (v := nI j) rfl, md_throwsIf0, th_171, hs]
        match j, hj with
        | 0, _ => simp (disch := omega) only [fl, fmN, mm_lt, Nat.reduceAdd, Option.bind_some, lt_t, lt_f, le_t, le_f, eq_f, eq_self, nI_add, nI_mul, nI_sub, ↓reduceIte, ld_nI, zq_171]
        | 1, _ => simp (disch := omega) only [fl, fmN, mm_lt, Nat.reduceAdd, Option.bind_some, lt_t, lt_f, le_t, le_f, eq_f, eq_self, nI_add, nI_mul, nI_sub, ↓reduceIte, ld_nI, zq_171]; rfl
        | 2, _ => simp (disch := omega) only [fl, fmN, mm_lt, Nat.reduceAdd, Option.bind_some, lt_t, lt_f, le_t, le_f, eq_f, eq_self, nI_add, nI_mul, nI_sub, ↓reduceIte, md_holderOf (S := σ.1 171) (u := kI u 169 0 (nI 0)) hs hv]; rfl
        | 3, _ => simp (disch := omega) only [fl, fmN, mm_lt, Nat.reduceAdd, Option.bind_some, lt_t, lt_f, le_t, le_f, eq_f, eq_self, nI_add, nI_mul, nI_sub, ↓reduceIte, ld_nI, zq_171]; rfl
    · refine opT_no hR (w := nI 0) ?_ ?_
      · unfold f_Hat_surname
        simp (disch := omega) only [fl, fmN, mm_lt, Nat.reduceAdd, Option.bind_some, lt_t, lt_f, le_t, le_f, eq_f, eq_self, nI_add, nI_mul, nI_sub, ↓reduceIte, nm_has hn hk, out_le h2]
      · unfold f_Mod_surname f_Mod_surname_J23
        simp (disch := omega) only [fl, fmN, mm_lt, Nat.reduceAdd, Option.bind_some, lt_t, lt_f, le_t, le_f, eq_f, eq_self, nI_add, nI_mul, nI_sub, ↓reduceIte, md_isS hv rfl hk, out_md h2, md_throwsIf1]
  · refine opT_no hR (w := nI 0) ?_ ?_
    · unfold f_Hat_surname
      simp (disch := omega) only [fl, fmN, mm_lt, Nat.reduceAdd, Option.bind_some, lt_t, lt_f, le_t, le_f, eq_f, eq_self, nI_add, nI_mul, nI_sub, ↓reduceIte, nm_hasnt hn h]
    · unfold f_Mod_surname f_Mod_surname_J23
      simp (disch := omega) only [fl, fmN, mm_lt, Nat.reduceAdd, Option.bind_some, lt_t, lt_f, le_t, le_f, eq_f, eq_self, nI_add, nI_mul, nI_sub, ↓reduceIte, md_isntS hv rfl h, md_throwsIf1]
theorem op_house (hR : RL σ) (a b : Int32) : opT σ (f_Hat_house z_Law σ 0 a b) (fun u => f_Mod_house z_Law u 169 a b) := by
  have hv := rl_v (rs hR)
  have hn := rl_m (rs hR)
  have n10 := iv_m8 hv
  have hH := rl_H (rs hR)
  rcases arg_of a (sm (σ.1 171)) (by omega) with ⟨k, hk, rfl⟩ | h
  · rcases arg_of b 2 (by decide) with ⟨j, hj, rfl⟩ | h2
    · refine opT_yes hR (v := if j = 0 then σ.1 171 (123 + k) else σ.1 171 (115 + k)) ?_ (fun u hu => ?_)
      · unfold f_Hat_house
        simp (disch := omega) only [fl, fmN, mm_lt, Nat.reduceAdd, Option.bind_some, lt_t, lt_f, le_t, le_f, eq_f, eq_self, nI_add, nI_mul, nI_sub, ↓reduceIte, nm_has hn hk]
        match j, hj with
        | 0, _ => simp (disch := omega) only [fl, fmN, mm_lt, Nat.reduceAdd, Option.bind_some, lt_t, lt_f, le_t, le_f, eq_f, eq_self, nI_add, nI_mul, nI_sub, ↓reduceIte, hd_held HZ_74 hH]
        | 1, _ => simp (disch := omega) only [fl, fmN, mm_lt, Nat.reduceAdd, Option.bind_some, lt_t, lt_f, le_t, le_f, eq_f, eq_self, nI_add, nI_mul, nI_sub, ↓reduceIte, hd_sits HZ_74 hH]; rfl
      · have hs : u.1 171 = σ.1 171 := by rw [hu]
        unfold f_Mod_house f_Mod_house_J23
        simp (disch := omega) only [fl, fmN, mm_lt, Nat.reduceAdd, Option.bind_some, lt_t, lt_f, le_t, le_f, eq_f, eq_self, nI_add, nI_mul, nI_sub, ↓reduceIte, md_isH hv hs hk, md_isIn (v := nI j) rfl, md_throwsIf0, th_171, hs]
        match j, hj with
        | 0, _ => simp (disch := omega) only [fl, fmN, mm_lt, Nat.reduceAdd, Option.bind_some, lt_t, lt_f, le_t, le_f, eq_f, eq_self, nI_add, nI_mul, nI_sub, ↓reduceIte, ld_nI, zq_171]
        | 1, _ => simp (disch := omega) only [fl, fmN, mm_lt, Nat.reduceAdd, Option.bind_some, lt_t, lt_f, le_t, le_f, eq_f, eq_self, nI_add, nI_mul, nI_sub, ↓reduceIte, ld_nI, zq_171]; rfl
    · refine opT_no hR (w := nI 0) ?_ ?_
      · unfold f_Hat_house
        simp (disch := omega) only [fl, fmN, mm_lt, Nat.reduceAdd, Option.bind_some, lt_t, lt_f, le_t, le_f, eq_f, eq_self, nI_add, nI_mul, nI_sub, ↓reduceIte, nm_has hn hk, out_le h2]
      · unfold f_Mod_house f_Mod_house_J23
        simp (disch := omega) only [fl, fmN, mm_lt, Nat.reduceAdd, Option.bind_some, lt_t, lt_f, le_t, le_f, eq_f, eq_self, nI_add, nI_mul, nI_sub, ↓reduceIte, md_isH hv rfl hk, out_md h2, md_throwsIf1]
  · refine opT_no hR (w := nI 0) ?_ ?_
    · unfold f_Hat_house
      simp (disch := omega) only [fl, fmN, mm_lt, Nat.reduceAdd, Option.bind_some, lt_t, lt_f, le_t, le_f, eq_f, eq_self, nI_add, nI_mul, nI_sub, ↓reduceIte, nm_hasnt hn h]
    · unfold f_Mod_house f_Mod_house_J23
      simp (disch := omega) only [fl, fmN, mm_lt, Nat.reduceAdd, Option.bind_some, lt_t, lt_f, le_t, le_f, eq_f, eq_self, nI_add, nI_mul, nI_sub, ↓reduceIte, md_isntH hv rfl h, md_throwsIf1]
theorem op_value (hR : RL σ) (a b : Int32) : opT σ (f_Hat_value z_Law σ 0 a b) (fun u => f_Mod_value z_Law u 169 a b) := by
  have hv := rl_v (rs hR)
  have hn := rl_n (rs hR)
  have hm := rl_m (rs hR)
  have n10 := iv_n10 hv
  have m8 := iv_m8 hv
  have hI := rl_I (rs hR)
  rcases arg_of a (sm (σ.1 171)) (by omega) with ⟨k, hk, rfl⟩ | h
  · rcases arg_of b (sn (σ.1 171)) (by omega) with ⟨j, hj, rfl⟩ | h2
    · refine opT_yes hR (v := vw (σ.1 171) k j) ?_ (fun u hu => ?_)
      · unfold f_Hat_value
        simp (disch := omega) only [fl, fmN, mm_lt, Nat.reduceAdd, Option.bind_some, lt_t, lt_f, le_t, le_f, eq_f, eq_self, nI_add, nI_mul, nI_sub, ↓reduceIte, nm_has hm hk, nm_has hn hj, is_value IZ_61 hI]
      · have hs : u.1 171 = σ.1 171 := by rw [hu]
        unfold f_Mod_value f_Mod_value_J22
        simp (disch := omega) only [fl, fmN, mm_lt, Nat.reduceAdd, Option.bind_some, lt_t, lt_f, le_t, le_f, eq_f, eq_self, nI_add, nI_mul, nI_sub, ↓reduceIte, md_isH hv hs hk, md_isS hv hs hj, md_throwsIf0, md_valueOf (S := σ.1 171) (σ := kI u 169 0 (nI 0)) hs]
    · refine opT_no hR (w := nI 0) ?_ ?_
      · unfold f_Hat_value
        simp (disch := omega) only [fl, fmN, mm_lt, Nat.reduceAdd, Option.bind_some, lt_t, lt_f, le_t, le_f, eq_f, eq_self, nI_add, nI_mul, nI_sub, ↓reduceIte, nm_has hm hk, nm_hasnt hn h2]
      · unfold f_Mod_value f_Mod_value_J22
        simp (disch := omega) only [fl, fmN, mm_lt, Nat.reduceAdd, Option.bind_some, lt_t, lt_f, le_t, le_f, eq_f, eq_self, nI_add, nI_mul, nI_sub, ↓reduceIte, md_isH hv rfl hk, md_isntS hv rfl h2, md_throwsIf1]
  · refine opT_no hR (w := nI 0) ?_ ?_
    · unfold f_Hat_value
      simp (disch := omega) only [fl, fmN, mm_lt, Nat.reduceAdd, Option.bind_some, lt_t, lt_f, le_t, le_f, eq_f, eq_self, nI_add, nI_mul, nI_sub, ↓reduceIte, nm_hasnt hm h]
    · unfold f_Mod_value f_Mod_value_J22
      simp (disch := omega) only [fl, fmN, mm_lt, Nat.reduceAdd, Option.bind_some, lt_t, lt_f, le_t, le_f, eq_f, eq_self, nI_add, nI_mul, nI_sub, ↓reduceIte, md_isntH hv rfl h, md_throwsIf1]
/-! held, keeper -/
def ha (S : Nat → Int32) (k t : Nat) : Int32 := if t = sp S then S (123 + k) else S (132 + 8 * t + k)
theorem ha_hq (hv : Inv S) {k t : Nat} (hk : k < 8) (ht : t ≤ sp S) : hq (sn S) (ha S k t) := by
  unfold ha
  split
  · exact iv_held hv k hk
  · exact (iv_kept hv t (by omega)).1 k hk
theorem st_heldAt (hR : RS σ) {k t : Nat} (hk : k < sm (σ.1 171)) (ht : t ≤ sp (σ.1 171)) : f_State_heldAt z_Law σ 60 (nI k) (nI t) = some (ha (σ.1 171) k t) := by
  have hv := rl_v hR
  have hm := rl_m hR
  have hp := rl_sp hR
  have m8 := iv_m8 hv
  have h24 := iv_sp24 hv
  have hH := rl_H hR
  unfold f_State_heldAt ha
  simp (disch := omega) only [fl, fmN, mm_lt, Nat.reduceAdd, Option.bind_some, lt_t, lt_f, le_t, le_f, eq_f, eq_self, nI_add, nI_mul, nI_sub, ↓reduceIte, nm_has hm hk, hp]
  by_cases h : t = sp (σ.1 171)
  · subst h
    simp (disch := omega) only [fl, fmN, mm_lt, Nat.reduceAdd, Option.bind_some, lt_t, lt_f, le_t, le_f, eq_f, eq_self, nI_add, nI_mul, nI_sub, ↓reduceIte, hd_held HZ_74 hH]
  · simp (disch := omega) only [fl, fmN, mm_lt, Nat.reduceAdd, Option.bind_some, lt_t, lt_f, le_t, le_f, eq_f, eq_self, nI_add, nI_mul, nI_sub, ↓reduceIte, row_atE (p := 84) rfl zq_84, if_neg h]
    have := (rl_S hR).2.2.2.2.1 t k (by omega) (by omega)
    rw [show t * 8 + k = 8 * t + k by omega]
    exact congrArg some this
theorem st_heldAt_oh (hR : RS σ) {a b : Int32} (h : a < nI 0 ∨ nI (sm (σ.1 171)) ≤ a) : f_State_heldAt z_Law σ 60 a b = some mN := by
  unfold f_State_heldAt
  simp (disch := omega) only [fl, fmN, mm_lt, Nat.reduceAdd, Option.bind_some, lt_t, lt_f, le_t, le_f, eq_f, eq_self, nI_add, nI_mul, nI_sub, ↓reduceIte, nm_hasnt (rl_m hR) h]
theorem st_heldAt_ot (hR : RS σ) {k : Nat} {b : Int32} (hk : k < sm (σ.1 171)) (h : b < nI 0 ∨ nI (sp (σ.1 171) + 1) ≤ b) : f_State_heldAt z_Law σ 60 (nI k) b = some mN := by
  have hv := rl_v hR
  have m8 := iv_m8 hv
  have h24 := iv_sp24 hv
  unfold f_State_heldAt
  simp (disch := omega) only [fl, fmN, mm_lt, Nat.reduceAdd, Option.bind_some, lt_t, lt_f, le_t, le_f, eq_f, eq_self, nI_add, nI_mul, nI_sub, ↓reduceIte, nm_has (rl_m hR) hk, rl_sp hR]
  rw [out_le h (by omega)]
theorem md_ha {k t : Nat} (hv : Inv S) (hs : u.1 171 = S) (hk : k < 8) (ht : t ≤ sp S) : f_Mod_heldAt z_Law u 169 (nI k) (nI t) = some (ha S k t) := md_heldAt hv hs hk ht
theorem md_isT {t : Nat} (hv : Inv S) (hs : u.1 171 = S) (ht : t ≤ sp S) : f_Mod_isSpring z_Law u 169 (nI t) = some (nI 1) := by
  have h24 := iv_sp24 hv
  unfold f_Mod_isSpring
  simp (disch := omega) only [fl, fmN, mm_lt, Nat.reduceAdd, Option.bind_some, lt_t, lt_f, le_t, le_f, eq_f, eq_self, nI_add, nI_mul, nI_sub, ↓reduceIte, zq_171, ld_nI, hs, iv_sp hv, md_isIn (v := nI t) rfl, zb_1]
theorem md_isntT {b : Int32} (hv : Inv S) (hs : u.1 171 = S) (h : b < nI 0 ∨ nI (sp S + 1) ≤ b) : f_Mod_isSpring z_Law u 169 b = some (nI 0) := by
  have h24 := iv_sp24 hv
  unfold f_Mod_isSpring
  simp (disch := omega) only [fl, fmN, mm_lt, Nat.reduceAdd, Option.bind_some, lt_t, lt_f, le_t, le_f, eq_f, eq_self, nI_add, nI_mul, nI_sub, ↓reduceIte, zq_171, ld_nI, hs, iv_sp hv, out_md h, zb_0]
theorem op_held (hR : RL σ) (a b : Int32) : ∃ r m, f_Hat_held z_Law σ 0 a b = some r ∧ f_Mod_held z_Law σ 169 a b = some (r, m) ∧ RL m := by
  have hv := rl_v (rs hR)
  have m8 := iv_m8 hv
  have h24 := iv_sp24 hv
  have key : ∃ r, f_Hat_held z_Law σ 0 a b = some r ∧ f_Mod_held z_Law σ 169 a b = some (r, kI σ 169 0 (nI 0)) := by
    have hs : (kI σ 169 0 (nI 0)).1 171 = σ.1 171 := rfl
    unfold f_Hat_held f_Mod_held
    rcases arg_of a (sm (σ.1 171)) (by omega) with ⟨k, hk, rfl⟩ | h
    · rcases arg_of b (sp (σ.1 171) + 1) (by omega) with ⟨t, ht, rfl⟩ | h2
      · refine ⟨ha (σ.1 171) k t, ?_, ?_⟩
        · simp (disch := omega) only [fl, fmN, mm_lt, Nat.reduceAdd, Option.bind_some, lt_t, lt_f, le_t, le_f, eq_f, eq_self, nI_add, nI_mul, nI_sub, ↓reduceIte, st_heldAt (rs hR) hk (by omega : t ≤ _)]
        · simp (disch := omega) only [fl, fmN, mm_lt, Nat.reduceAdd, Option.bind_some, lt_t, lt_f, le_t, le_f, eq_f, eq_self, nI_add, nI_mul, nI_sub, ↓reduceIte, md_isH hv hs hk, md_isT hv hs (by omega : t ≤ _), md_ha hv hs (by omega : k < 8) (by omega : t ≤ _)]
      · refine ⟨mN, ?_, ?_⟩
        · simp (disch := omega) only [fl, fmN, mm_lt, Nat.reduceAdd, Option.bind_some, lt_t, lt_f, le_t, le_f, eq_f, eq_self, nI_add, nI_mul, nI_sub, ↓reduceIte, st_heldAt_ot (rs hR) hk h2]
        · simp (disch := omega) only [fl, fmN, mm_lt, Nat.reduceAdd, Option.bind_some, lt_t, lt_f, le_t, le_f, eq_f, eq_self, nI_add, nI_mul, nI_sub, ↓reduceIte, md_isH hv hs hk, md_isntT hv hs h2]
    · refine ⟨mN, ?_, ?_⟩
      · simp (disch := omega) only [fl, fmN, mm_lt, Nat.reduceAdd, Option.bind_some, lt_t, lt_f, le_t, le_f, eq_f, eq_self, nI_add, nI_mul, nI_sub, ↓reduceIte, st_heldAt_oh (rs hR) h]
      · simp (disch := omega) only [fl, fmN, mm_lt, Nat.reduceAdd, Option.bind_some, lt_t, lt_f, le_t, le_f, eq_f, eq_self, nI_add, nI_mul, nI_sub, ↓reduceIte, md_isntH hv hs h]
  obtain ⟨r, h1, h2⟩ := key
  exact ⟨r, _, h1, h2, RL_kp hR (kp_s169 (by decide))⟩
/-- who held SURNAME x at the end of SPRING t -/
def kpr (S : Nat → Int32) (x t : Nat) : Nat → Bool := fun k => decide (ha S k t = nI x)
theorem st_keeper (hR : RS σ) {x t : Nat} (hx : x < sn (σ.1 171)) (ht : t ≤ sp (σ.1 171)) : f_State_keeperAt z_Law σ 60 (nI x) (nI t) = some (fd (kpr (σ.1 171) x t) (sm (σ.1 171))) := by
  have hv := rl_v hR
  have m8 := iv_m8 hv
  have n10 := iv_n10 hv
  unfold f_State_keeperAt
  simp only [fl, fmN]
  refine lp_fd _ _ (fun i hi hp9 => ?_) (fun i hi hp9 => ?_) ?_
  · have hp9 := dec_f hp9
    unfold f_State_keeperAt_L2
    simp (disch := omega) only [fl, fmN, mm_lt, Nat.reduceAdd, Option.bind_some, lt_t, lt_f, le_t, le_f, eq_f, eq_self, nI_add, nI_mul, nI_sub, ↓reduceIte, rl_m hR, nm_has (rl_n hR) hx, st_heldAt hR hi ht, if_neg hp9]
  · have hp9 := dec_t hp9
    unfold f_State_keeperAt_L2
    simp (disch := omega) only [fl, fmN, mm_lt, Nat.reduceAdd, Option.bind_some, lt_t, lt_f, le_t, le_f, eq_f, eq_self, nI_add, nI_mul, nI_sub, ↓reduceIte, rl_m hR, nm_has (rl_n hR) hx, st_heldAt hR hi ht, if_pos hp9]
  · unfold f_State_keeperAt_L2
    simp (disch := omega) only [fl, fmN, mm_lt, Nat.reduceAdd, Option.bind_some, lt_t, lt_f, le_t, le_f, eq_f, eq_self, nI_add, nI_mul, nI_sub, ↓reduceIte, rl_m hR]
theorem st_keeper_ox (hR : RS σ) {a b : Int32} (h : a < nI 0 ∨ nI (sn (σ.1 171)) ≤ a) : f_State_keeperAt z_Law σ 60 a b = some mN := by
  have hv := rl_v hR
  have m8 := iv_m8 hv
  unfold f_State_keeperAt
  simp only [fl, fmN]
  rw [mm_lp_done (r := .inr ())]
  · rfl
  · unfold f_State_keeperAt_L2
    by_cases h0 : sm (σ.1 171) = 0
    · simp (disch := omega) only [fl, fmN, mm_lt, Nat.reduceAdd, Option.bind_some, lt_t, lt_f, le_t, le_f, eq_f, eq_self, nI_add, nI_mul, nI_sub, ↓reduceIte, rl_m hR]
    · simp (disch := omega) only [fl, fmN, mm_lt, Nat.reduceAdd, Option.bind_some, lt_t, lt_f, le_t, le_f, eq_f, eq_self, nI_add, nI_mul, nI_sub, ↓reduceIte, rl_m hR, nm_hasnt (rl_n hR) h]
theorem st_keeper_ot (hR : RS σ) {x : Nat} {b : Int32} (hx : x < sn (σ.1 171)) (h : b < nI 0 ∨ nI (sp (σ.1 171) + 1) ≤ b) : f_State_keeperAt z_Law σ 60 (nI x) b = some mN := by
  have hv := rl_v hR
  have m8 := iv_m8 hv
  have n10 := iv_n10 hv
  unfold f_State_keeperAt
  simp only [fl, fmN]
  refine (lp_fd (fun _ => false) (sm (σ.1 171)) (fun i hi hp9 => ?_) (fun i hi hp9 => ?_) ?_).trans (congrArg some (fd_none (fun _ _ => rfl)))
  · unfold f_State_keeperAt_L2
    simp (disch := omega) only [fl, fmN, mm_lt, Nat.reduceAdd, Option.bind_some, lt_t, lt_f, le_t, le_f, eq_f, eq_self, nI_add, nI_mul, nI_sub, ↓reduceIte, rl_m hR, nm_has (rl_n hR) hx, st_heldAt_ot hR hi h, mN_ne']
  · cases hp9
  · unfold f_State_keeperAt_L2
    simp (disch := omega) only [fl, fmN, mm_lt, Nat.reduceAdd, Option.bind_some, lt_t, lt_f, le_t, le_f, eq_f, eq_self, nI_add, nI_mul, nI_sub, ↓reduceIte, rl_m hR]
theorem op_keeper (hR : RL σ) (a b : Int32) : ∃ r m, f_Hat_keeper z_Law σ 0 a b = some r ∧ f_Mod_keeper z_Law σ 169 a b = some (r, m) ∧ RL m := by
  have hv := rl_v (rs hR)
  have m8 := iv_m8 hv
  have n10 := iv_n10 hv
  have h24 := iv_sp24 hv
  have key : ∃ r, f_Hat_keeper z_Law σ 0 a b = some r ∧ f_Mod_keeper z_Law σ 169 a b = some (r, kI σ 169 0 (nI 0)) := by
    have hs : (kI σ 169 0 (nI 0)).1 171 = σ.1 171 := rfl
    unfold f_Hat_keeper f_Mod_keeper
    rcases arg_of a (sn (σ.1 171)) (by omega) with ⟨k, hk, rfl⟩ | h
    · rcases arg_of b (sp (σ.1 171) + 1) (by omega) with ⟨t, ht, rfl⟩ | h2
      · refine ⟨fd (kpr (σ.1 171) k t) (sm (σ.1 171)), ?_, ?_⟩
        · simp (disch := omega) only [fl, fmN, mm_lt, Nat.reduceAdd, Option.bind_some, lt_t, lt_f, le_t, le_f, eq_f, eq_self, nI_add, nI_mul, nI_sub, ↓reduceIte, st_keeper (rs hR) hk (by omega : t ≤ _)]
        · simp (disch := omega) only [fl, fmN, mm_lt, Nat.reduceAdd, Option.bind_some, lt_t, lt_f, le_t, le_f, eq_f, eq_self, nI_add, nI_mul, nI_sub, ↓reduceIte, md_isS hv hs hk, md_isT hv hs (by omega : t ≤ _)]
          rw [lp_find (kpr (σ.1 171) k t) (sm (σ.1 171)) (fun i => (nI i, kI σ 169 0 (nI 0))) (fun i hi hp9 => ?_) (fun i hi hp9 => ?_) ?_]
          · unfold fd
            split <;> rfl
          · unfold f_Mod_keeper_L25
            simp (disch := omega) only [fl, fmN, mm_lt, Nat.reduceAdd, Option.bind_some, lt_t, lt_f, le_t, le_f, eq_f, eq_self, nI_add, nI_mul, nI_sub, ↓reduceIte, zq_171, ld_nI, hs, iv_m hv]
          · have hp9 := dec_f hp9
            unfold f_Mod_keeper_L25
            simp (disch := omega) only [fl, fmN, mm_lt, Nat.reduceAdd, Option.bind_some, lt_t, lt_f, le_t, le_f, eq_f, eq_self, nI_add, nI_mul, nI_sub, ↓reduceIte, zq_171, ld_nI, hs, iv_m hv, md_ha hv hs (by omega : i < 8) (by omega : t ≤ _), if_neg hp9]
          · have hp9 := dec_t hp9
            unfold f_Mod_keeper_L25
            simp (disch := omega) only [fl, fmN, mm_lt, Nat.reduceAdd, Option.bind_some, lt_t, lt_f, le_t, le_f, eq_f, eq_self, nI_add, nI_mul, nI_sub, ↓reduceIte, zq_171, ld_nI, hs, iv_m hv, md_ha hv hs (by omega : i < 8) (by omega : t ≤ _), if_pos hp9]
      · refine ⟨mN, ?_, ?_⟩
        · simp (disch := omega) only [fl, fmN, mm_lt, Nat.reduceAdd, Option.bind_some, lt_t, lt_f, le_t, le_f, eq_f, eq_self, nI_add, nI_mul, nI_sub, ↓reduceIte, st_keeper_ot (rs hR) hk h2]
        · simp (disch := omega) only [fl, fmN, mm_lt, Nat.reduceAdd, Option.bind_some, lt_t, lt_f, le_t, le_f, eq_f, eq_self, nI_add, nI_mul, nI_sub, ↓reduceIte, md_isS hv hs hk, md_isntT hv hs h2]
    · refine ⟨mN, ?_, ?_⟩
      · simp (disch := omega) only [fl, fmN, mm_lt, Nat.reduceAdd, Option.bind_some, lt_t, lt_f, le_t, le_f, eq_f, eq_self, nI_add, nI_mul, nI_sub, ↓reduceIte, st_keeper_ox (rs hR) h]
      · simp (disch := omega) only [fl, fmN, mm_lt, Nat.reduceAdd, Option.bind_some, lt_t, lt_f, le_t, le_f, eq_f, eq_self, nI_add, nI_mul, nI_sub, ↓reduceIte, md_isntS hv hs h]
  obtain ⟨r, h1, h2⟩ := key
  exact ⟨r, _, h1, h2, RL_kp hR (kp_s169 (by decide))⟩
/-! worth, envy -/
def wsum (S : Nat → Int32) : Int32 := fo (fun k a => a + vv S k (S (123 + k))) (sm S) (nI 0)
theorem hd_all {d : Nat} (hz : HZ z_Law d) (h : HR σ d S) (hi : IR σ 61 S) (hv : Inv S) : f_Hands_allValues z_Law σ d 61 = some (wsum S) := by
  have m8 := iv_m8 hv
  have hm : σ.1 64 1 = nI (sm S) := hi.2.1.trans (iv_m hv)
  unfold f_Hands_allValues wsum
  simp only [fl]
  rw [lp_fo0 (fun k a => a + vv S k (S (123 + k))) (sm S) (fun i x hi9 => ?_) (fun x => ?_)]
  · rfl
  · unfold f_Hands_allValues_L4
    simp (disch := omega) only [fl, fmN, mm_lt, Nat.reduceAdd, Option.bind_some, lt_t, lt_f, le_t, le_f, eq_f, eq_self, nI_add, nI_mul, nI_sub, ↓reduceIte, hm, hd_vh hz IZ_61 h hi (by omega : i < 8) (iv_held hv i (by omega)) (iv_n10 hv)]
  · unfold f_Hands_allValues_L4
    simp (disch := omega) only [fl, fmN, mm_lt, Nat.reduceAdd, Option.bind_some, lt_t, lt_f, le_t, le_f, eq_f, eq_self, nI_add, nI_mul, nI_sub, ↓reduceIte, hm]
theorem md_worthOf (hs : u.1 171 = S) (hv : Inv S) : f_Mod_worthOf z_Law u 169 = some (wsum S) := by
  have m8 := iv_m8 hv
  have hm := iv_m hv
  unfold f_Mod_worthOf wsum
  simp only [fl]
  rw [lp_fo0 (fun k a => a + vv S k (S (123 + k))) (sm S) (fun i x hi9 => ?_) (fun x => ?_)]
  · rfl
  · unfold f_Mod_worthOf_L4
    simp (disch := omega) only [fl, fmN, mm_lt, Nat.reduceAdd, Option.bind_some, lt_t, lt_f, le_t, le_f, eq_f, eq_self, nI_add, nI_mul, nI_sub, ↓reduceIte, zq_171, ld_nI, hs, hm, md_vv hs (by omega : i < 8) (iv_held hv i (by omega)) (iv_n10 hv)]
  · unfold f_Mod_worthOf_L4
    simp (disch := omega) only [fl, fmN, mm_lt, Nat.reduceAdd, Option.bind_some, lt_t, lt_f, le_t, le_f, eq_f, eq_self, nI_add, nI_mul, nI_sub, ↓reduceIte, zq_171, ld_nI, hs, hm]
theorem op_worth (hR : RL σ) : ∃ r m, f_Hat_worth z_Law σ 0 = some r ∧ f_Mod_worth z_Law σ 169 = some (r, m) ∧ RL m := by
  refine ⟨wsum (σ.1 171), kI σ 169 0 (nI 0), ?_, ?_, rl_th hR⟩
  · unfold f_Hat_worth
    simp only [fl, fmN, mm_lt, Nat.reduceAdd, Option.bind_some, lt_t, lt_f, le_t, le_f, eq_f, eq_self, nI_add, nI_mul, nI_sub, ↓reduceIte, hd_all HZ_74 (rl_H (rs hR)) (rl_I (rs hR)) (rl_v (rs hR))]
  · unfold f_Mod_worth
    simp only [fl, fmN, mm_lt, Nat.reduceAdd, Option.bind_some, lt_t, lt_f, le_t, le_f, eq_f, eq_self, nI_add, nI_mul, nI_sub, ↓reduceIte, md_worthOf (S := σ.1 171) (u := kI σ 169 0 (nI 0)) rfl (rl_v (rs hR))]
theorem op_envy (hR : RL σ) (a : Int32) : ∃ r m, f_Hat_envy z_Law σ 0 a = some r ∧ f_Mod_envy z_Law σ 169 a = some (r, m) ∧ RL m := by
  have hv := rl_v (rs hR)
  have m8 := iv_m8 hv
  have n10 := iv_n10 hv
  have hm := iv_m hv
  have hI := rl_I (rs hR)
  have hH := rl_H (rs hR)
  have key : ∃ r, f_Hat_envy z_Law σ 0 a = some r ∧ f_Mod_envy z_Law σ 169 a = some (r, kI σ 169 0 (nI 0)) := by
    have hs : (kI σ 169 0 (nI 0)).1 171 = σ.1 171 := rfl
    unfold f_Hat_envy f_Mod_envy f_Hat_envy_J35
    rcases arg_of a (sm (σ.1 171)) (by omega) with ⟨k, hk, rfl⟩ | h
    · rcases iv_held hv k (by omega) with e | ⟨x, hx, e⟩
      · refine ⟨mN, ?_, ?_⟩
        · simp (disch := omega) only [fl, fmN, mm_lt, Nat.reduceAdd, Option.bind_some, lt_t, lt_f, le_t, le_f, eq_f, eq_self, nI_add, nI_mul, nI_sub, ↓reduceIte, nm_has (rl_m (rs hR)) hk, hd_held HZ_74 hH (by omega : k < 8), e]
        · simp (disch := omega) only [fl, fmN, mm_lt, Nat.reduceAdd, Option.bind_some, lt_t, lt_f, le_t, le_f, eq_f, eq_self, nI_add, nI_mul, nI_sub, ↓reduceIte, md_isH hv hs hk, zq_171, ld_nI, hs, e]
          rw [if_neg (by decide)]
      · refine ⟨fo (fun i a => if vw (σ.1 171) i x ≤ vv (σ.1 171) i (σ.1 171 (123 + i)) then a else a + nI 1) (sm (σ.1 171)) (nI 0), ?_, ?_⟩
        · simp (disch := omega) only [fl, fmN, mm_lt, Nat.reduceAdd, Option.bind_some, lt_t, lt_f, le_t, le_f, eq_f, eq_self, nI_add, nI_mul, nI_sub, ↓reduceIte, nm_has (rl_m (rs hR)) hk, hd_held HZ_74 hH (by omega : k < 8), e, mN_ne]
          rw [lp_fo0 (fun i a => if vw (σ.1 171) i x ≤ vv (σ.1 171) i (σ.1 171 (123 + i)) then a else a + nI 1) (sm (σ.1 171)) (fun i y hi9 => ?_) (fun y => ?_)]
          · rfl
          · unfold f_Hat_envy_L48
            simp (disch := omega) only [fl, fmN, mm_lt, Nat.reduceAdd, Option.bind_some, lt_t, lt_f, le_t, le_f, eq_f, eq_self, nI_add, nI_mul, nI_sub, ↓reduceIte, rl_m (rs hR), is_value IZ_61 hI, hd_vh HZ_74 IZ_61 hH hI (by omega : i < 8) (iv_held hv i (by omega)) (iv_n10 hv)]
            split <;> rfl
          · unfold f_Hat_envy_L48
            simp (disch := omega) only [fl, fmN, mm_lt, Nat.reduceAdd, Option.bind_some, lt_t, lt_f, le_t, le_f, eq_f, eq_self, nI_add, nI_mul, nI_sub, ↓reduceIte, rl_m (rs hR)]
        · simp (disch := omega) only [fl, fmN, mm_lt, Nat.reduceAdd, Option.bind_some, lt_t, lt_f, le_t, le_f, eq_f, eq_self, nI_add, nI_mul, nI_sub, ↓reduceIte, md_isH hv hs hk, zq_171, ld_nI, hs, e]
          rw [lp_fo0 (fun i a => if vw (σ.1 171) i x ≤ vv (σ.1 171) i (σ.1 171 (123 + i)) then a else a + nI 1) (sm (σ.1 171)) (fun i y hi9 => ?_) (fun y => ?_)]
          · rfl
          · unfold f_Mod_envy_L31
            simp (disch := omega) only [fl, fmN, mm_lt, Nat.reduceAdd, Option.bind_some, lt_t, lt_f, le_t, le_f, eq_f, eq_self, nI_add, nI_mul, nI_sub, ↓reduceIte, zq_171, ld_nI, hs, hm, e, md_valueOf (S := σ.1 171) hs, md_vv hs (by omega : i < 8) (iv_held hv i (by omega)) (iv_n10 hv), nI_eq]
            by_cases h9 : i = k
            · subst h9
              rw [if_pos rfl, if_pos]
              · rw [show y + nI 0 = y from Int32.add_zero y]
              · rw [e]
                unfold vv
                simp (disch := omega) only [mN_ne, ↓reduceIte, nI_clamp]
                exact Int32.le_refl _
            · rw [if_neg h9]
              split
              · rw [show y + nI 0 = y from Int32.add_zero y]
              · rfl
          · unfold f_Mod_envy_L31
            simp (disch := omega) only [fl, fmN, mm_lt, Nat.reduceAdd, Option.bind_some, lt_t, lt_f, le_t, le_f, eq_f, eq_self, nI_add, nI_mul, nI_sub, ↓reduceIte, zq_171, ld_nI, hs, hm]
    · refine ⟨mN, ?_, ?_⟩
      · simp (disch := omega) only [fl, fmN, mm_lt, Nat.reduceAdd, Option.bind_some, lt_t, lt_f, le_t, le_f, eq_f, eq_self, nI_add, nI_mul, nI_sub, ↓reduceIte, nm_hasnt (rl_m (rs hR)) h]
      · simp (disch := omega) only [fl, fmN, mm_lt, Nat.reduceAdd, Option.bind_some, lt_t, lt_f, le_t, le_f, eq_f, eq_self, nI_add, nI_mul, nI_sub, ↓reduceIte, md_isntH hv hs h]
  obtain ⟨r, h1, h2⟩ := key
  exact ⟨r, _, h1, h2, RL_kp hR (kp_s169 (by decide))⟩
end OPS2
