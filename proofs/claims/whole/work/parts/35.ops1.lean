/-! calls that ask for one number -/
theorem out_ne {a : Int32} {n j : Nat} (h : a < nI 0 ∨ nI n ≤ a) (hj : j < n) (hn : n < 2 ^ 31) : (a = nI j) = False := by
  apply eq_false
  rintro rfl
  rcases h with h | h
  · rw [lt_f (by omega) (by omega)] at h; exact h
  · rw [le_f (by omega) (by omega)] at h; exact h
section OPS1
variable {σ : Mm}
theorem op_fault (hR : RL σ) : ∃ r m, f_Hat_fault z_Law σ 0 = some r ∧ f_Mod_fault z_Law σ 169 = some (r, m) ∧ RL m :=
  ⟨_, kI σ 169 0 (nI 0), rfl, by rw [hR.2.1]; rfl, RL_kp hR (kp_s169 (by decide))⟩
theorem op_count (hR : RL σ) (a : Int32) : ∃ r m, f_Hat_count z_Law σ 0 a = some r ∧ f_Mod_count z_Law σ 169 a = some (r, m) ∧ RL m := by
  obtain ⟨⟨len, hl, t1, t2, t3⟩, -, ⟨hS, hv⟩, -⟩ := id hR
  have key : ∃ r, f_Hat_count z_Law σ 0 a = some r ∧ f_Mod_count z_Law σ 169 a = some (r, kI σ 169 0 (nI 0)) := by
    have i0 : σ.1 62 1 = σ.1 171 0 := hS.1.1
    have i1 : σ.1 64 1 = σ.1 171 1 := hS.1.2.1
    have i2 : σ.1 61 6 = σ.1 171 2 := hS.1.2.2.1
    have i3 : σ.1 61 7 = σ.1 171 3 := hS.1.2.2.2.1
    have i4 : σ.1 61 8 = σ.1 171 4 := hS.1.2.2.2.2.1
    have i5 : σ.1 60 2 = σ.1 171 131 := hS.2.2.2.1
    have i6 : σ.1 60 5 = σ.1 171 532 := hS.2.2.2.2.2.2.1
    have i8 : σ.1 60 7 = σ.1 171 623 := hS.2.2.2.2.2.2.2.2.1
    rcases arg_of a 9 (by decide) with ⟨k, hk, rfl⟩ | h
    · match k, hk with
      | 0, _ => exact ⟨σ.1 171 0, congrArg some i0, rfl⟩
      | 1, _ => exact ⟨σ.1 171 1, congrArg some i1, rfl⟩
      | 2, _ => exact ⟨σ.1 171 2, congrArg some i2, rfl⟩
      | 3, _ => exact ⟨σ.1 171 3, congrArg some i3, rfl⟩
      | 4, _ => exact ⟨σ.1 171 4, congrArg some i4, rfl⟩
      | 5, _ => exact ⟨σ.1 171 131, congrArg some i5, rfl⟩
      | 6, _ => exact ⟨σ.1 171 532, congrArg some i6, rfl⟩
      | 7, _ => exact ⟨nI len, congrArg some t1, congrArg (fun v => some (v, kI σ 169 0 (nI 0))) t2⟩
      | 8, _ => exact ⟨σ.1 171 623, congrArg some i8, rfl⟩
    · refine ⟨mN, ?_, ?_⟩
      · unfold f_Hat_count
        simp (disch := omega) only [fl, out_ne h, ↓reduceIte, fmN]
      · unfold f_Mod_count
        have h4 : a < nI 0 ∨ nI 4 < a := by
          rcases h with h | h
          · exact Or.inl h
          · exact Or.inr (fa_trans (b := nI 9) (show nI 4 < nI 9 by decide) h)
        simp (disch := omega) only [fl, out_ne h, ↓reduceIte, fmN, mm_lt, md_isnt h4, Option.bind_some]
  obtain ⟨r, h1, h2⟩ := key
  exact ⟨r, _, h1, h2, RL_kp hR (kp_s169 (by decide))⟩
theorem op_end (hR : RL σ) (a : Int32) : ∃ r m1 m2, f_Hat_end z_Law σ 0 a = some (r, m1) ∧ f_Mod_end z_Law m1 169 a = some (r, m2) ∧ RL m2 := by
  obtain ⟨⟨len, hl, t1, t2, t3⟩, h2, h3, h4, h5, h6, h7, h8⟩ := id hR
  unfold f_Hat_end
  rw [t1]
  by_cases c1 : a < 0
  · rw [if_pos c1]
    refine ⟨_, _, _, rfl, ?_, RL_kp hR (kp_s169 (k := 0) (v := nI 0) (by decide))⟩
    unfold f_Mod_end
    rw [mm_lt, if_pos c1]
    rfl
  · rw [if_neg c1]
    by_cases c2 : a ≤ nI len
    · rw [if_pos c2]
      obtain ⟨j, hj, rfl⟩ := nI_of c1
      have hjl : j ≤ len := (nI_leI (by omega) (by omega)).mp c2
      refine ⟨_, _, kI (kI (kI σ 0 1 (nI j)) 169 0 (nI 0)) 169 2 (nI j), rfl, ?_, ?_⟩
      · unfold f_Mod_end
        rw [mm_lt, if_neg c1, if_pos]
        · rfl
        · show nI j ≤ σ.1 169 2
          rw [t2]; exact c2
      · have hk : kp (fun q => q == 1001 || q == 2002) σ (kI (kI (kI σ 0 1 (nI j)) 169 0 (nI 0)) 169 2 (nI j)) := kp_tr (kp_s0 (by decide)) (kp_tr (kp_s169 (by decide)) (kp_s169 (by decide)))
        refine ⟨⟨j, by omega, rfl, rfl, fun i hi => t3 i (by omega)⟩, kp_F hk h2 ⟨rfl, rfl⟩, ⟨kp_SR hk h3.1 (fun q a b => by simp; omega), h3.2⟩, kp_R hk h4 ⟨rfl, rfl, rfl, rfl⟩, kp_S hk h5 ⟨rfl, rfl, rfl, rfl⟩, kp_W hk h6 ⟨rfl, rfl, rfl, rfl⟩, kp_I hk h7 ⟨rfl, rfl, rfl, rfl, rfl, fun q a b => by simp; omega⟩, kp_N hk h8 rfl⟩
    · rw [if_neg c2]
      refine ⟨_, _, _, rfl, ?_, RL_kp hR (kp_s169 (k := 0) (v := nI 0) (by decide))⟩
      unfold f_Mod_end
      rw [mm_lt, if_neg c1, if_neg]
      · rfl
      · show ¬ a ≤ σ.1 169 2
        rw [t2]; exact c2
theorem md_isntI {n : Nat} {i : Int32} (hn : n < 2 ^ 31) (h : i < nI 0 ∨ nI n ≤ i) {z : Nat → Nat} {m : Mm} : f_Mod_isIn z m i (nI 0) (nI n - nI 1) = some (nI 0) :=
  md_isnt (by rcases h with h | h; exact Or.inl h; exact Or.inr ((pr_lt hn).mpr (Or.inl h)))
theorem op_ringAt (hR : RL σ) (a : Int32) : ∃ r m, f_Hat_ringAt z_Law σ 0 a = some r ∧ f_Mod_ringAt z_Law σ 169 a = some (r, m) ∧ RL m := by
  obtain ⟨n, hn, r1, r2, r3⟩ := hR.2.2.2.1
  have key : ∃ r, f_Hat_ringAt z_Law σ 0 a = some r ∧ f_Mod_ringAt z_Law σ 169 a = some (r, kI σ 169 0 (nI 0)) := by
    have r2' : (kI σ 169 0 (nI 0)).1 169 26 = σ.1 169 26 := rfl
    have r3' : (kI σ 169 0 (nI 0)).1 177 = σ.1 177 := rfl
    unfold f_Hat_ringAt f_Mod_ringAt
    rcases arg_of a n (by omega) with ⟨k, hk, rfl⟩ | h
    · have hn0 : σ.1 169 26 = nI n := by
        rcases r2 with e | ⟨e, -⟩
        · exact e
        · omega
      refine ⟨σ.1 177 k, ?_, ?_⟩
      · simp (disch := omega) only [Nat.reduceAdd, r1, fl, lt_f, lt_t, ↓reduceIte, row_atE (p := 42) rfl zq_42, Option.bind_some, r3 k hk]
      · simp (disch := omega) only [Nat.reduceAdd, mm_lt, fl, r2', r3', hn0, nI_sub, md_isIn rfl, Option.bind_some, eq_f, ↓reduceIte, zq_177, ld_nI]
    · refine ⟨mN, ?_, ?_⟩
      · simp (disch := omega) only [Nat.reduceAdd, r1, fl, fmN]
        rcases h with h | h
        · rw [if_pos h]
        · by_cases h0 : a < nI 0
          · rw [if_pos h0]
          · rw [if_neg h0, if_neg (fun e => (fa_of_lt e).2.1 h)]
      · have h9 : f_Mod_isIn z_Law (kI σ 169 0 (nI 0)) a (nI 0) (σ.1 169 26 - nI 1) = some (nI 0) := by
          rcases r2 with e | ⟨e, e2⟩
          · rw [e]; exact md_isntI (by omega) h
          · rw [e2]
            refine md_isnt ?_
            rcases h with h | h
            · exact Or.inl h
            · right
              subst e
              exact fa_trans (b := nI 0) (by decide) h
        simp (disch := omega) only [Nat.reduceAdd, mm_lt, fl, r2', h9, Option.bind_some, ↓reduceIte, fmN]
  obtain ⟨r, h1, h2⟩ := key
  exact ⟨r, _, h1, h2, RL_kp hR (kp_s169 (by decide))⟩
theorem op_seatOf (hR : RL σ) (a : Int32) : ∃ r m, f_Hat_seatOf z_Law σ 0 a = some r ∧ f_Mod_seatOf z_Law σ 169 a = some (r, m) ∧ RL m := by
  obtain ⟨r1, r2, r3⟩ := hR.2.2.2.2.1
  have key : ∃ r, f_Hat_seatOf z_Law σ 0 a = some r ∧ f_Mod_seatOf z_Law σ 169 a = some (r, kI σ 169 0 (nI 0)) := by
    have r2' : (kI σ 169 0 (nI 0)).1 169 35 = σ.1 169 35 := rfl
    have r3' : (kI σ 169 0 (nI 0)).1 183 = σ.1 183 := rfl
    unfold f_Hat_seatOf f_Mod_seatOf
    rcases r2 with e | ⟨n, hn, e⟩
    · have e' : σ.1 169 35 = mN := r1 ▸ e
      refine ⟨mN, ?_, ?_⟩
      · simp (disch := omega) only [Nat.reduceAdd, e, fl, fmN]
        by_cases h0 : a < nI 0
        · rw [if_pos h0]
        · rw [if_neg h0, if_neg (fun e => h0 (fa_trans e (by decide)))]
      · have h9 : f_Mod_isIn z_Law (kI σ 169 0 (nI 0)) a (nI 0) (mN - nI 1) = some (nI 0) := by
          refine md_isnt ?_
          by_cases h0 : a < nI 0
          · exact Or.inl h0
          · exact Or.inr (fa_trans (b := nI 0) (by decide) (fa_of_nlt h0))
        simp (disch := omega) only [Nat.reduceAdd, mm_lt, fl, r2', e', h9, Option.bind_some, ↓reduceIte, fmN]
    · have e' : σ.1 169 35 = nI n := r1 ▸ e
      rcases arg_of a n (by omega) with ⟨k, hk, rfl⟩ | h
      · refine ⟨σ.1 183 k, ?_, ?_⟩
        · have r4 := r3 k (by rw [e, nI_clamp (by omega)]; exact hk)
          simp (disch := omega) only [Nat.reduceAdd, e, fl, lt_f, lt_t, ↓reduceIte, row_atE (p := 49) rfl zq_49, Option.bind_some, r4]
        · simp (disch := omega) only [Nat.reduceAdd, mm_lt, fl, r2', r3', e', nI_sub, md_isIn rfl, Option.bind_some, eq_f, ↓reduceIte, zq_183, ld_nI]
      · refine ⟨mN, ?_, ?_⟩
        · simp (disch := omega) only [Nat.reduceAdd, e, fl, fmN]
          rcases h with h | h
          · rw [if_pos h]
          · by_cases h0 : a < nI 0
            · rw [if_pos h0]
            · rw [if_neg h0, if_neg (fun e => (fa_of_lt e).2.1 h)]
        · have h9 : f_Mod_isIn z_Law (kI σ 169 0 (nI 0)) a (nI 0) (nI n - nI 1) = some (nI 0) := md_isntI (by omega) h
          simp (disch := omega) only [Nat.reduceAdd, mm_lt, fl, r2', e', h9, Option.bind_some, ↓reduceIte, fmN]
  obtain ⟨r, h1, h2⟩ := key
  exact ⟨r, _, h1, h2, RL_kp hR (kp_s169 (by decide))⟩
theorem op_went (hR : RL σ) (a : Int32) : ∃ r m, f_Hat_went z_Law σ 0 a = some r ∧ f_Mod_went z_Law σ 169 a = some (r, m) ∧ RL m := by
  obtain ⟨r1, r2, r3⟩ := hR.2.2.2.2.2.1
  have key : ∃ r, f_Hat_went z_Law σ 0 a = some r ∧ f_Mod_went z_Law σ 169 a = some (r, kI σ 169 0 (nI 0)) := by
    have r2' : (kI σ 169 0 (nI 0)).1 169 32 = σ.1 169 32 := rfl
    have r3' : (kI σ 169 0 (nI 0)).1 180 = σ.1 180 := rfl
    unfold f_Hat_went f_Mod_went
    rcases r2 with e | e
    · have e' : σ.1 169 32 = nI 0 := r1 ▸ e
      refine ⟨mN, ?_, ?_⟩
      · simp (disch := omega) only [Nat.reduceAdd, e, fl, fmN, ↓reduceIte]
      · simp (disch := omega) only [Nat.reduceAdd, mm_lt, fl, r2', e', ↓reduceIte, fmN]
    · have e' : σ.1 169 32 = nI 1 := r1 ▸ e
      rcases arg_of a 4 (by decide) with ⟨k, hk, rfl⟩ | h
      · refine ⟨σ.1 180 k, ?_, ?_⟩
        · simp (disch := omega) only [Nat.reduceAdd, e, fl, eq_f, ↓reduceIte, row_atE (p := 59) rfl zq_59, Option.bind_some, r3 e k hk]
        · simp (disch := omega) only [Nat.reduceAdd, mm_lt, fl, r2', r3', e', md_isIn rfl, Option.bind_some, eq_f, ↓reduceIte, zq_180, ld_nI]
      · refine ⟨mN, ?_, ?_⟩
        · simp (disch := omega) only [Nat.reduceAdd, e, fl, eq_f, ↓reduceIte, row_outE (p := 59) rfl zq_59 h, Option.bind_some]
        · have h9 : a < nI 0 ∨ nI 3 < a := by
            rcases h with h | h
            · exact Or.inl h
            · exact Or.inr (fa_trans (b := nI 4) (by decide) h)
          simp (disch := omega) only [Nat.reduceAdd, mm_lt, fl, r2', e', md_isnt h9, Option.bind_some, eq_f, ↓reduceIte, fmN]
  obtain ⟨r, h1, h2⟩ := key
  exact ⟨r, _, h1, h2, RL_kp hR (kp_s169 (by decide))⟩
end OPS1
