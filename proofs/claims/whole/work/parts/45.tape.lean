/-! feed, grave -/
section TAPE
variable {σ m : Mm} {S : Nat → Int32}
/-- the j-th byte of a number, the highest first -/
def by2 (v : Int32) (j : Nat) : Int32 := ((v.toUInt32 >>> ((nI (24 - 8 * j)).toUInt32 &&& Int32.toUInt32 31)).toInt32) &&& nI 255
theorem b_255n (i : Nat) : bt (nI 255) i = decide (i < 8) := b_255 i
theorem by2_M {v : Int32} {j : Nat} : (vp_nar .byte (v >>> (nI (24 - 8 * j) &&& nI 31)).toInt8.toInt32) &&& nI 255 = by2 v j := by
  rw [pk_vb]
  show ((v >>> (nI (24 - 8 * j) &&& nI 31)).toInt8.toInt32) &&& 255 = by2 v j
  rw [bp_b]
  apply b_ext
  intro i hi
  unfold by2
  show bt (_ &&& 255) i = bt (_ &&& 255) i
  rw [b_and, b_and, b_255]
  by_cases h : i < 8
  · rw [decide_eq_true h, Bool.and_true, Bool.and_true]
    rw [b_ushr (24 - 8 * j) (by omega) v i]
    have := b_sshr (24 - 8 * j) (by omega) v hi
    rw [if_pos (by omega)] at this
    exact this
  · rw [decide_eq_false h, Bool.and_false, Bool.and_false]
theorem f8 : -nI 8 = Int32.ofInt (-8) := by decide
theorem dn8 (j : Nat) : nI 24 - nI (8 * j) + -nI 8 = nI 24 - nI (8 * (j + 1)) := by
  rw [show 8 * (j + 1) = 8 * j + 8 by omega, ← nI_add (8 * j) 8, ← Int32.sub_sub, Int32.sub_eq_add_neg (nI 24 - nI (8 * j))]
def AF : Nat → Bool := fun q => q == 4 || q == 1001
def AM : Nat → Bool := fun q => q == 170 || q == 2002
theorem hat_fn {len : Nat} {v : Int32} (h : m.1 0 1 = nI len) (hl : len + 4 ≤ 940) : ∃ m', f_Hat_feedNumber z_Law m 0 v = some m' ∧ m'.1 0 1 = nI (len + 4) ∧ (∀ i, i < len → m'.1 4 i = m.1 4 i) ∧ (∀ j, j < 4 → m'.1 4 (len + j) = by2 v j) ∧ kp AF m m' := by
  have key : ∃ m', mm_lp (f_Hat_feedNumber_L3 z_Law 0 v) (nI 24, m) = some m' ∧ m'.1 0 1 = nI (len + 4) ∧ (∀ i, i < len → m'.1 4 i = m.1 4 i) ∧ (∀ j, j < 4 → m'.1 4 (len + j) = by2 v j) ∧ kp AF m m' := by
    refine lp_ix (fun j s => s.1 = nI 24 - nI (8 * j) ∧ s.2.1 0 1 = nI (len + j) ∧ (∀ i, i < len → s.2.1 4 i = m.1 4 i) ∧ (∀ i, i < j → s.2.1 4 (len + i) = by2 v i) ∧ kp AF m s.2) 4 (fun j s hj hI => ?_) (fun s hI => ?_) ⟨rfl, h, fun _ _ => rfl, fun i hi => absurd hi (by omega), kp_rf⟩
    · obtain ⟨c, q⟩ := s
      obtain ⟨h1, h2, h3, h4, h5⟩ := hI
      dsimp only at h1 h2 h3 h4 h5
      subst h1
      refine ⟨(nI 24 - nI (8 * (j + 1)), kI (kI q 4 (len + j) (by2 v j)) 0 1 (nI (len + j + 1))), ?_, rfl, rfl, fun i hi => ?_, fun i hi => ?_, kp_tr h5 (kp_tr (kp_kI (by decide)) (kp_s0 (by decide)))⟩
      · unfold f_Hat_feedNumber_L3
        rw [dn_sub (by omega : 8 * j ≤ 24)]
        have e9 : (kI q 4 (len + j) (by2 v j)).1 0 1 = nI (len + j) := h2
        have e8 : ((v.toUInt32 >>> ((nI (24 - 8 * j)).toUInt32 &&& Int32.toUInt32 (nI 31))).toInt32) &&& nI 255 = by2 v j := rfl
        simp (disch := omega) only [fl, mm_lt, Nat.reduceAdd, Nat.zero_add, Option.bind_some, lt_f, ↓reduceIte, nI_add, h2, e8, row_putE (p := 4) rfl zq_4, e9]
        rw [← dn_sub (by omega : 8 * j ≤ 24), dn8]
      · show (kI q 4 (len + j) (by2 v j)).1 4 i = _
        rw [kI_at, if_neg (by omega)]; exact h3 i hi
      · show (kI q 4 (len + j) (by2 v j)).1 4 (len + i) = _
        rw [kI_at]
        by_cases h9 : i = j
        · rw [if_pos (by omega), h9]
        · rw [if_neg (by omega)]; exact h4 i (by omega)
    · obtain ⟨c, q⟩ := s
      obtain ⟨h1, h2, h3, h4, h5⟩ := hI
      dsimp only at h1 h2 h3 h4 h5
      subst h1
      refine ⟨q, ?_, h2, h3, h4, h5⟩
      unfold f_Hat_feedNumber_L3
      exact if_pos (show nI 24 - nI 32 < 0 by decide)
  obtain ⟨m', e, h1⟩ := key
  refine ⟨m', ?_, h1⟩
  unfold f_Hat_feedNumber
  simp only [fl]
  rw [e]; rfl
theorem md_fn {len : Nat} {v : Int32} (h : m.1 169 2 = nI len) (hl : len + 4 ≤ 940) : ∃ m', f_Mod_four z_Law m 169 v = some m' ∧ m'.1 169 2 = nI (len + 4) ∧ (∀ i, i < len → m'.1 170 i = m.1 170 i) ∧ (∀ j, j < 4 → m'.1 170 (len + j) &&& 255 = by2 v j) ∧ kp AM m m' := by
  have key : ∃ m', mm_lp (f_Mod_four_L3 z_Law 169 v) (nI 24, m) = some m' ∧ m'.1 169 2 = nI (len + 4) ∧ (∀ i, i < len → m'.1 170 i = m.1 170 i) ∧ (∀ j, j < 4 → m'.1 170 (len + j) &&& 255 = by2 v j) ∧ kp AM m m' := by
    refine lp_ix (fun j s => s.1 = nI 24 - nI (8 * j) ∧ s.2.1 169 2 = nI (len + j) ∧ (∀ i, i < len → s.2.1 170 i = m.1 170 i) ∧ (∀ i, i < j → s.2.1 170 (len + i) &&& 255 = by2 v i) ∧ kp AM m s.2) 4 (fun j s hj hI => ?_) (fun s hI => ?_) ⟨rfl, h, fun _ _ => rfl, fun i hi => absurd hi (by omega), kp_rf⟩
    · obtain ⟨c, q⟩ := s
      obtain ⟨h1, h2, h3, h4, h5⟩ := hI
      dsimp only at h1 h2 h3 h4 h5
      subst h1
      refine ⟨(nI 24 - nI (8 * (j + 1)), kI (kI q 170 (len + j) (vp_nar .byte (v >>> (nI (24 - 8 * j) &&& nI 31)).toInt8.toInt32)) 169 2 (nI (len + j + 1))), ?_, rfl, rfl, fun i hi => ?_, fun i hi => ?_, kp_tr h5 (kp_tr (kp_kI (by decide)) (kp_s169 (by decide)))⟩
      · unfold f_Mod_four_L3
        rw [dn_sub (by omega : 8 * j ≤ 24)]
        have e9 : (kI q 170 (len + j) (vp_nar .byte (v >>> (nI (24 - 8 * j) &&& nI 31)).toInt8.toInt32)).1 169 2 = nI (len + j) := h2
        simp (disch := omega) only [fl, mm_lt, Nat.reduceAdd, Option.bind_some, lt_f, ↓reduceIte, nI_add, h2, zq_170, st_nI, e9]
        rw [← dn_sub (by omega : 8 * j ≤ 24), dn8]
      · show (kI q 170 (len + j) _).1 170 i = _
        rw [kI_at, if_neg (by omega)]; exact h3 i hi
      · show (kI q 170 (len + j) _).1 170 (len + i) &&& 255 = _
        rw [kI_at]
        by_cases h9 : i = j
        · rw [if_pos (by omega), h9]; exact by2_M
        · rw [if_neg (by omega)]; exact h4 i (by omega)
    · obtain ⟨c, q⟩ := s
      obtain ⟨h1, h2, h3, h4, h5⟩ := hI
      dsimp only at h1 h2 h3 h4 h5
      subst h1
      refine ⟨q, ?_, h2, h3, h4, h5⟩
      unfold f_Mod_four_L3
      exact if_pos (show nI 24 - nI 32 < 0 by decide)
  obtain ⟨m', e, h1⟩ := key
  refine ⟨m', ?_, h1⟩
  unfold f_Mod_four
  simp only [fl]
  rw [e]; rfl
theorem op_feed (hR : RL σ) (a b c d e : Int32) : ∃ r m1 m2, f_Hat_feed z_Law σ 0 a b c d e = some (r, m1) ∧ f_Mod_feed z_Law m1 169 a b c d e = some (r, m2) ∧ RL m2 := by
  obtain ⟨len, hl, t1, t2, t3⟩ := hR.1
  by_cases h : len + 20 ≤ 940
  · obtain ⟨x1, p1, q1, r1, s1, k1⟩ := hat_fn (m := σ) (v := a) t1 (by omega)
    obtain ⟨x2, p2, q2, r2, s2, k2⟩ := hat_fn (v := b) q1 (by omega)
    obtain ⟨x3, p3, q3, r3, s3, k3⟩ := hat_fn (v := c) q2 (by omega)
    obtain ⟨x4, p4, q4, r4, s4, k4⟩ := hat_fn (v := d) q3 (by omega)
    obtain ⟨x5, p5, q5, r5, s5, k5⟩ := hat_fn (v := e) q4 (by omega)
    have kA : kp AF σ x5 := kp_tr k1 (kp_tr k2 (kp_tr k3 (kp_tr k4 k5)))
    have kB : kp AF σ (kI x5 169 0 (nI 0)) := kp_tr kA (kp_s169 (by decide))
    have u2 : (kI x5 169 0 (nI 0)).1 169 2 = nI len := (kB.2.2.2.2 2 (by decide) rfl).trans t2
    have u3 : (kI x5 169 0 (nI 0)).1 170 = σ.1 170 := (kB.1 170 rfl rfl).1
    obtain ⟨y1, p1', q1', r1', s1', k1'⟩ := md_fn (v := a) u2 (by omega)
    obtain ⟨y2, p2', q2', r2', s2', k2'⟩ := md_fn (v := b) q1' (by omega)
    obtain ⟨y3, p3', q3', r3', s3', k3'⟩ := md_fn (v := c) q2' (by omega)
    obtain ⟨y4, p4', q4', r4', s4', k4'⟩ := md_fn (v := d) q3' (by omega)
    obtain ⟨y5, p5', q5', r5', s5', k5'⟩ := md_fn (v := e) q4' (by omega)
    have kC : kp AM (kI x5 169 0 (nI 0)) y5 := kp_tr k1' (kp_tr k2' (kp_tr k3' (kp_tr k4' k5')))
    have e4 : y5.1 4 = x5.1 4 := (kC.1 4 rfl rfl).1
    have e1 : y5.1 0 1 = nI (len + 20) := (kC.2.1 1 (by decide) rfl).trans q5
    refine ⟨nI (len + 20), x5, y5, ?_, ?_, RL_T hR (kp_tr (kp_mono kB (fun q hq => by simp [AF] at hq; simp [AT]; omega)) (kp_mono kC (fun q hq => by simp [AM] at hq; simp [AT]; omega))) ⟨len + 20, by omega, e1, q5', fun i hi => ?_⟩⟩
    · unfold f_Hat_feed
      simp (disch := omega) only [fl, fmN, mm_lt, Nat.reduceAdd, Option.bind_some, lt_t, lt_f, le_t, le_f, eq_f, eq_self, nI_add, nI_mul, nI_sub, ↓reduceIte, t1, p1, p2, p3, p4, p5, q5]
    · unfold f_Mod_feed
      simp (disch := omega) only [fl, fmN, mm_lt, Nat.reduceAdd, Option.bind_some, lt_t, lt_f, le_t, le_f, eq_f, eq_self, nI_add, nI_mul, nI_sub, ↓reduceIte, u2, p1', p2', p3', p4', p5', q5']
    · rw [e4]
      by_cases h0 : i < len
      · rw [r5 i (by omega), r4 i (by omega), r3 i (by omega), r2 i (by omega), r1 i h0, r5' i (by omega), r4' i (by omega), r3' i (by omega), r2' i (by omega), r1' i h0, u3]
        exact t3 i h0
      · by_cases h1 : i < len + 4
        · obtain ⟨j, rfl⟩ : ∃ j, i = len + j := ⟨i - len, by omega⟩
          rw [r5 _ (by omega), r4 _ (by omega), r3 _ (by omega), r2 _ (by omega), s1 j (by omega), r5' _ (by omega), r4' _ (by omega), r3' _ (by omega), r2' _ (by omega), s1' j (by omega)]
        · by_cases h2 : i < len + 4 + 4
          · obtain ⟨j, rfl⟩ : ∃ j, i = len + 4 + j := ⟨i - (len + 4), by omega⟩
            rw [r5 _ (by omega), r4 _ (by omega), r3 _ (by omega), s2 j (by omega), r5' _ (by omega), r4' _ (by omega), r3' _ (by omega), s2' j (by omega)]
          · by_cases h3 : i < len + 4 + 4 + 4
            · obtain ⟨j, rfl⟩ : ∃ j, i = len + 4 + 4 + j := ⟨i - (len + 4 + 4), by omega⟩
              rw [r5 _ (by omega), r4 _ (by omega), s3 j (by omega), r5' _ (by omega), r4' _ (by omega), s3' j (by omega)]
            · by_cases h4 : i < len + 4 + 4 + 4 + 4
              · obtain ⟨j, rfl⟩ : ∃ j, i = len + 4 + 4 + 4 + j := ⟨i - (len + 4 + 4 + 4), by omega⟩
                rw [r5 _ (by omega), s4 j (by omega), r5' _ (by omega), s4' j (by omega)]
              · obtain ⟨j, rfl⟩ : ∃ j, i = len + 4 + 4 + 4 + 4 + j := ⟨i - (len + 4 + 4 + 4 + 4), by omega⟩
                rw [s5 j (by omega), s5' j (by omega)]
  · refine ⟨mN, σ, kI σ 169 0 (nI 0), ?_, ?_, rl_th hR⟩
    · unfold f_Hat_feed
      simp (disch := omega) only [fl, fmN, mm_lt, Nat.reduceAdd, Option.bind_some, lt_t, lt_f, le_t, le_f, eq_f, eq_self, nI_add, nI_mul, nI_sub, ↓reduceIte, t1]
    · have t2' : (kI σ 169 0 (nI 0)).1 169 2 = nI len := t2
      unfold f_Mod_feed
      simp (disch := omega) only [fl, fmN, mm_lt, Nat.reduceAdd, Option.bind_some, lt_t, lt_f, le_t, le_f, eq_f, eq_self, nI_add, nI_mul, nI_sub, ↓reduceIte, t2']
end TAPE
