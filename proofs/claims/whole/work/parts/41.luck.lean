/-! luck, unfair -/
/-- in how many ways of t draws j are good -/
def ch (g b : Nat) : Nat → Nat → Nat
  | 0, j => if j = 0 then 1 else 0
  | t + 1, j => ch g b t j * b + (if j = 0 then 0 else ch g b t (j - 1) * g)
theorem ch_0 (g b : Nat) : ∀ t j, t < j → ch g b t j = 0
  | 0, j, h => if_neg (by omega)
  | t + 1, j, h => by
    show ch g b t j * b + (if j = 0 then 0 else ch g b t (j - 1) * g) = 0
    rw [ch_0 g b t j (by omega), if_neg (by omega), ch_0 g b t (j - 1) (by omega), Nat.zero_mul, Nat.zero_mul]
theorem ch_sum (g b t : Nat) : ∀ m, fb_sm (ch g b (t + 1)) (m + 1) = b * fb_sm (ch g b t) (m + 1) + g * fb_sm (ch g b t) m
  | 0 => by
    show 0 + (ch g b t 0 * b + 0) = b * (0 + ch g b t 0) + g * 0
    rw [Nat.zero_add, Nat.zero_add, Nat.mul_zero, Nat.add_zero, Nat.add_zero, Nat.mul_comm]
  | m + 1 => by
    have e1 : b * fb_sm (ch g b t) (m + 1 + 1) = b * fb_sm (ch g b t) (m + 1) + b * ch g b t (m + 1) := Nat.mul_add b _ _
    have e2 : g * fb_sm (ch g b t) (m + 1) = g * fb_sm (ch g b t) m + g * ch g b t m := Nat.mul_add g _ _
    have e3 : ch g b (t + 1) (m + 1) = b * ch g b t (m + 1) + g * ch g b t m := by
      show ch g b t (m + 1) * b + (if m + 1 = 0 then 0 else ch g b t (m + 1 - 1) * g) = _
      rw [if_neg (by omega), Nat.add_sub_cancel, Nat.mul_comm, Nat.mul_comm g]
    rw [fb_sm_succ (ch g b (t + 1)) (m + 1), ch_sum g b t m, e1, e2, e3]
    omega
theorem ch_le (g b : Nat) : ∀ t, fb_sm (ch g b t) 13 ≤ (g + b) ^ t
  | 0 => by
    show fb_sm (ch g b 0) 13 ≤ 1
    exact (by decide : fb_sm (fun j => if j = 0 then 1 else 0) 13 ≤ 1)
  | t + 1 => by
    have h0 : fb_sm (ch g b (t + 1)) 13 = b * fb_sm (ch g b t) 13 + g * fb_sm (ch g b t) 12 := ch_sum g b t 12
    rw [h0, Nat.pow_succ]
    have h1 := ch_le g b t
    have h2 : fb_sm (ch g b t) 12 ≤ fb_sm (ch g b t) 13 := fb_sm_mono (ch g b t) 12 1
    have h3 : b * fb_sm (ch g b t) 13 ≤ b * (g + b) ^ t := Nat.mul_le_mul_left b h1
    have h4 : g * fb_sm (ch g b t) 12 ≤ g * (g + b) ^ t := Nat.mul_le_mul_left g (Nat.le_trans h2 h1)
    have h5 : (g + b) ^ t * (g + b) = g * (g + b) ^ t + b * (g + b) ^ t := by rw [Nat.mul_comm, Nat.add_mul]
    omega
theorem ch_tail (g b t d : Nat) (hd : d ≤ 13) : fb_sm (fun j => ch g b t (d + j)) (13 - d) ≤ (g + b) ^ t := by
  have h := fb_sm_split (ch g b t) d (13 - d)
  rw [show d + (13 - d) = 13 by omega] at h
  have := ch_le g b t
  omega
section LUCK
variable {σ u : Mm} {S : Nat → Int32}
/-- SURNAMES of a WORTH, those of the first n -/
def gw (S : Nat → Int32) (w : Int32) : Nat → Nat := fb_ct (fun x => !decide (S (5 + x) < w))
/-- how many such it drew in t SPRINGS -/
def dw (S : Nat → Int32) (w : Int32) (h : Nat) : Nat → Nat := fb_ct (fun t => !decide (S (332 + 8 * (t + 1) + h) = mN) && !decide (S (5 + (S (332 + 8 * (t + 1) + h)).toNatClampNeg) < w))
theorem hat_gw (hI : IR σ 61 S) (hv : Inv S) {w : Int32} : f_Island_howManyOfWorth z_Law σ 61 w = some (nI (gw S w (sn S))) := by
  have n10 := iv_n10 hv
  have hn : σ.1 62 1 = nI (sn S) := hI.1.trans (iv_n hv)
  unfold f_Island_howManyOfWorth
  simp only [fl]
  have key : mm_lp (f_Island_howManyOfWorth_L4 z_Law σ 61 w) (nI 0, nI 0) = some (nI (gw S w (sn S))) := by
    refine lp_go (fun i => (nI (gw S w i), nI i)) (sn S) rfl (fun i hi => ?_) ?_
    · unfold f_Island_howManyOfWorth_L4
      simp (disch := omega) only [fl, fmN, mm_lt, Nat.reduceAdd, Option.bind_some, lt_t, lt_f, le_t, le_f, eq_f, eq_self, nI_add, nI_mul, nI_sub, ↓reduceIte, hn, row_atE (p := 67) rfl zq_67, hI.2.2.2.2.2.1 i]
      show _ = some (Sum.inl (nI (gw S w i + (if (!decide (S (5 + i) < w)) = true then 1 else 0)), _))
      by_cases h : S (5 + i) < w
      · simp only [h, decide_true, Bool.not_true, if_true, if_false, Nat.add_zero, Bool.false_eq_true]
      · simp only [h, decide_false, Bool.not_false, if_true, if_false]
    · unfold f_Island_howManyOfWorth_L4
      simp (disch := omega) only [fl, fmN, mm_lt, Nat.reduceAdd, Option.bind_some, lt_t, lt_f, le_t, le_f, eq_f, eq_self, nI_add, nI_mul, nI_sub, ↓reduceIte, hn]
  rw [key]; rfl
theorem md_gw (hs : u.1 171 = S) (hv : Inv S) {a w : Int32} : mm_lp (f_Mod_hasLuck_L42 z_Law u 169 a w) (nI 0, nI 0) = some (nI (gw S w (sn S))) := by
  have n10 := iv_n10 hv
  refine lp_go (fun i => (nI (gw S w i), nI i)) (sn S) rfl (fun i hi => ?_) ?_
  · unfold f_Mod_hasLuck_L42
    simp (disch := omega) only [fl, fmN, mm_lt, Nat.reduceAdd, Option.bind_some, lt_t, lt_f, le_t, le_f, eq_f, eq_self, nI_add, nI_mul, nI_sub, ↓reduceIte, zq_171, ld_nI, hs, iv_n hv]
    show _ = some (Sum.inl (nI (gw S w i + (if (!decide (S (5 + i) < w)) = true then 1 else 0)), _))
    by_cases h : S (5 + i) < w
    · simp only [h, decide_true, Bool.not_true, if_true, if_false, Nat.add_zero, Bool.false_eq_true]
    · simp only [h, decide_false, Bool.not_false, if_true, if_false]
  · unfold f_Mod_hasLuck_L42
    simp (disch := omega) only [fl, fmN, mm_lt, Nat.reduceAdd, Option.bind_some, lt_t, lt_f, le_t, le_f, eq_f, eq_self, nI_add, nI_mul, nI_sub, ↓reduceIte, zq_171, ld_nI, hs, iv_n hv]
theorem dw_succ {w : Int32} {h i : Nat} : dw S w h (i + 1) = dw S w h i + (if (!decide (S (332 + 8 * (i + 1) + h) = mN) && !decide (S (5 + (S (332 + 8 * (i + 1) + h)).toNatClampNeg) < w)) = true then 1 else 0) := rfl
theorem hat_dw (hR : RS σ) {w : Int32} {h : Nat} (hh : h < sm (σ.1 171)) : f_State_drewOfWorth z_Law σ 60 (nI h) w = some (nI (dw (σ.1 171) w h (sp (σ.1 171)))) := by
  have hv := rl_v hR
  have n10 := iv_n10 hv
  have m8 := iv_m8 hv
  have h24 := iv_sp24 hv
  have hp := rl_sp hR
  have hI := rl_I hR
  unfold f_State_drewOfWorth
  simp only [fl]
  have key : mm_lp (f_State_drewOfWorth_L5 z_Law σ 60 (nI h) w) (nI 0, nI 1) = some (nI (dw (σ.1 171) w h (sp (σ.1 171)))) := by
    refine lp_go (fun i => (nI (dw (σ.1 171) w h i), nI (i + 1))) (sp (σ.1 171)) rfl (fun i hi => ?_) ?_
    · unfold f_State_drewOfWorth_L5
      have hd : σ.1 86 ((i + 1) * 8 + h) = σ.1 171 (332 + 8 * (i + 1) + h) := by rw [Nat.mul_comm]; exact (rl_S hR).2.2.2.2.2.1 (i + 1) h (by omega) (by omega) hh
      simp (disch := omega) only [fl, fmN, mm_lt, Nat.reduceAdd, Option.bind_some, lt_t, lt_f, le_t, le_f, eq_f, eq_self, nI_add, nI_mul, nI_sub, ↓reduceIte, hp, row_atE (p := 86) rfl zq_86, hd]
      rw [dw_succ]
      rcases iv_drew hv (i + 1) h (by omega) (by omega) hh with e | ⟨x, hx, e⟩
      · rw [e]
        simp only [if_true, decide_true, Bool.not_true, Bool.false_and, Bool.false_eq_true, if_false, Nat.add_zero]
      · rw [e]
        simp (disch := omega) only [mN_ne, if_false, decide_false, Bool.not_false, Bool.true_and, nI_clamp, row_atE (p := 67) rfl zq_67, hI.2.2.2.2.2.1 x, Option.bind_some, mm_lt, fl, nI_add]
        by_cases h9 : σ.1 171 (5 + x) < w
        · simp only [h9, if_true, decide_true, Bool.not_true, Bool.false_eq_true, if_false, Nat.add_zero]
        · simp only [h9, decide_false, Bool.not_false, if_true, if_false]
    · unfold f_State_drewOfWorth_L5
      simp (disch := omega) only [fl, fmN, mm_lt, Nat.reduceAdd, Option.bind_some, lt_t, lt_f, le_t, le_f, eq_f, eq_self, nI_add, nI_mul, nI_sub, ↓reduceIte, hp]
  rw [key]; rfl
/-- ways that are as lucky: class -/
theorem hat_lw (hR : RS σ) {w : Int32} {h : Nat} (hh : h < sm (σ.1 171)) (hp1 : 1 ≤ sp (σ.1 171)) (hp12 : sp (σ.1 171) ≤ 12) : ∃ m, f_Hat_luckyWays z_Law σ 0 (nI h) w = some (fo (fun j s => s + lN (ch (gw (σ.1 171) w (sn (σ.1 171))) (sn (σ.1 171) - gw (σ.1 171) w (sn (σ.1 171))) (sp (σ.1 171)) (dw (σ.1 171) w h (sp (σ.1 171)) + j))) (13 - dw (σ.1 171) w h (sp (σ.1 171))) (lN 0), m) ∧ m.1 = σ.1 ∧ kp no σ m := by
  have hv := rl_v hR
  have n10 := iv_n10 hv
  have hg : gw (σ.1 171) w (sn (σ.1 171)) ≤ sn (σ.1 171) := fb_ct_le _ _
  have hd : dw (σ.1 171) w h (sp (σ.1 171)) ≤ sp (σ.1 171) := fb_ct_le _ _
  obtain ⟨g, eg⟩ : ∃ g, gw (σ.1 171) w (sn (σ.1 171)) = g := ⟨_, rfl⟩
  obtain ⟨d, ed⟩ : ∃ d, dw (σ.1 171) w h (sp (σ.1 171)) = d := ⟨_, rfl⟩
  unfold f_Hat_luckyWays
  simp only [fl, fmN, mm_lt, Nat.reduceAdd, Option.bind_some, lt_t, lt_f, le_t, le_f, eq_f, eq_self, nI_add, nI_mul, nI_sub, ↓reduceIte, hat_gw (rl_I hR) hv, rl_n hR]
  rw [eg] at hg ⊢
  rw [ed] at hd ⊢
  rw [nI_sub hg]
  obtain ⟨b, eb⟩ : ∃ b, sn (σ.1 171) - g = b := ⟨_, rfl⟩
  rw [eb]
  have L32 : ∃ m, mm_lp (f_Hat_luckyWays_L32 z_Law 0 (nI h) w (nI g) (nI b)) (nI 0, σ) = some m ∧ m.1 = σ.1 ∧ kp no σ m ∧ ∀ j, j < 13 → m.2 168 j = lN (ch g b 0 j) := by
    refine lp_ix (fun i s => s.1 = nI i ∧ s.2.1 = σ.1 ∧ kp no σ s.2 ∧ ∀ j, j < i → s.2.2 168 j = lN (ch g b 0 j)) 13 (fun i s hi hI => ?_) (fun s hI => ?_) ⟨rfl, rfl, kp_rf, fun j hj => absurd hj (by omega)⟩
    · obtain ⟨c, m⟩ := s
      obtain ⟨h1, h2, h3, h4⟩ := hI
      dsimp only at h1 h2 h3 h4
      subst h1
      refine ⟨(nI (i + 1), kL m 168 i (lN (ch g b 0 i))), ?_, rfl, h2, kp_tr h3 (kp_kL (by decide)), fun j hj => ?_⟩
      · unfold f_Hat_luckyWays_L32
        simp (disch := omega) only [fl, fmN, mm_lt, Nat.reduceAdd, Option.bind_some, lt_t, lt_f, le_t, le_f, eq_f, eq_self, nI_add, nI_mul, nI_sub, ↓reduceIte, Nat.zero_add, zq_168, fa_litL, stL_nI, nI_eq]
        by_cases h0 : i = 0
        · subst h0; rfl
        · rw [if_neg h0]
          show _ = some (Sum.inl (_, kL m 168 i (lN (if i = 0 then 1 else 0))))
          rw [if_neg h0]
      · show (kL m 168 i (lN (ch g b 0 i))).2 168 j = _
        rw [kL_s]
        show (if j = i then _ else m.2 168 j) = _
        by_cases h0 : j = i
        · rw [if_pos h0, h0]
        · rw [if_neg h0]; exact h4 j (by omega)
    · obtain ⟨c, m⟩ := s
      obtain ⟨h1, h2, h3, h4⟩ := hI
      dsimp only at h1 h2 h3 h4
      subst h1
      refine ⟨m, ?_, h2, h3, h4⟩
      unfold f_Hat_luckyWays_L32
      simp (disch := omega) only [fl, fmN, mm_lt, Nat.reduceAdd, Option.bind_some, lt_t, lt_f, le_t, le_f, eq_f, eq_self, nI_add, nI_mul, nI_sub, ↓reduceIte, Nat.zero_add, zq_168]
  obtain ⟨m0, e0, f0, k0, r0⟩ := L32
  rw [e0, Option.bind_some]
  have L68 : ∃ m, mm_lp (f_Hat_luckyWays_L68 z_Law 0 (nI h) w (nI g) (nI b)) (nI 0, m0) = some m ∧ m.1 = σ.1 ∧ kp no σ m ∧ ∀ j, j < 13 → m.2 168 j = lN (ch g b (sp (σ.1 171)) j) := by
    refine lp_ix (fun i s => s.1 = nI i ∧ s.2.1 = σ.1 ∧ kp no σ s.2 ∧ ∀ j, j < 13 → s.2.2 168 j = lN (ch g b i j)) (sp (σ.1 171)) (fun i s hi hI => ?_) (fun s hI => ?_) ⟨rfl, f0, k0, r0⟩
    · obtain ⟨c, m⟩ := s
      obtain ⟨h1, h2, h3, h4⟩ := hI
      dsimp only at h1 h2 h3 h4
      subst h1
      have inner : ∃ m', mm_lp (f_Hat_luckyWays_L89 z_Law 0 (nI h) w (nI g) (nI b) (nI i)) (nI 12, m) = some m' ∧ m'.1 = σ.1 ∧ kp no σ m' ∧ ∀ j, j < 13 → m'.2 168 j = lN (ch g b (i + 1) j) := by
        refine lp_ix (fun k s => s.1 = nI 12 - nI k ∧ s.2.1 = σ.1 ∧ kp no σ s.2 ∧ (∀ j, j + k < 13 → s.2.2 168 j = lN (ch g b i j)) ∧ ∀ j, j < 13 → 13 ≤ j + k → s.2.2 168 j = lN (ch g b (i + 1) j)) 13 (fun k s hk hI => ?_) (fun s hI => ?_) ⟨(Int32.sub_zero _).symm, h2, h3, fun j hj => h4 j (by omega), fun j hj hj2 => absurd hj2 (by omega)⟩
        · obtain ⟨c, q⟩ := s
          obtain ⟨h5, h6, h7, h8, h9⟩ := hI
          dsimp only at h5 h6 h7 h8 h9
          subst h5
          have hl := h8 (12 - k) (by omega)
          refine ⟨(nI 12 - nI (k + 1), kL q 168 (12 - k) (lN (ch g b (i + 1) (12 - k)))), ?_, rfl, h6, kp_tr h7 (kp_kL (by decide)), fun j hj => ?_, fun j hj hj2 => ?_⟩
          · unfold f_Hat_luckyWays_L89
            rw [← dn_step]
            simp (disch := omega) only [fl, fmN, mm_lt, Nat.reduceAdd, Option.bind_some, lt_t, lt_f, le_t, le_f, eq_f, eq_self, nI_add, nI_mul, nI_sub, ↓reduceIte, Nat.zero_add, zq_168, ldL_nI, stL_nI, hl, nI_l, lN_mul, fa_litL]
            by_cases h0 : 12 - k = 0
            · simp (disch := omega) only [le_t, ↓reduceIte, lN_add]
              show _ = some (Sum.inl (_, kL q 168 (12 - k) (lN (ch g b i (12 - k) * b + (if 12 - k = 0 then 0 else ch g b i (12 - k - 1) * g)))))
              rw [if_pos h0]
            · have hl2 := h8 (12 - k - 1) (by omega)
              simp (disch := omega) only [le_f, ↓reduceIte, nI_sub, ldL_nI, Option.bind_some, hl2, lN_mul, lN_add]
              show _ = some (Sum.inl (_, kL q 168 (12 - k) (lN (ch g b i (12 - k) * b + (if 12 - k = 0 then 0 else ch g b i (12 - k - 1) * g)))))
              rw [if_neg h0]
          · show (kL q 168 (12 - k) _).2 168 j = _
            rw [kL_s]
            show (if j = 12 - k then _ else q.2 168 j) = _
            rw [if_neg (by omega)]
            exact h8 j (by omega)
          · show (kL q 168 (12 - k) _).2 168 j = _
            rw [kL_s]
            show (if j = 12 - k then _ else q.2 168 j) = _
            by_cases h0 : j = 12 - k
            · rw [if_pos h0, h0]
            · rw [if_neg h0]; exact h9 j hj (by omega)
        · obtain ⟨c, q⟩ := s
          obtain ⟨h5, h6, h7, h8, h9⟩ := hI
          dsimp only at h5 h6 h7 h8 h9
          subst h5
          refine ⟨q, ?_, h6, h7, fun j hj => h9 j hj (by omega)⟩
          unfold f_Hat_luckyWays_L89
          exact if_pos (show nI 12 - nI 13 < 0 by decide)
      obtain ⟨m', e1, e2, e3, e4⟩ := inner
      refine ⟨(nI (i + 1), m'), ?_, rfl, e2, e3, e4⟩
      unfold f_Hat_luckyWays_L68
      have hsp : m.1 60 2 = nI (sp (σ.1 171)) := by rw [h2]; exact rl_sp hR
      simp (disch := omega) only [fl, fmN, mm_lt, Nat.reduceAdd, Option.bind_some, lt_t, lt_f, le_t, le_f, eq_f, eq_self, nI_add, nI_mul, nI_sub, ↓reduceIte, Nat.zero_add, hsp, zq_168, e1]
    · obtain ⟨c, m⟩ := s
      obtain ⟨h1, h2, h3, h4⟩ := hI
      dsimp only at h1 h2 h3 h4
      subst h1
      refine ⟨m, ?_, h2, h3, h4⟩
      unfold f_Hat_luckyWays_L68
      have hsp : m.1 60 2 = nI (sp (σ.1 171)) := by rw [h2]; exact rl_sp hR
      simp (disch := omega) only [fl, fmN, mm_lt, Nat.reduceAdd, Option.bind_some, lt_t, lt_f, le_t, le_f, eq_f, eq_self, nI_add, nI_mul, nI_sub, ↓reduceIte, Nat.zero_add, hsp]
  obtain ⟨m1, e1, f1, k1, r1⟩ := L68
  rw [e1, Option.bind_some]
  have hR1 : RS m1 := RS_kp hR k1 ⟨rfl, rfl, fun _ _ _ => rfl⟩
  have hS1 : m1.1 171 = σ.1 171 := by rw [f1]
  have hdw := hat_dw (w := w) (h := h) hR1 (by rw [hS1]; exact hh)
  rw [hS1, ed] at hdw
  simp only [Nat.zero_add, hdw, Option.bind_some]
  refine ⟨m1, ?_, f1, k1⟩
  simp only [fa_litL]
  rw [lp_foK (fun j s => s + lN (ch g b (sp (σ.1 171)) j)) d 13 (by omega) (fun i y h1 h2 => ?_) (fun y => ?_)]
  · rfl
  · unfold f_Hat_luckyWays_L160
    simp (disch := omega) only [fl, fmN, mm_lt, Nat.reduceAdd, Option.bind_some, lt_t, lt_f, le_t, le_f, eq_f, eq_self, nI_add, nI_mul, nI_sub, ↓reduceIte, Nat.zero_add, zq_168, ldL_nI, r1 i h2]
  · unfold f_Hat_luckyWays_L160
    simp (disch := omega) only [fl, fmN, mm_lt, Nat.reduceAdd, Option.bind_some, lt_t, lt_f, le_t, le_f, eq_f, eq_self, nI_add, nI_mul, nI_sub, ↓reduceIte, Nat.zero_add, zq_168]
theorem hat_aw (hR : RS σ) (hp12 : sp (σ.1 171) ≤ 12) : f_Hat_allWays z_Law σ 0 = some (lN (sn (σ.1 171) ^ sp (σ.1 171))) := by
  have hv := rl_v hR
  have n10 := iv_n10 hv
  have hn := rl_n hR
  have hp := rl_sp hR
  unfold f_Hat_allWays
  simp only [fl, fa_litL]
  have key : mm_lp (f_Hat_allWays_L4 z_Law σ 0) (lN 1, nI 0) = some (lN (sn (σ.1 171) ^ sp (σ.1 171))) := by
    refine lp_go (fun i => (lN (sn (σ.1 171) ^ i), nI i)) (sp (σ.1 171)) rfl (fun i hi => ?_) ?_
    · unfold f_Hat_allWays_L4
      simp (disch := omega) only [fl, fmN, mm_lt, Nat.reduceAdd, Option.bind_some, lt_t, lt_f, le_t, le_f, eq_f, eq_self, nI_add, nI_mul, nI_sub, ↓reduceIte, hp, hn, nI_l, lN_mul]
      rw [Nat.pow_succ]
    · unfold f_Hat_allWays_L4
      simp (disch := omega) only [fl, fmN, mm_lt, Nat.reduceAdd, Option.bind_some, lt_t, lt_f, le_t, le_f, eq_f, eq_self, nI_add, nI_mul, nI_sub, ↓reduceIte, hp]
  rw [key]; rfl
/-- what the reference leaves alone while it counts -/
def GL (u : Mm) (S : Nat → Int32) (m : Mm) : Prop := kp no u m ∧ m.1 171 = S ∧ m.2 190 = u.2 190 ∧ m.1 169 0 = u.1 169 0
theorem GL_40 {m : Mm} {v : Int32} (h : GL u S m) : GL u S (kI m 169 40 v) := ⟨kp_tr h.1 (kp_s169 (by decide)), h.2.1, h.2.2.1, h.2.2.2⟩
theorem GL_l {m : Mm} {k : Nat} {v : Int64} (h : GL u S m) : GL u S (kL m 169 k v) := ⟨kp_tr h.1 kp_l169, h.2.1, (kL_o m 169 k v (by decide)).trans h.2.2.1, h.2.2.2⟩
theorem GL_c {m : Mm} {k : Nat} {v : Int64} (h : GL u S m) : GL u S (kL m 186 k v) := ⟨kp_tr h.1 (kp_kL (by decide)), h.2.1, (kL_o m 186 k v (by decide)).trans h.2.2.1, h.2.2.2⟩
theorem kL_at {m : Mm} {o k j : Nat} {v : Int64} : (kL m o k v).2 o j = if j = k then v else m.2 o j := by rw [kL_s]
theorem kI_at {m : Mm} {o k j : Nat} {v : Int32} : (kI m o k v).1 o j = if j = k then v else m.1 o j := by rw [kI_s]
theorem md_lwi (hv : Inv S) {g b i h : Nat} {w : Int32} (hg : g ≤ sn S) (eb : sn S - g = b) (hi : i < 12) {m : Mm} (hG : GL u S m) (hr : ∀ j, j < 13 → m.2 186 j = lN (ch g b i j)) : ∃ m', mm_lp (f_Mod_hasLuck_L193 z_Law 169 (nI h) w (nI g) (nI (i + 1))) (nI (i + 1), m) = some m' ∧ GL u S m' ∧ m'.1 169 40 = m.1 169 40 ∧ m'.2 169 39 = m.2 169 39 ∧ ∀ j, j < 13 → m'.2 186 j = lN (ch g b (i + 1) j) := by
  have n10 := iv_n10 hv
  refine lp_ix (fun k s => s.1 = nI (i + 1) - nI k ∧ GL u S s.2 ∧ s.2.1 169 40 = m.1 169 40 ∧ s.2.2 169 39 = m.2 169 39 ∧ (∀ j, j + k ≤ i + 1 → s.2.2 186 j = lN (ch g b i j)) ∧ ∀ j, j < 13 → i + 2 ≤ j + k → s.2.2 186 j = lN (ch g b (i + 1) j)) (i + 2) (fun k s hk hI => ?_) (fun s hI => ?_) ⟨(Int32.sub_zero _).symm, hG, rfl, rfl, fun j hj => hr j (by omega), fun j hj hj2 => ?_⟩
  · obtain ⟨c, q⟩ := s
    obtain ⟨h5, h6, h6a, h6b, h8, h9⟩ := hI
    dsimp only at h5 h6 h6a h6b h8 h9
    subst h5
    have hl := h8 (i + 1 - k) (by omega)
    refine ⟨(nI (i + 1) - nI (k + 1), kL q 186 (i + 1 - k) (lN (ch g b (i + 1) (i + 1 - k)))), ?_, rfl, GL_c h6, h6a, h6b, fun j hj => ?_, fun j hj hj2 => ?_⟩
    · unfold f_Mod_hasLuck_L193
      rw [← dn_step]
      simp (disch := omega) only [fl, fmN, mm_lt, Nat.reduceAdd, Option.bind_some, lt_t, lt_f, le_t, le_f, eq_f, eq_self, nI_add, nI_mul, nI_sub, ↓reduceIte, zq_186, zq_171, ld_nI, h6.2.1, iv_n hv, ldL_nI, stL_nI, hl, eb, nI_l, lN_mul, fa_litL]
      by_cases h0 : i + 1 - k = 0
      · simp (disch := omega) only [le_t, ↓reduceIte, lN_add]
        show _ = some (Sum.inl (_, kL q 186 (i + 1 - k) (lN (ch g b i (i + 1 - k) * b + (if i + 1 - k = 0 then 0 else ch g b i (i + 1 - k - 1) * g)))))
        rw [if_pos h0]
      · have hl2 := h8 (i + 1 - k - 1) (by omega)
        simp (disch := omega) only [le_f, ↓reduceIte, nI_sub, ldL_nI, Option.bind_some, hl2, lN_mul, lN_add]
        show _ = some (Sum.inl (_, kL q 186 (i + 1 - k) (lN (ch g b i (i + 1 - k) * b + (if i + 1 - k = 0 then 0 else ch g b i (i + 1 - k - 1) * g)))))
        rw [if_neg h0]
    · show (kL q 186 (i + 1 - k) _).2 186 j = _
      rw [kL_at, if_neg (by omega)]
      exact h8 j (by omega)
    · show (kL q 186 (i + 1 - k) _).2 186 j = _
      rw [kL_at]
      by_cases h0 : j = i + 1 - k
      · rw [if_pos h0, h0]
      · rw [if_neg h0]; exact h9 j hj (by omega)
  · obtain ⟨c, q⟩ := s
    obtain ⟨h5, h6, h6a, h6b, h8, h9⟩ := hI
    dsimp only at h5 h6 h6a h6b h8 h9
    subst h5
    refine ⟨q, ?_, h6, h6a, h6b, fun j hj => h9 j hj (by omega)⟩
    unfold f_Mod_hasLuck_L193
    exact if_pos (show nI (i + 1) - nI (i + 2) < 0 by rw [← dn_step, Int32.sub_self]; decide)
  · show m.2 186 j = _
    rw [hr j hj, ch_0 g b i j (by omega), ch_0 g b (i + 1) j (by omega)]
theorem md_lw (hs : u.1 171 = S) (hv : Inv S) {w : Int32} {h k9 : Nat} (hw : w = nI k9) (hk9 : k9 < 100) (hh : h < sm S) (hp1 : 1 ≤ sp S) (hp12 : sp S ≤ 12) : ∃ m, f_Mod_hasLuck z_Law u 169 (nI h) w = some (nI 1, m) ∧ GL u S m ∧ m.1 169 40 = nI (dw S w h (sp S)) ∧ m.2 169 39 = lN (sn S ^ sp S) ∧ m.2 169 38 = fo (fun j s => s + lN (ch (gw S w (sn S)) (sn S - gw S w (sn S)) (sp S) (dw S w h (sp S) + j))) (13 - dw S w h (sp S)) (lN 0) := by
  have n10 := iv_n10 hv
  have m8 := iv_m8 hv
  have hg : gw S w (sn S) ≤ sn S := fb_ct_le _ _
  have hd : dw S w h (sp S) ≤ sp S := fb_ct_le _ _
  unfold f_Mod_hasLuck
  simp (disch := omega) only [fl, fmN, mm_lt, Nat.reduceAdd, Option.bind_some, lt_t, lt_f, le_t, le_f, eq_f, eq_self, nI_add, nI_mul, nI_sub, ↓reduceIte, md_isH hv hs hh, md_isIn hw, zq_171, ld_nI, hs, iv_sp hv, md_isIn (v := nI (sp S)) rfl, md_gw hs hv]
  obtain ⟨g, eg⟩ : ∃ g, gw S w (sn S) = g := ⟨_, rfl⟩
  rw [eg] at hg ⊢
  obtain ⟨b, eb⟩ : ∃ b, sn S - g = b := ⟨_, rfl⟩
  rw [eb]
  simp only [fa_litL]
  have L93 : ∃ m, mm_lp (f_Mod_hasLuck_L93 z_Law 169 (nI h) w (nI g)) (nI 0, kL (kI u 169 40 (nI 0)) 169 39 (lN 1)) = some m ∧ GL u S m ∧ m.1 169 40 = nI 0 ∧ m.2 169 39 = lN 1 ∧ ∀ j, j < 13 → m.2 186 j = lN (ch g b 0 j) := by
    refine lp_ix (fun i s => s.1 = nI i ∧ GL u S s.2 ∧ s.2.1 169 40 = nI 0 ∧ s.2.2 169 39 = lN 1 ∧ ∀ j, j < i → s.2.2 186 j = lN (ch g b 0 j)) 13 (fun i s hi hI => ?_) (fun s hI => ?_) ⟨rfl, GL_l (GL_40 ⟨kp_rf, hs, rfl, rfl⟩), rfl, rfl, fun j hj => absurd hj (by omega)⟩
    · obtain ⟨c, m⟩ := s
      obtain ⟨h1, h2, h3, h3b, h4⟩ := hI
      dsimp only at h1 h2 h3 h3b h4
      subst h1
      refine ⟨(nI (i + 1), kL m 186 i (lN (ch g b 0 i))), ?_, rfl, GL_c h2, h3, h3b, fun j hj => ?_⟩
      · unfold f_Mod_hasLuck_L93
        simp (disch := omega) only [fl, fmN, mm_lt, Nat.reduceAdd, Option.bind_some, lt_t, lt_f, le_t, le_f, eq_f, eq_self, nI_add, nI_mul, nI_sub, ↓reduceIte, zq_186, fa_litL, stL_nI, nI_eq]
        by_cases h0 : i = 0
        · subst h0; rfl
        · rw [if_neg h0]
          show _ = some (Sum.inl (_, kL m 186 i (lN (if i = 0 then 1 else 0))))
          rw [if_neg h0]
      · show (kL m 186 i (lN (ch g b 0 i))).2 186 j = _
        rw [kL_at]
        by_cases h0 : j = i
        · rw [if_pos h0, h0]
        · rw [if_neg h0]; exact h4 j (by omega)
    · obtain ⟨c, m⟩ := s
      obtain ⟨h1, h2, h3, h3b, h4⟩ := hI
      dsimp only at h1 h2 h3 h3b h4
      subst h1
      refine ⟨m, ?_, h2, h3, h3b, h4⟩
      unfold f_Mod_hasLuck_L93
      simp (disch := omega) only [fl, fmN, mm_lt, Nat.reduceAdd, Option.bind_some, lt_t, lt_f, le_t, le_f, eq_f, eq_self, nI_add, nI_mul, nI_sub, ↓reduceIte]
  obtain ⟨m0, e0, f0, f1, f2, r0⟩ := L93
  rw [e0, Option.bind_some]
  have L126 : ∃ m, mm_lp (f_Mod_hasLuck_L126 z_Law 169 (nI h) w (nI g)) (nI 1, m0) = some m ∧ GL u S m ∧ m.1 169 40 = nI (dw S w h (sp S)) ∧ m.2 169 39 = lN (sn S ^ sp S) ∧ ∀ j, j < 13 → m.2 186 j = lN (ch g b (sp S) j) := by
    refine lp_ix (fun i s => s.1 = nI (i + 1) ∧ GL u S s.2 ∧ s.2.1 169 40 = nI (dw S w h i) ∧ s.2.2 169 39 = lN (sn S ^ i) ∧ ∀ j, j < 13 → s.2.2 186 j = lN (ch g b i j)) (sp S) (fun i s hi hI => ?_) (fun s hI => ?_) ⟨rfl, f0, f1, f2, r0⟩
    · obtain ⟨c, m⟩ := s
      obtain ⟨h1, h2, h3, h3b, h4⟩ := hI
      dsimp only at h1 h2 h3 h3b h4
      subst h1
      have hinner := fun (v : Int32) => md_lwi (u := u) (S := S) (g := g) (b := b) (i := i) (h := h) (w := w) hv hg eb (by omega) (m := kI m 169 40 v) (GL_40 h2) h4
      have step : ∀ e : Nat, e = (if (!decide (S (332 + 8 * (i + 1) + h) = mN) && !decide (S (5 + (S (332 + 8 * (i + 1) + h)).toNatClampNeg) < w)) = true then 1 else 0) → ∃ s', f_Mod_hasLuck_J185 z_Law 169 (nI h) w (nI g) (nI (i + 1)) (m.1 169 40) (nI e) m = some (.inl s') ∧ s'.1 = nI (i + 1 + 1) ∧ GL u S s'.2 ∧ s'.2.1 169 40 = nI (dw S w h (i + 1)) ∧ s'.2.2 169 39 = lN (sn S ^ (i + 1)) ∧ ∀ j, j < 13 → s'.2.2 186 j = lN (ch g b (i + 1) j) := by
        intro e he
        obtain ⟨m', q1, q2, q3, q4, q5⟩ := hinner (m.1 169 40 + nI e)
        refine ⟨(nI (i + 1 + 1), kL m' 169 39 (lN (sn S ^ (i + 1)))), ?_, rfl, GL_l q2, ?_, rfl, q5⟩
        · have q4' : m'.2 169 39 = lN (sn S ^ i) := q4.trans h3b
          unfold f_Mod_hasLuck_J185
          simp (disch := omega) only [fl, fmN, mm_lt, Nat.reduceAdd, Option.bind_some, lt_t, lt_f, le_t, le_f, eq_f, eq_self, nI_add, nI_mul, nI_sub, ↓reduceIte, q1, zq_171, ld_nI, q2.2.1, iv_n hv, nI_l, q4', lN_mul]
          rw [Nat.pow_succ]
        · show m'.1 169 40 = _
          rw [q3]
          show m.1 169 40 + nI e = nI (dw S w h (i + 1))
          rw [h3, nI_add, he, dw_succ]
      unfold f_Mod_hasLuck_L126
      simp (disch := omega) only [fl, fmN, mm_lt, Nat.reduceAdd, Option.bind_some, lt_t, lt_f, le_t, le_f, eq_f, eq_self, nI_add, nI_mul, nI_sub, ↓reduceIte, zq_171, ld_nI, h2.2.1, iv_sp hv]
      rcases iv_drew hv (i + 1) h (by omega) (by omega) hh with e | ⟨x, hx, e⟩
      · rw [e] at step ⊢
        rw [if_pos (by decide)]
        exact step 0 rfl
      · rw [e] at step ⊢
        simp (disch := omega) only [lt_f, ↓reduceIte, nI_add, ld_nI, Option.bind_some]
        simp (disch := omega) only [mN_ne, nI_clamp, decide_false, Bool.not_false, Bool.true_and] at step
        by_cases h9 : S (5 + x) < w
        · rw [if_pos h9]
          exact step 0 (by simp only [h9, decide_true, Bool.not_true, Bool.false_eq_true, if_false])
        · rw [if_neg h9]
          exact step 1 (by simp only [h9, decide_false, Bool.not_false, if_true])
    · obtain ⟨c, m⟩ := s
      obtain ⟨h1, h2, h3, h3b, h4⟩ := hI
      dsimp only at h1 h2 h3 h3b h4
      subst h1
      refine ⟨m, ?_, h2, h3, h3b, h4⟩
      unfold f_Mod_hasLuck_L126
      simp (disch := omega) only [fl, fmN, mm_lt, Nat.reduceAdd, Option.bind_some, lt_t, lt_f, le_t, le_f, eq_f, eq_self, nI_add, nI_mul, nI_sub, ↓reduceIte, zq_171, ld_nI, h2.2.1, iv_sp hv]
  obtain ⟨m1, e1, f3, f4, f5, r1⟩ := L126
  rw [e1, Option.bind_some]
  obtain ⟨d, ed⟩ : ∃ d, dw S w h (sp S) = d := ⟨_, rfl⟩
  rw [ed] at f4 hd ⊢
  have f4' : (kL m1 169 38 (lN 0)).1 169 40 = nI d := f4
  have L283 : ∃ m, mm_lp (f_Mod_hasLuck_L283 z_Law 169) (nI d, kL m1 169 38 (lN 0)) = some m ∧ GL u S m ∧ m.1 169 40 = nI d ∧ m.2 169 39 = lN (sn S ^ sp S) ∧ m.2 169 38 = fo (fun j s => s + lN (ch g b (sp S) (d + j))) (13 - d) (lN 0) := by
    refine lp_ix (fun i s => s.1 = nI (d + i) ∧ GL u S s.2 ∧ s.2.1 169 40 = nI d ∧ s.2.2 169 39 = lN (sn S ^ sp S) ∧ s.2.2 169 38 = fo (fun j s => s + lN (ch g b (sp S) (d + j))) i (lN 0) ∧ ∀ j, j < 13 → s.2.2 186 j = lN (ch g b (sp S) j)) (13 - d) (fun i s hi hI => ?_) (fun s hI => ?_) ⟨rfl, GL_l f3, f4, f5, rfl, r1⟩
    · obtain ⟨c, m⟩ := s
      obtain ⟨h1, h2, h3, h3b, h3c, h4⟩ := hI
      dsimp only at h1 h2 h3 h3b h3c h4
      subst h1
      refine ⟨(nI (d + i + 1), kL m 169 38 (m.2 169 38 + lN (ch g b (sp S) (d + i)))), ?_, rfl, GL_l h2, h3, h3b, ?_, h4⟩
      · unfold f_Mod_hasLuck_L283
        simp (disch := omega) only [fl, fmN, mm_lt, Nat.reduceAdd, Option.bind_some, lt_t, lt_f, le_t, le_f, eq_f, eq_self, nI_add, nI_mul, nI_sub, ↓reduceIte, zq_186, ldL_nI, h4 (d + i) (by omega)]
      · show m.2 169 38 + lN (ch g b (sp S) (d + i)) = fo _ i (lN 0) + lN (ch g b (sp S) (d + i))
        rw [h3c]
    · obtain ⟨c, m⟩ := s
      obtain ⟨h1, h2, h3, h3b, h3c, h4⟩ := hI
      dsimp only at h1 h2 h3 h3b h3c h4
      subst h1
      refine ⟨m, ?_, h2, h3, h3b, h3c⟩
      unfold f_Mod_hasLuck_L283
      rw [show d + (13 - d) = 13 by omega]
      simp (disch := omega) only [fl, fmN, mm_lt, Nat.reduceAdd, Option.bind_some, lt_t, lt_f, le_t, le_f, eq_f, eq_self, nI_add, nI_mul, nI_sub, ↓reduceIte]
  obtain ⟨m2, e2, g1, g2, g3, g4⟩ := L283
  refine ⟨m2, ?_, g1, g2, g3, g4⟩
  simp only [mm_lt, f4', e2, Option.bind_some]
theorem lk_cases (hR : RS σ) (a w : Int32) : (∃ h j, h < sm (σ.1 171) ∧ a = nI h ∧ j < 100 ∧ w = nI j ∧ 1 ≤ sp (σ.1 171) ∧ sp (σ.1 171) ≤ 12 ∧ f_Hat_tellsLuck z_Law σ 0 a w = some (nI 1)) ∨ (f_Hat_tellsLuck z_Law σ 0 a w = some (nI 0) ∧ ∀ u : Mm, u.1 171 = σ.1 171 → f_Mod_hasLuck z_Law u 169 a w = some (nI 0, u)) := by
  have hv := rl_v hR
  have m8 := iv_m8 hv
  have h24 := iv_sp24 hv
  have hp := rl_sp hR
  rcases arg_of a (sm (σ.1 171)) (by omega) with ⟨h, hh, rfl⟩ | h
  · rcases arg_of w 100 (by decide) with ⟨j, hj, rfl⟩ | h2
    · by_cases h0 : 1 ≤ sp (σ.1 171)
      · by_cases h12 : sp (σ.1 171) ≤ 12
        · left
          refine ⟨h, j, hh, rfl, hj, rfl, h0, h12, ?_⟩
          unfold f_Hat_tellsLuck
          simp (disch := omega) only [fl, fmN, mm_lt, Nat.reduceAdd, Option.bind_some, lt_t, lt_f, le_t, le_f, eq_f, eq_self, nI_add, nI_mul, nI_sub, ↓reduceIte, nm_has (rl_m hR) hh, hp]
        · right
          refine ⟨?_, fun u hs => ?_⟩
          · unfold f_Hat_tellsLuck
            simp (disch := omega) only [fl, fmN, mm_lt, Nat.reduceAdd, Option.bind_some, lt_t, lt_f, le_t, le_f, eq_f, eq_self, nI_add, nI_mul, nI_sub, ↓reduceIte, nm_has (rl_m hR) hh, hp]
          · unfold f_Mod_hasLuck
            simp (disch := omega) only [fl, fmN, mm_lt, Nat.reduceAdd, Option.bind_some, lt_t, lt_f, le_t, le_f, eq_f, eq_self, nI_add, nI_mul, nI_sub, ↓reduceIte, md_isH hv hs hh, md_isIn (v := nI j) rfl, zq_171, ld_nI, hs, iv_sp hv, md_isnt (v := nI (sp (σ.1 171))) (a := nI 1) (b := nI 12) (Or.inr (nI_lt (by omega) (by omega)))]
      · right
        refine ⟨?_, fun u hs => ?_⟩
        · unfold f_Hat_tellsLuck
          simp (disch := omega) only [fl, fmN, mm_lt, Nat.reduceAdd, Option.bind_some, lt_t, lt_f, le_t, le_f, eq_f, eq_self, nI_add, nI_mul, nI_sub, ↓reduceIte, nm_has (rl_m hR) hh, hp]
        · unfold f_Mod_hasLuck
          simp (disch := omega) only [fl, fmN, mm_lt, Nat.reduceAdd, Option.bind_some, lt_t, lt_f, le_t, le_f, eq_f, eq_self, nI_add, nI_mul, nI_sub, ↓reduceIte, md_isH hv hs hh, md_isIn (v := nI j) rfl, zq_171, ld_nI, hs, iv_sp hv, md_isnt (v := nI (sp (σ.1 171))) (a := nI 1) (b := nI 12) (Or.inl (nI_lt (by omega) (by omega)))]
    · right
      refine ⟨?_, fun u hs => ?_⟩
      · unfold f_Hat_tellsLuck
        simp (disch := omega) only [fl, fmN, mm_lt, Nat.reduceAdd, Option.bind_some, lt_t, lt_f, le_t, le_f, eq_f, eq_self, nI_add, nI_mul, nI_sub, ↓reduceIte, nm_has (rl_m hR) hh, out_lt h2]
      · unfold f_Mod_hasLuck
        simp (disch := omega) only [fl, fmN, mm_lt, Nat.reduceAdd, Option.bind_some, lt_t, lt_f, le_t, le_f, eq_f, eq_self, nI_add, nI_mul, nI_sub, ↓reduceIte, md_isH hv hs hh, out_md h2]
  · right
    refine ⟨?_, fun u hs => ?_⟩
    · unfold f_Hat_tellsLuck
      simp (disch := omega) only [fl, fmN, mm_lt, Nat.reduceAdd, Option.bind_some, lt_t, lt_f, le_t, le_f, eq_f, eq_self, nI_add, nI_mul, nI_sub, ↓reduceIte, nm_hasnt (rl_m hR) h]
    · unfold f_Mod_hasLuck
      simp (disch := omega) only [fl, fmN, mm_lt, Nat.reduceAdd, Option.bind_some, lt_t, lt_f, le_t, le_f, eq_f, eq_self, nI_add, nI_mul, nI_sub, ↓reduceIte, md_isntH hv hs h]
theorem fo_lN (f : Nat → Nat) : ∀ m, fo (fun j s => s + lN (f j)) m (lN 0) = lN (fb_sm f m)
  | 0 => rfl
  | m + 1 => by
    show fo (fun j s => s + lN (f j)) m (lN 0) + lN (f m) = _
    rw [fo_lN f m, lN_add]; rfl
def lkB (S : Nat → Int32) : Nat := sn S ^ sp S
def lkA (S : Nat → Int32) (w : Int32) (h : Nat) : Int64 := fo (fun j s => s + lN (ch (gw S w (sn S)) (sn S - gw S w (sn S)) (sp S) (dw S w h (sp S) + j))) (13 - dw S w h (sp S)) (lN 0)
theorem lk_B (hv : Inv S) (hp1 : 1 ≤ sp S) (hp12 : sp S ≤ 12) : 0 < lkB S ∧ lkB S < 2 ^ 63 := by
  have n10 := iv_n10 hv
  have n0 := iv_pos hv (by omega)
  have h1 : sn S ^ sp S ≤ 10 ^ sp S := Nat.pow_le_pow_left n10 _
  have h2 : 10 ^ sp S ≤ 10 ^ 12 := Nat.pow_le_pow_right (by decide) hp12
  have h3 : 0 < sn S ^ sp S := Nat.pow_pos (by omega)
  exact ⟨h3, by show sn S ^ sp S < 2 ^ 63; omega⟩
theorem lk_A (hv : Inv S) (hp1 : 1 ≤ sp S) (hp12 : sp S ≤ 12) (w : Int32) (h : Nat) : -9223372036854775808 < (lkA S w h).toInt := by
  have hg : gw S w (sn S) ≤ sn S := fb_ct_le _ _
  have hd : dw S w h (sp S) ≤ sp S := fb_ct_le _ _
  have hB := lk_B hv hp1 hp12
  have ht := ch_tail (gw S w (sn S)) (sn S - gw S w (sn S)) (sp S) (dw S w h (sp S)) (by omega)
  rw [show gw S w (sn S) + (sn S - gw S w (sn S)) = sn S by omega] at ht
  unfold lkA
  rw [fo_lN]
  have hB2 : sn S ^ sp S < 2 ^ 63 := hB.2
  rw [pk_lT (by omega)]
  omega
theorem op_luck (hR : RL σ) (a w d : Int32) : opT σ (f_Hat_luck z_Law σ 0 a w d) (fun u => f_Mod_luck z_Law u 169 a w d) := by
  have hv := rl_v (rs hR)
  rcases lk_cases (rs hR) a w with ⟨h, j, hh, rfl, hj, hw, hp1, hp12, ht⟩ | ⟨ht, hm⟩
  · have hdl : dw (σ.1 171) w h (sp (σ.1 171)) ≤ sp (σ.1 171) := fb_ct_le _ _
    rcases arg_of d 3 (by decide) with ⟨q, hq, rfl⟩ | h3
    · by_cases h2 : q = 2
      · subst h2
        right
        refine ⟨(nI (dw (σ.1 171) w h (sp (σ.1 171)))).toInt64, σ, ?_, fun c => ?_⟩
        · unfold f_Hat_luck
          simp (disch := omega) only [fl, fmN, mm_lt, Nat.reduceAdd, Option.bind_some, lt_t, lt_f, le_t, le_f, eq_f, eq_self, nI_add, nI_mul, nI_sub, ↓reduceIte, ht, hat_dw (rs hR) hh]
        · obtain ⟨m, e1, e2, e3, e4, e5⟩ := md_lw (u := kL σ 190 0 c) (S := σ.1 171) rfl hv hw hj hh hp1 hp12
          refine ⟨kI m 169 0 (nI 0), ?_, rfl, ?_, RL_kp (rl_190 hR) (kp_tr e2.1 (kp_s169 (by decide)))⟩
          · unfold f_Mod_luck f_Mod_luck_J24
            have e3' : (kI m 169 0 (nI 0)).1 169 40 = nI (dw (σ.1 171) w h (sp (σ.1 171))) := e3
            simp (disch := omega) only [fl, fmN, mm_lt, Nat.reduceAdd, Option.bind_some, lt_t, lt_f, le_t, le_f, eq_f, eq_self, nI_add, nI_mul, nI_sub, ↓reduceIte, md_isIn (v := nI 2) rfl, e1, md_throwsIf0, e3']
          · show m.2 190 0 = c
            rw [e2.2.2.1, kL_at, if_pos rfl]
      · obtain ⟨m1, l1, l2, l3⟩ := hat_lw (w := w) (rs hR) hh hp1 hp12
        have hR1 : RL m1 := RL_kp hR l3
        have hS1 : m1.1 171 = σ.1 171 := by rw [l2]
        have hA := lk_A hv hp1 hp12 w h
        have hB := lk_B hv hp1 hp12
        have haw := hat_aw (rs hR1) (by rw [hS1]; exact hp12)
        rw [hS1] at haw
        right
        refine ⟨(if q = 0 then lkA (σ.1 171) w h else lN (lkB (σ.1 171))) / lN (Nat.gcd (lkA (σ.1 171) w h).toInt.natAbs (lkB (σ.1 171))), m1, ?_, fun c => ?_⟩
        · unfold f_Hat_luck f_Hat_luck_J70
          simp (disch := omega) only [fl, fmN, mm_lt, Nat.reduceAdd, Option.bind_some, lt_t, lt_f, le_t, le_f, eq_f, eq_self, nI_add, nI_mul, nI_sub, ↓reduceIte, ht, l1, haw, nI_eq]
          by_cases h0 : q = 0
          · rw [if_pos h0, if_pos h0]
            exact (congrArg (fun o => Option.bind o _) (hat_least hB.1 hB.2 hA)).trans rfl
          · rw [if_neg h0, if_neg h0]
            exact (congrArg (fun o => Option.bind o _) (hat_least hB.1 hB.2 hA)).trans rfl
        · obtain ⟨m, e1, e2, e3, e4, e5⟩ := md_lw (u := kL m1 190 0 c) (S := σ.1 171) hS1 hv hw hj hh hp1 hp12
          refine ⟨kI m 169 0 (nI 0), ?_, rfl, ?_, RL_kp (rl_190 hR1) (kp_tr e2.1 (kp_s169 (by decide)))⟩
          · unfold f_Mod_luck f_Mod_luck_J24
            have e4' : (kI m 169 0 (nI 0)).2 169 39 = lN (lkB (σ.1 171)) := e4
            have e5' : (kI m 169 0 (nI 0)).2 169 38 = lkA (σ.1 171) w h := e5
            simp (disch := omega) only [fl, fmN, mm_lt, Nat.reduceAdd, Option.bind_some, lt_t, lt_f, le_t, le_f, eq_f, eq_self, nI_add, nI_mul, nI_sub, ↓reduceIte, md_isIn (v := nI q) rfl, e1, md_throwsIf0, e4', e5']
            rw [md_part hB.1 hB.2 hA (by omega)]
            rfl
          · show m.2 190 0 = c
            rw [e2.2.2.1, kL_at, if_pos rfl]
    · refine opT_no hR (w := lN 0) ?_ ?_
      · unfold f_Hat_luck
        simp (disch := omega) only [fl, fmN, mm_lt, Nat.reduceAdd, Option.bind_some, lt_t, lt_f, le_t, le_f, eq_f, eq_self, nI_add, nI_mul, nI_sub, ↓reduceIte, ht, out_le h3]
      · unfold f_Mod_luck f_Mod_luck_J24
        simp (disch := omega) only [fl, fmN, mm_lt, Nat.reduceAdd, Option.bind_some, lt_t, lt_f, le_t, le_f, eq_f, eq_self, nI_add, nI_mul, nI_sub, ↓reduceIte, out_md h3, md_throwsIf1, fa_litL]
  · refine opT_no hR (w := lN 0) ?_ ?_
    · unfold f_Hat_luck
      simp (disch := omega) only [fl, fmN, mm_lt, Nat.reduceAdd, Option.bind_some, lt_t, lt_f, le_t, le_f, eq_f, eq_self, nI_add, nI_mul, nI_sub, ↓reduceIte, ht]
    · unfold f_Mod_luck f_Mod_luck_J24
      rcases arg_of d 3 (by decide) with ⟨q, hq, rfl⟩ | h3
      · simp (disch := omega) only [fl, fmN, mm_lt, Nat.reduceAdd, Option.bind_some, lt_t, lt_f, le_t, le_f, eq_f, eq_self, nI_add, nI_mul, nI_sub, ↓reduceIte, md_isIn (v := nI q) rfl, hm σ rfl, md_throwsIf1, fa_litL]
      · simp (disch := omega) only [fl, fmN, mm_lt, Nat.reduceAdd, Option.bind_some, lt_t, lt_f, le_t, le_f, eq_f, eq_self, nI_add, nI_mul, nI_sub, ↓reduceIte, out_md h3, md_throwsIf1, fa_litL]
theorem md_isInP {z : Nat → Nat} {m : Mm} {v a b : Int32} (h1 : ¬ v < a) (h2 : ¬ b < v) : f_Mod_isIn z m v a b = some (nI 1) := by
  unfold f_Mod_isIn; rw [if_neg h1, if_neg h2]; rfl
theorem op_unfair (hR : RL σ) (a w p q : Int32) : ∃ r m1 m2, f_Hat_unfair z_Law σ 0 a w p q = some (r, m1) ∧ f_Mod_unfair z_Law m1 169 a w p q = some (r, m2) ∧ RL m2 := by
  have hv := rl_v (rs hR)
  rcases lk_cases (rs hR) a w with ⟨h, j, hh, rfl, hj, hw, hp1, hp12, ht⟩ | ⟨ht, hm⟩
  · rcases arg_of p 1000 (by decide) with ⟨c, hc, rfl⟩ | h3
    · by_cases h1 : q < nI 1
      · refine ⟨mN, σ, kI σ 169 0 (nI 0), ?_, ?_, rl_th hR⟩
        · unfold f_Hat_unfair
          simp (disch := omega) only [fl, fmN, mm_lt, Nat.reduceAdd, Option.bind_some, lt_t, lt_f, le_t, le_f, eq_f, eq_self, nI_add, nI_mul, nI_sub, ↓reduceIte, ht, if_pos h1]
        · unfold f_Mod_unfair
          simp (disch := omega) only [fl, fmN, mm_lt, Nat.reduceAdd, Option.bind_some, lt_t, lt_f, le_t, le_f, eq_f, eq_self, nI_add, nI_mul, nI_sub, ↓reduceIte, md_isIn (v := nI c) rfl, md_isnt (Or.inl h1)]
      · by_cases h2 : nI 999 < q
        · refine ⟨mN, σ, kI σ 169 0 (nI 0), ?_, ?_, rl_th hR⟩
          · unfold f_Hat_unfair
            simp (disch := omega) only [fl, fmN, mm_lt, Nat.reduceAdd, Option.bind_some, lt_t, lt_f, le_t, le_f, eq_f, eq_self, nI_add, nI_mul, nI_sub, ↓reduceIte, ht, if_neg h1, if_neg (fa_of_lt h2).2.1]
          · unfold f_Mod_unfair
            simp (disch := omega) only [fl, fmN, mm_lt, Nat.reduceAdd, Option.bind_some, lt_t, lt_f, le_t, le_f, eq_f, eq_self, nI_add, nI_mul, nI_sub, ↓reduceIte, md_isIn (v := nI c) rfl, md_isnt (Or.inr h2)]
        · obtain ⟨m1, l1, l2, l3⟩ := hat_lw (w := w) (rs hR) hh hp1 hp12
          have hR1 : RL m1 := RL_kp hR l3
          have hS1 : m1.1 171 = σ.1 171 := by rw [l2]
          have haw := hat_aw (rs hR1) (by rw [hS1]; exact hp12)
          rw [hS1] at haw
          obtain ⟨m, e1, e2, e3, e4, e5⟩ := md_lw (u := kI m1 169 0 (nI 0)) (S := σ.1 171) hS1 hv hw hj hh hp1 hp12
          refine ⟨if lN (lkB (σ.1 171)) * (nI c).toInt64 < lkA (σ.1 171) w h * q.toInt64 then nI 0 else nI 1, m1, m, ?_, ?_, RL_kp (rl_th hR1) e2.1⟩
          · unfold f_Hat_unfair
            simp (disch := omega) only [fl, fmN, mm_lt, Nat.reduceAdd, Option.bind_some, lt_t, lt_f, le_t, le_f, eq_f, eq_self, nI_add, nI_mul, nI_sub, ↓reduceIte, ht, if_neg h1, if_pos (fa_of_nlt h2), l1, haw, lg_gt0]
            show (if lN (lkB (σ.1 171)) * (nI c).toInt64 < lkA (σ.1 171) w h * q.toInt64 then _ else _) = _
            split <;> rfl
          · unfold f_Mod_unfair
            simp (disch := omega) only [fl, fmN, mm_lt, Nat.reduceAdd, Option.bind_some, lt_t, lt_f, le_t, le_f, eq_f, eq_self, nI_add, nI_mul, nI_sub, ↓reduceIte, md_isIn (v := nI c) rfl, md_isInP h1 h2, e1, e4, e5, lg_gt0]
            show (if lN (lkB (σ.1 171)) * (nI c).toInt64 < lkA (σ.1 171) w h * q.toInt64 then _ else _) = _
            split <;> rfl
    · refine ⟨mN, σ, kI σ 169 0 (nI 0), ?_, ?_, rl_th hR⟩
      · unfold f_Hat_unfair
        simp (disch := omega) only [fl, fmN, mm_lt, Nat.reduceAdd, Option.bind_some, lt_t, lt_f, le_t, le_f, eq_f, eq_self, nI_add, nI_mul, nI_sub, ↓reduceIte, ht, out_lt h3]
      · unfold f_Mod_unfair
        simp (disch := omega) only [fl, fmN, mm_lt, Nat.reduceAdd, Option.bind_some, lt_t, lt_f, le_t, le_f, eq_f, eq_self, nI_add, nI_mul, nI_sub, ↓reduceIte, out_md h3]
  · refine ⟨mN, σ, kI σ 169 0 (nI 0), ?_, ?_, rl_th hR⟩
    · unfold f_Hat_unfair
      simp (disch := omega) only [fl, fmN, mm_lt, Nat.reduceAdd, Option.bind_some, lt_t, lt_f, le_t, le_f, eq_f, eq_self, nI_add, nI_mul, nI_sub, ↓reduceIte, ht]
    · unfold f_Mod_unfair
      rcases arg_of p 1000 (by decide) with ⟨c, hc, rfl⟩ | h3
      · by_cases h1 : q < nI 1
        · simp (disch := omega) only [fl, fmN, mm_lt, Nat.reduceAdd, Option.bind_some, lt_t, lt_f, le_t, le_f, eq_f, eq_self, nI_add, nI_mul, nI_sub, ↓reduceIte, md_isIn (v := nI c) rfl, md_isnt (Or.inl h1)]
        · by_cases h2 : nI 999 < q
          · simp (disch := omega) only [fl, fmN, mm_lt, Nat.reduceAdd, Option.bind_some, lt_t, lt_f, le_t, le_f, eq_f, eq_self, nI_add, nI_mul, nI_sub, ↓reduceIte, md_isIn (v := nI c) rfl, md_isnt (Or.inr h2)]
          · simp (disch := omega) only [fl, fmN, mm_lt, Nat.reduceAdd, Option.bind_some, lt_t, lt_f, le_t, le_f, eq_f, eq_self, nI_add, nI_mul, nI_sub, ↓reduceIte, md_isIn (v := nI c) rfl, md_isInP h1 h2, hm (kI σ 169 0 (nI 0)) rfl]
      · simp (disch := omega) only [fl, fmN, mm_lt, Nat.reduceAdd, Option.bind_some, lt_t, lt_f, le_t, le_f, eq_f, eq_self, nI_add, nI_mul, nI_sub, ↓reduceIte, out_md h3]
end LUCK
