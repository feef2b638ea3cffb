section GO4
variable {σ m u : Mm} {S T : Nat → Int32}
theorem hands_in : f_Hands_copyFrom z_Law m 19 74 = some (cpH 5 60 m) := by
  unfold f_Hands_copyFrom
  rw [row_cp (j := 16) (n := 8) (o := 5) (o1 := 60) rfl rfl rfl rfl (by decide) (by decide), Option.bind_some, row_cp (j := 18) (n := 8) (o := 5) (o1 := 60) rfl rfl rfl rfl (by decide) (by decide)]
  rfl
theorem hands_out : f_Hands_copyFrom z_Law m 74 19 = some (cpH 60 5 m) := by
  unfold f_Hands_copyFrom
  rw [row_cp (j := 16) (n := 8) (o := 60) (o1 := 5) rfl rfl rfl rfl (by decide) (by decide), Option.bind_some, row_cp (j := 18) (n := 8) (o := 60) (o1 := 5) rfl rfl rfl rfl (by decide) (by decide)]
  rfl
theorem cpH_o {o o1 q : Nat} (h1 : q ≠ o + 16) (h2 : q ≠ o + 18) : (cpH o o1 m).1 q = m.1 q := by
  unfold cpH; rw [cr_o h2, cr_o h1]
theorem HR_cp {o o1 d d1 : Nat} (hd : d = o + 14) (hd1 : d1 = o1 + 14) (hne : o1 + 18 ≠ o + 16) (h : HR m d1 S) : HR (cpH o o1 m) d S := by
  subst hd; subst hd1
  constructor
  · intro k hk
    show (cpH o o1 m).1 (o + 16) k = _
    unfold cpH
    rw [cr_o (by omega), cr_s hk]
    exact h.1 k hk
  · intro k hk
    show (cpH o o1 m).1 (o + 18) k = _
    unfold cpH
    rw [cr_s hk, cr_o hne]
    exact h.2 k hk
theorem kp_cpH {A : Nat → Bool} {o o1 : Nat} (h1 : nw A (o + 16) = true) (h2 : nw A (o + 18) = true) : kp A m (cpH o o1 m) :=
  kp_fr (l := [o + 16, o + 18]) ⟨fun q hq => by simp only [List.mem_cons, List.not_mem_nil, or_false, not_or] at hq; exact cpH_o hq.1 hq.2, fun _ _ => rfl⟩ (fun q hq => by simp only [List.mem_cons, List.not_mem_nil, or_false] at hq; rcases hq with rfl | rfl; exact h1; exact h2)
theorem op_go (hR : RL σ) (a : Int32) : ∃ r m1 m2, f_Hat_go z_Law σ 0 a = some (r, m1) ∧ f_Mod_go z_Law m1 169 a = some (r, m2) ∧ RL m2 := by
  have hs := rs hR
  have hv := rl_v hs
  rcases arg_of a 2 (by decide) with ⟨d, hd, rfl⟩ | h
  · obtain ⟨code, L, T, hT, hTS, hc6, hL, ic, iu⟩ := go_lines hv (v1 := nI d) (sb (σ.1 171)) 0 (σ.1 171) (by omega) hv (fun _ _ => rfl)
    -- the class
    have hI0 : IR (cpH 5 60 σ) 61 (σ.1 171) := IR_c (rl_I hs) (fun j hj => cpH_o (by omega) (by omega))
    have hb0 : bkr (σ.1 171) (cpH 5 60 σ) := by
      refine ⟨(congrFun (cpH_o (by decide) (by decide)) 7).trans (rl_sb hs), fun i hi => ?_⟩
      rw [cpH_o (q := 90) (by decide) (by decide), cpH_o (q := 92) (by decide) (by decide), cpH_o (q := 94) (by decide) (by decide)]
      exact (rl_S hs).2.2.2.2.2.2.2.2.2 i hi
    obtain ⟨m1, e1, hH1, f1, f2⟩ := ic (cpH 5 60 σ) (HR_cp rfl rfl (by decide) (rl_H hs)) hI0 hb0
    obtain ⟨mA, eA⟩ : ∃ mA, kI (kI (kI m1 0 6 (nI 1)) 59 0 (nI code)) 59 1 (nI L) = mA := ⟨_, rfl⟩
    obtain ⟨mB, eB⟩ : ∃ mB, kI mA 59 2 (wsum T) = mB := ⟨_, rfl⟩
    obtain ⟨mC, eC⟩ : ∃ mC, kI mB 59 3 (hmc T) = mC := ⟨_, rfl⟩
    have oA : ∀ q, q ≠ 0 → q ≠ 59 → mA.1 q = m1.1 q := fun q q0 q1 => by rw [← eA, kI_o _ _ _ _ q1, kI_o _ _ _ _ q1, kI_o _ _ _ _ q0]
    have oB : ∀ q, q ≠ 59 → mB.1 q = mA.1 q := fun q q1 => by rw [← eB, kI_o _ _ _ _ q1]
    have oC : ∀ q, q ≠ 59 → mC.1 q = mB.1 q := fun q q1 => by rw [← eC, kI_o _ _ _ _ q1]
    have hA2 : mC.2 = σ.2 := by rw [← eC, ← eB, ← eA]; exact f2
    have hHA : HR mA 19 T := HR_c hH1 (oA _ (by decide) (by decide)) (oA _ (by decide) (by decide))
    have hHB : HR mB 19 T := HR_c hHA (oB _ (by decide)) (oB _ (by decide))
    have hHC : HR mC 19 T := HR_c hHB (oC _ (by decide)) (oC _ (by decide))
    have hI1 : IR m1 61 (σ.1 171) := IR_c hI0 (fun j hj => f1 _ (by omega) (by omega) (by omega) (by omega))
    have hIA : IR mA 61 T := IR_cong (IR_c hI1 (fun j hj => oA _ (by omega) (by omega))) (fun i hi => hTS i (by omega))
    have eW : f_Hands_allValues z_Law mA 19 61 = some (wsum T) := hd_all HZ_19 hHA hIA hT
    have eM : f_Hands_howManyHeld z_Law mB 19 = some (hmc T) := hd_many hT hHB
    have oAll : ∀ q, q ≠ 0 → q ≠ 59 → q ≠ 21 → q ≠ 23 → q ≠ 25 → q ≠ 27 → mC.1 q = σ.1 q := fun q q0 q1 q2 q3 q4 q5 => by
      rw [oC q q1, oB q q1, oA q q0 q1, f1 q q2 q3 q4 q5, cpH_o q2 q3]
    have w0 : mC.1 59 0 = nI code := by rw [← eC, ← eB, ← eA, kI_at, if_neg (by decide), kI_at, if_neg (by decide), kI_at, if_neg (by decide), kI_at, if_pos rfl]
    have w1 : mC.1 59 1 = nI L := by rw [← eC, ← eB, ← eA, kI_at, if_neg (by decide), kI_at, if_neg (by decide), kI_at, if_pos rfl]
    have w2 : mC.1 59 2 = wsum T := by rw [← eC, ← eB, kI_at, if_neg (by decide), kI_at, if_pos rfl]
    have w3 : mC.1 59 3 = hmc T := by rw [← eC, kI_at, if_pos rfl]
    have w6 : mC.1 0 6 = nI 1 := by rw [oC 0 (by decide), oB 0 (by decide), ← eA, kI_o _ _ _ _ (by decide), kI_o _ _ _ _ (by decide), kI_at, if_pos rfl]
    have kC : kp ANW σ mC := by
      have k0 : kp ANW σ m1 := kp_tr (kp_cpH (by decide) (by decide)) (kp_fr (l := [21, 23, 25, 27]) ⟨fun q hq => f1 q (nm4 hq).1 (nm4 hq).2.1 (nm4 hq).2.2.1 (nm4 hq).2.2.2, fun q _ => by rw [f2]⟩ (by decide))
      rw [← eC, ← eB, ← eA]
      exact kp_tr k0 (kp_tr (kp_s0 (Or.inr (by decide))) (kp_tr (kp_kI (by decide)) (kp_tr (kp_kI (by decide)) (kp_tr (kp_kI (by decide)) (kp_kI (by decide))))))
    -- what go() leaves, class
    obtain ⟨mD, eD, oD, hHD, kD, hD2⟩ : ∃ mD, f_Hat_go z_Law σ 0 (nI d) = some (if code = 0 then mN else nI L, mD) ∧ (∀ q, q ≠ 76 → q ≠ 78 → mD.1 q = mC.1 q) ∧ HR mD 74 (if d = 1 then T else σ.1 171) ∧ kp ANW σ mD ∧ mD.2 = σ.2 := by
      have hJ : f_Hat_go z_Law σ 0 (nI d) = f_Hat_go_J12 z_Law 0 (nI d) σ := by
        unfold f_Hat_go
        match d, hd with
        | 0, _ => exact if_pos rfl
        | 1, _ => exact (if_neg (by decide)).trans (if_pos rfl)
      have hK : f_Hat_go_J12 z_Law 0 (nI d) σ = f_Hat_go_J109 z_Law 0 (nI d) (nI code) (nI L) m1 := by
        unfold f_Hat_go_J12
        simp only [Nat.zero_add, hands_in, Option.bind_some, fl, e1]
      rw [hJ, hK]
      unfold f_Hat_go_J109
      by_cases hd1 : d = 1
      · subst hd1
        refine ⟨cpH 60 5 mC, ?_, fun q q1 q2 => cpH_o q1 q2, ?_, kp_tr kC (kp_cpH (by decide) (by decide)), hA2⟩
        · simp (disch := omega) only [fl, fmN, mm_lt, Nat.reduceAdd, Option.bind_some, lt_t, lt_f, le_t, le_f, eq_f, eq_self, nI_add, nI_mul, nI_sub, ↓reduceIte, Nat.zero_add, row_putE (p := 59) rfl zq_59, eA, eW, eB, eM, eC, hands_out]
          by_cases g : code = 0
          · subst g; simp only [↓reduceIte]
          · simp (disch := omega) only [eq_f, if_neg g, ↓reduceIte]
        · rw [if_pos rfl]; exact HR_cp rfl rfl (by decide) hHC
      · refine ⟨mC, ?_, fun q q1 q2 => rfl, ?_, kC, hA2⟩
        · simp (disch := omega) only [fl, fmN, mm_lt, Nat.reduceAdd, Option.bind_some, lt_t, lt_f, le_t, le_f, eq_f, eq_self, nI_add, nI_mul, nI_sub, ↓reduceIte, Nat.zero_add, row_putE (p := 59) rfl zq_59, eA, eW, eB, eM, eC]
          by_cases g : code = 0
          · subst g; simp only [↓reduceIte]
          · simp (disch := omega) only [eq_f, if_neg g, ↓reduceIte]
        · rw [if_neg hd1]; exact HR_c (rl_H hs) (oAll _ (by decide) (by decide) (by decide) (by decide) (by decide) (by decide)) (oAll _ (by decide) (by decide) (by decide) (by decide) (by decide) (by decide))
    -- the reference
    have s171 : (kI mD 169 0 (nI 0)).1 171 = σ.1 171 := by
      rw [kI_o _ _ _ _ (by decide), oD 171 (by decide) (by decide)]; exact oAll _ (by decide) (by decide) (by decide) (by decide) (by decide) (by decide)
    obtain ⟨u1, g1, g2, g3, g4, g5⟩ := md_keep s171 (v := nI d)
    have t171 : (kI (kI u1 180 0 (nI 0)) 180 1 (nI 0)).1 171 = σ.1 171 := by
      rw [kI_o _ _ _ _ (by decide), kI_o _ _ _ _ (by decide), g2 171 (by decide)]; exact s171
    obtain ⟨u3, h1, h2, h3, h4, h5, h6⟩ := iu _ t171 (by rw [kI_at, if_neg (by decide), kI_at, if_pos rfl]) (by rw [kI_at, if_pos rfl])
    have p171 : (kI u3 180 2 (wsum T)).1 171 = T := by rw [kI_o _ _ _ _ (by decide)]; exact h2
    obtain ⟨u5, e5⟩ : ∃ u5, kI (kI (kI u3 180 2 (wsum T)) 180 3 (hmc T)) 169 32 (nI 1) = u5 := ⟨_, rfl⟩
    have o5 : ∀ q, q ≠ 180 → q ≠ 169 → u5.1 q = u3.1 q := fun q q0 q1 => by rw [← e5, kI_o _ _ _ _ q1, kI_o _ _ _ _ q0, kI_o _ _ _ _ q0]
    have r5 : u5.1 171 = T := (o5 171 (by decide) (by decide)).trans h2
    have v0 : u5.1 180 0 = nI code := by rw [← e5, kI_o _ _ _ _ (by decide), kI_at, if_neg (by decide), kI_at, if_neg (by decide)]; exact h3
    have v1 : u5.1 180 1 = nI L := by rw [← e5, kI_o _ _ _ _ (by decide), kI_at, if_neg (by decide), kI_at, if_neg (by decide)]; exact h4
    have v2 : u5.1 180 2 = wsum T := by rw [← e5, kI_o _ _ _ _ (by decide), kI_at, if_neg (by decide), kI_at, if_pos rfl]
    have v3 : u5.1 180 3 = hmc T := by rw [← e5, kI_o _ _ _ _ (by decide), kI_at, if_pos rfl]
    have v6 : u5.1 169 32 = nI 1 := by rw [← e5, kI_at, if_pos rfl]
    have q181 : u5.1 181 = u1.1 181 := by rw [o5 181 (by decide) (by decide), h5 181 (by decide) (by decide) (by decide) (by decide), kI_o _ _ _ _ (by decide), kI_o _ _ _ _ (by decide)]
    have u5q : ∀ q, q ≠ 171 → q ≠ 178 → q ≠ 179 → q ≠ 180 → q ≠ 181 → q ≠ 169 → u5.1 q = mD.1 q := fun q q1 q2 q3 q4 q5 q6 => by
      rw [o5 q q4 q6, h5 q q1 q2 q3 q4, kI_o _ _ _ _ q4, kI_o _ _ _ _ q4, g2 q q5, kI_o _ _ _ _ q6]
    have u52 : u5.2 = σ.2 := by rw [← e5]; exact h6.trans (g3.trans hD2)
    have k5 : kp ANW mD u5 := by
      rw [← e5]
      exact kp_tr (kp_s169 (Or.inl (by decide))) (kp_tr (kp_fr (l := [181]) ⟨fun q hq => g2 q (by simpa using hq), fun q _ => by rw [g3]⟩ (by decide)) (kp_tr (kp_kI (by decide)) (kp_tr (kp_kI (by decide)) (kp_tr (kp_fr (l := [171, 178, 179, 180]) ⟨fun q hq => h5 q (nm4 hq).1 (nm4 hq).2.1 (nm4 hq).2.2.1 (nm4 hq).2.2.2, fun q _ => by rw [h6]⟩ (by decide)) (kp_tr (kp_kI (by decide)) (kp_tr (kp_kI (by decide)) (kp_s169 (Or.inr (by decide)))))))))
    obtain ⟨u7, e7, r7, o7, l7⟩ : ∃ u7, mm_lp (f_Mod_go_L240 z_Law 169 (nI d) (if code = 0 then mN else nI L)) (nI 0, u5) = some u7 ∧ u7.1 171 = (if d = 1 then T else σ.1 171) ∧ (∀ q, q ≠ 171 → u7.1 q = u5.1 q) ∧ u7.2 = u5.2 := by
      by_cases hd1 : d = 1
      · subst hd1
        refine ⟨u5, mm_lp_done ?_, r5, fun _ _ => rfl, rfl⟩
        unfold f_Mod_go_L240
        simp (disch := omega) only [fl, fmN, mm_lt, Nat.reduceAdd, Option.bind_some, lt_t, lt_f, le_t, le_f, eq_f, eq_self, nI_add, nI_mul, nI_sub, ↓reduceIte]
      · obtain rfl : d = 0 := by omega
        rw [if_neg hd1]
        exact md_unkeep r5 (fun k hk => by rw [q181]; exact g4 k hk) (fun k hk => by rw [q181]; exact g5 k hk) hTS
    have hT'' : Inv (if d = 1 then T else σ.1 171) := by split <;> assumption
    have aT'' : ∀ i, (i < 115 ∨ 131 ≤ i) → (if d = 1 then T else σ.1 171) i = σ.1 171 i := fun i hi => by
      split
      · exact hTS i hi
      · rfl
    have mq : ∀ q, q < 169 → q ≠ 0 → q ≠ 59 → q ≠ 21 → q ≠ 23 → q ≠ 25 → q ≠ 27 → q ≠ 76 → q ≠ 78 → u7.1 q = σ.1 q := fun q q0 q1 q2 q3 q4 q5 q6 q7 q8 => by
      rw [o7 q (by omega), u5q q (by omega) (by omega) (by omega) (by omega) (by omega) (by omega), oD q q7 q8]; exact oAll q q1 q2 q3 q4 q5 q6
    refine ⟨if code = 0 then mN else nI L, mD, u7, eD, ?_, RL_NW hR (kp_tr kD (kp_tr k5 (kp_fr (l := [171]) ⟨fun q hq => o7 q (by simpa using hq), fun q _ => by rw [l7]⟩ (by decide)))) ?_ ?_⟩
    · unfold f_Mod_go
      simp (disch := omega) only [fl, fmN, mm_lt, Nat.reduceAdd, Option.bind_some, lt_t, lt_f, le_t, le_f, eq_f, eq_self, nI_add, nI_mul, nI_sub, ↓reduceIte, md_isIn rfl (Nat.zero_le d) (show d ≤ 1 by omega), zq_180, st_nI, g1, h1]
      unfold f_Mod_go_J172
      simp (disch := omega) only [fl, fmN, mm_lt, Nat.reduceAdd, Option.bind_some, lt_t, lt_f, le_t, le_f, eq_f, eq_self, nI_add, nI_mul, nI_sub, ↓reduceIte, md_worthOf h2 hT, zq_180, st_nI, md_many hT p171, e5, e7]
    · unfold RS
      rw [r7, show u7.2 174 = σ.2 174 by rw [l7, u52]]
      refine ⟨SR_held (σ := σ) (S := σ.1 171) (N := σ.2 174) (rl_S hs) hv (fun i _ h => aT'' i h) (fun i hi h1 h2 h3 h4 => mq _ (by omega) (by omega) (by omega) (by omega) (by omega) (by omega) (by omega) (by omega) (by omega)) (fun i hi => by rw [l7, u52]) ?_, hT''⟩
      exact HR_c hHD (by rw [o7 _ (by decide)]; exact u5q _ (by decide) (by decide) (by decide) (by decide) (by decide) (by decide)) (by rw [o7 _ (by decide)]; exact u5q _ (by decide) (by decide) (by decide) (by decide) (by decide) (by decide))
    · have z0 : u7.1 0 = mC.1 0 := by rw [o7 _ (by decide), u5q _ (by decide) (by decide) (by decide) (by decide) (by decide) (by decide), oD _ (by decide) (by decide)]
      have z59 : u7.1 59 = mC.1 59 := by rw [o7 _ (by decide), u5q _ (by decide) (by decide) (by decide) (by decide) (by decide) (by decide), oD _ (by decide) (by decide)]
      have z180 : u7.1 180 = u5.1 180 := o7 _ (by decide)
      have z169 : u7.1 169 = u5.1 169 := o7 _ (by decide)
      unfold cW
      rw [z0, z59, z180, z169, w6, v6]
      refine ⟨rfl, Or.inr rfl, fun _ i hi => ?_⟩
      match i, hi with
      | 0, _ => rw [w0, v0]
      | 1, _ => rw [w1, v1]
      | 2, _ => rw [w2, v2]
      | 3, _ => rw [w3, v3]
  · refine ⟨-nI 2, σ, kI σ 169 0 (nI 0), ?_, ?_, rl_th hR⟩
    · unfold f_Hat_go
      simp (disch := omega) only [fl, out_ne h, ↓reduceIte]
    · unfold f_Mod_go
      simp (disch := omega) only [fl, fmN, mm_lt, Nat.reduceAdd, Option.bind_some, lt_t, lt_f, le_t, le_f, eq_f, eq_self, nI_add, nI_mul, nI_sub, ↓reduceIte, md_isnt (out_last h (by decide))]
end GO4
