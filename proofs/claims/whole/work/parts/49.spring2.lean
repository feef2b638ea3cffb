section SPR2
variable {σ m u : Mm} {S S' : Nat → Int32}
/-- the reference's row behind k draws, over the row B -/
def rowK (B R : Nat → Int32) (o : Nat → Int32) (p k : Nat) : Prop := (∀ j, j < k → R (123 + j) = o j) ∧ (∀ j, j < k → R (332 + 8 * (p + 1) + j) = o j) ∧ ∀ i, ¬ (123 ≤ i ∧ i < 123 + k) → ¬ (332 + 8 * (p + 1) ≤ i ∧ i < 332 + 8 * (p + 1) + k) → R i = B i
theorem md_L31 {x : Int32} (hs : u.1 171 = S) (hv : Inv S) (hsp : sp S ≤ 23) : mm_lp (f_Mod_spring_L31 z_Law 169 x) (nI 0, u) = some (kP u 171 (132 + 8 * sp S) 8 (fun k => S (123 + k))) := by
  refine lp_go (fun i => (nI i, kP u 171 (132 + 8 * sp S) i (fun k => S (123 + k)))) 8 (Prod.ext rfl kP_0.symm) (fun i hi => ?_) ?_
  · have e1 : (kP u 171 (132 + 8 * sp S) i (fun k => S (123 + k))).1 171 131 = nI (sp S) := by rw [kP_out (by omega), hs]; exact iv_sp hv
    have e2 : (kP u 171 (132 + 8 * sp S) i (fun k => S (123 + k))).1 171 (123 + i) = S (123 + i) := by rw [kP_out (by omega), hs]
    unfold f_Mod_spring_L31
    simp (disch := omega) only [fl, fmN, mm_lt, Nat.reduceAdd, Option.bind_some, lt_t, lt_f, le_t, le_f, eq_f, eq_self, nI_add, nI_mul, nI_sub, ↓reduceIte, zq_171, ld_nI, st_nI, e1, e2]
    rw [← kP_succ]
  · unfold f_Mod_spring_L31
    simp (disch := omega) only [fl, fmN, mm_lt, Nat.reduceAdd, Option.bind_some, lt_t, lt_f, le_t, le_f, eq_f, eq_self, nI_add, nI_mul, nI_sub, ↓reduceIte]
theorem md_L104 {x : Int32} {c n p : Nat} {B : Nat → Int32} (hB : u.1 171 = B) (hc : B 1 = nI c) (hc8 : c ≤ 8) (hn : n ≤ 10) (hp : B 131 = nI (p + 1)) (hp23 : p ≤ 23) (hx : u.1 169 23 = x) : ∃ m, mm_lp (f_Mod_spring_L104 z_Law 169) (allb n, nI 0, u) = some m ∧ m.2 = u.2 ∧ rowK B (m.1 171) (ou (allb n) x) p c ∧ kp AN u m ∧ ∀ q, q ≠ 171 → q ≠ 169 → m.1 q = u.1 q := by
  refine lp_ix (fun k t => t.1 = (hs (allb n) x k).1 ∧ t.2.2.1 169 23 = (hs (allb n) x k).2 ∧ t.2.1 = nI k ∧ t.2.2.2 = u.2 ∧ rowK B (t.2.2.1 171) (ou (allb n) x) p k ∧ kp AN u t.2.2 ∧ ∀ q, q ≠ 171 → q ≠ 169 → t.2.2.1 q = u.1 q) c (fun k t hk hI => ?_) (fun t hI => ?_) ⟨rfl, hx, rfl, rfl, ⟨fun j hj => absurd hj (by omega), fun j hj => absurd hj (by omega), fun i _ _ => congrFun hB i⟩, kp_rf, fun _ _ _ => rfl⟩
  · obtain ⟨a1, a3, q⟩ := t
    obtain ⟨h1, h2, h3, h4, ⟨h5, h6, h7⟩, h8, h9⟩ := hI
    dsimp only at h1 h2 h3 h4 h5 h6 h7 h8 h9
    subst h1; subst h3
    have hh := hat_all hn x k
    have e1 : q.1 171 1 = nI c := by rw [h7 1 (by omega) (by omega)]; exact hc
    have hJ : ∀ (v2 v : Int32) (w : Mm), w.1 171 (123 + k) = v → w.1 171 131 = nI (p + 1) → f_Mod_spring_J200 z_Law 169 v2 (nI k) w = some (.inl (v2, nI (k + 1), kI w 171 (332 + 8 * (p + 1) + k) v)) := by
      intro v2 v w hw1 hw2
      unfold f_Mod_spring_J200
      simp (disch := omega) only [fl, fmN, mm_lt, Nat.reduceAdd, Option.bind_some, lt_t, lt_f, le_t, le_f, eq_f, eq_self, nI_add, nI_mul, nI_sub, ↓reduceIte, zq_171, ld_nI, st_nI, hw1, hw2]
    have hrow : ∀ (v : Int32) (R : Nat → Int32), v = ou (allb n) x k → (∀ i, R i = if i = 332 + 8 * (p + 1) + k then v else if i = 123 + k then v else q.1 171 i) → rowK B R (ou (allb n) x) p (k + 1) := by
      intro v R hv hR
      refine ⟨fun j hj => ?_, fun j hj => ?_, fun i g1 g2 => ?_⟩
      · rw [hR, if_neg (by omega)]
        by_cases g : j = k
        · rw [if_pos (by omega), g]; exact hv
        · rw [if_neg (by omega)]; exact h5 j (by omega)
      · rw [hR]
        by_cases g : j = k
        · rw [if_pos (by omega), g]; exact hv
        · rw [if_neg (by omega), if_neg (by omega)]; exact h6 j (by omega)
      · rw [hR, if_neg (by omega), if_neg (by omega)]
        exact h7 i (by omega) (by omega)
    by_cases h0 : (hs (allb n) x k).1 = nI 0
    · obtain ⟨g1, g2⟩ := ou_0 (v := allb n) (x := x) h0
      refine ⟨((hs (allb n) x k).1, nI (k + 1), kI (kI q 171 (123 + k) mN) 171 (332 + 8 * (p + 1) + k) mN), ?_, by rw [g2], ?_, rfl, h4, hrow mN _ g1.symm (fun i => ?_), kp_tr h8 (kp_tr (kp_kI (by decide)) (kp_kI (by decide))), fun q' f1 f2 => ?_⟩
      · unfold f_Mod_spring_L104
        simp (disch := omega) only [fl, fmN, mm_lt, Nat.reduceAdd, Option.bind_some, lt_t, lt_f, le_t, le_f, eq_f, eq_self, nI_add, nI_mul, nI_sub, ↓reduceIte, zq_171, ld_nI, st_nI, e1, h0]
        exact hJ (nI 0) mN (kI q 171 (123 + k) mN) (by rw [kI_at, if_pos rfl]) (by rw [kI_at, if_neg (by omega), h7 131 (by omega) (by omega)]; exact hp)
      · rw [g2]; exact h2
      · rw [kI_at, kI_at]
      · rw [kI_o _ _ _ _ f1, kI_o _ _ _ _ f1]; exact h9 q' f1 f2
    · obtain ⟨g1, g2⟩ := ou_1 (v := allb n) (x := x) h0
      obtain ⟨k1, k2, k3, k4⟩ := hat_k hn hh h0
      have hp10 := pcI_le (hs (allb n) x k).1
      have hbc := md_bc (z := z_Law) (σ := kI q 171 (123 + k) mN) (hat_sma hn hh)
      have hrem := (ds_rem (x := (hs (allb n) x k).2) k1).1
      have hdr : f_Mod_draw z_Law (kI q 171 (123 + k) mN) 169 (nI (pcI (hs (allb n) x k).1)) = some (nI (dsr (hs (allb n) x k).1 (hs (allb n) x k).2), kI (kI q 171 (123 + k) mN) 169 23 (dsx (hs (allb n) x k).2)) := by
        have e23 : (kI q 171 (123 + k) mN).1 169 23 = (hs (allb n) x k).2 := h2
        unfold f_Mod_draw
        simp only [fl, mm_lt, e23]
        rw [show (hs (allb n) x k).2 * nI 1103515245 + nI 12345 = dsx (hs (allb n) x k).2 from rfl]
        have e24 : (kI (kI q 171 (123 + k) mN) 169 23 (dsx (hs (allb n) x k).2)).1 169 23 = dsx (hs (allb n) x k).2 := rfl
        rw [e24, hrem]
        rfl
      refine ⟨((hs (allb n) x (k + 1)).1, nI (k + 1), kI (kI (kI (kI q 171 (123 + k) mN) 169 23 (dsx (hs (allb n) x k).2)) 171 (123 + k) (nI (kth (hs (allb n) x k).1 (dsr (hs (allb n) x k).1 (hs (allb n) x k).2)))) 171 (332 + 8 * (p + 1) + k) (nI (kth (hs (allb n) x k).1 (dsr (hs (allb n) x k).1 (hs (allb n) x k).2)))), ?_, rfl, ?_, rfl, h4, hrow _ _ g1.symm (fun i => ?_), kp_tr h8 (kp_tr (kp_kI (by decide)) (kp_tr (kp_s169 (by decide)) (kp_tr (kp_kI (by decide)) (kp_kI (by decide))))), fun q' f1 f2 => ?_⟩
      · unfold f_Mod_spring_L104
        simp (disch := omega) only [fl, fmN, mm_lt, Nat.reduceAdd, Option.bind_some, lt_f, le_f, ↓reduceIte, nI_add, zq_171, ld_nI, st_nI, e1, if_neg h0, hbc, hdr, md_kth (hat_sma hn hh) k2]
        rw [hJ _ (nI (kth (hs (allb n) x k).1 (dsr (hs (allb n) x k).1 (hs (allb n) x k).2))) _ (by rw [kI_at, if_pos rfl]) (by rw [kI_at, if_neg (by omega), kI_o _ _ _ _ (by decide), kI_at, if_neg (by omega), h7 131 (by omega) (by omega)]; exact hp), g2]
      · rw [g2]; rfl
      · rw [kI_at, kI_at, kI_o _ _ _ _ (by decide), kI_at]
        by_cases f1 : i = 332 + 8 * (p + 1) + k
        · rw [if_pos f1, if_pos f1]
        · rw [if_neg f1, if_neg f1]
          by_cases f2 : i = 123 + k
          · rw [if_pos f2, if_pos f2]
          · rw [if_neg f2, if_neg f2, if_neg f2]
      · rw [kI_o _ _ _ _ f1, kI_o _ _ _ _ f1, kI_o _ _ _ _ f2, kI_o _ _ _ _ f1]; exact h9 q' f1 f2
  · obtain ⟨a1, a3, q⟩ := t
    obtain ⟨h1, h2, h3, h4, h5, h8, h9⟩ := hI
    dsimp only at h1 h2 h3 h4 h5 h8 h9
    subst h1; subst h3
    have e1 : q.1 171 1 = nI c := by rw [h5.2.2 1 (by omega) (by omega)]; exact hc
    refine ⟨q, ?_, h4, h5, h8, h9⟩
    unfold f_Mod_spring_L104
    simp (disch := omega) only [fl, fmN, mm_lt, Nat.reduceAdd, Option.bind_some, lt_t, lt_f, le_t, le_f, eq_f, eq_self, nI_add, nI_mul, nI_sub, ↓reduceIte, zq_171, ld_nI, e1]
theorem op_spring (hR : RL σ) (x : Int32) : ∃ r m1 m2, f_Hat_spring z_Law σ 0 x = some (r, m1) ∧ f_Mod_spring z_Law m1 169 x = some (r, m2) ∧ RL m2 := by
  have hv := rl_v (rs hR)
  have h24 := iv_sp24 hv
  have n10 := iv_n10 hv
  have m8 := iv_m8 hv
  have hsp := rl_sp (rs hR)
  have hn := rl_n (rs hR)
  by_cases h0 : sp (σ.1 171) = 24
  · refine ⟨mN, σ, kI σ 169 0 (nI 0), ?_, ?_, rl_th hR⟩
    · unfold f_Hat_spring
      simp (disch := omega) only [fl, fmN, mm_lt, Nat.reduceAdd, Option.bind_some, lt_t, lt_f, le_t, le_f, eq_f, eq_self, nI_add, nI_mul, nI_sub, ↓reduceIte, hsp, h0]
    · have e1 : (kI σ 169 0 (nI 0)).1 171 131 = nI 24 := by show σ.1 171 131 = _; rw [iv_sp hv, h0]
      unfold f_Mod_spring
      simp (disch := omega) only [fl, fmN, mm_lt, Nat.reduceAdd, Option.bind_some, lt_t, lt_f, le_t, le_f, eq_f, eq_self, nI_add, nI_mul, nI_sub, ↓reduceIte, zq_171, ld_nI, e1]
  · by_cases hn0 : sn (σ.1 171) = 0
    · refine ⟨mN, σ, kI σ 169 0 (nI 0), ?_, ?_, rl_th hR⟩
      · unfold f_Hat_spring
        simp (disch := omega) only [fl, fmN, mm_lt, Nat.reduceAdd, Option.bind_some, lt_t, lt_f, le_t, le_f, eq_f, eq_self, nI_add, nI_mul, nI_sub, ↓reduceIte, hsp, hn, hn0]
      · have e1 : (kI σ 169 0 (nI 0)).1 171 131 = nI (sp (σ.1 171)) := iv_sp hv
        have e2 : (kI σ 169 0 (nI 0)).1 171 0 = nI 0 := by show σ.1 171 0 = _; rw [iv_n hv, hn0]
        unfold f_Mod_spring
        simp (disch := omega) only [fl, fmN, mm_lt, Nat.reduceAdd, Option.bind_some, lt_t, lt_f, le_t, le_f, eq_f, eq_self, nI_add, nI_mul, nI_sub, ↓reduceIte, zq_171, ld_nI, e1, e2]
    · obtain ⟨m1, d0, d1, d2, d3, d4, d5, d6, d7, d8, d9, d10⟩ := hat_draw (rs hR) (by omega) x
      obtain ⟨p, ep⟩ : ∃ p, sp (σ.1 171) = p := ⟨_, rfl⟩
      rw [ep] at d2
      have f1 : m1.1 171 = σ.1 171 := d10 171 (by decide) (by decide) (by decide) (by decide)
      have k1 : kp AN σ m1 := kp_fr (l := [60, 76, 84, 86]) ⟨fun q hq => d10 q (by rintro rfl; exact hq (by decide)) (by rintro rfl; exact hq (by decide)) (by rintro rfl; exact hq (by decide)) (by rintro rfl; exact hq (by decide)), fun q _ => by rw [d1]⟩ (by decide)
      have hu : (kI m1 169 0 (nI 0)).1 171 = σ.1 171 := f1
      obtain ⟨w, ew⟩ : ∃ w, kI (kI (kP (kI m1 169 0 (nI 0)) 171 (132 + 8 * sp (σ.1 171)) 8 (fun k => σ.1 171 (123 + k))) 171 131 (nI (p + 1))) 169 23 x = w := ⟨_, rfl⟩
      have wB : ∀ i, w.1 171 i = if i = 131 then nI (p + 1) else if 132 + 8 * p ≤ i ∧ i < 132 + 8 * p + 8 then σ.1 171 (123 + (i - (132 + 8 * p))) else σ.1 171 i := by
        intro i
        rw [← ew, kI_o _ _ _ _ (by decide), kI_at]
        by_cases g : i = 131
        · rw [if_pos g, if_pos g]
        · rw [if_neg g, if_neg g, ep]
          by_cases g2 : 132 + 8 * p ≤ i ∧ i < 132 + 8 * p + 8
          · rw [if_pos g2, kP_in g2.1 g2.2]
          · rw [if_neg g2, kP_out (by omega), hu]
      obtain ⟨m2, e1, e2, e3, e4, e5⟩ := md_L104 (u := w) (x := x) (c := sm (σ.1 171)) (n := sn (σ.1 171)) (p := p) (B := w.1 171) rfl (by rw [wB, if_neg (by omega), if_neg (by omega)]; exact iv_m hv) m8 n10 (by rw [wB, if_pos rfl]) (by omega) (by rw [← ew]; rfl)
      have k2 : kp AN m1 w := by rw [← ew]; exact kp_tr (kp_s169 (by decide)) (kp_tr (kp_kP (by decide)) (kp_tr (kp_kI (by decide)) (kp_s169 (by decide))))
      have w2 : w.2 = m1.2 := by rw [← ew]; rfl
      have wq : ∀ q, q ≠ 171 → q ≠ 169 → w.1 q = m1.1 q := fun q g1 g2 => by rw [← ew, kI_o _ _ _ _ g2, kI_o _ _ _ _ g1, kP_o g1, kI_o _ _ _ _ g2]
      have mq : ∀ q, q ≠ 171 → q ≠ 169 → m2.1 q = m1.1 q := fun q g1 g2 => (e5 q g1 g2).trans (wq q g1 g2)
      obtain ⟨t1, t2, t3⟩ := e3
      have hm131 : m2.1 171 131 = nI (p + 1) := by rw [t3 131 (by omega) (by omega), wB, if_pos rfl]
      refine ⟨nI (p + 1), m1, m2, ?_, ?_, RL_N hR (kp_tr k1 (kp_tr k2 e4)) ?_⟩
      · unfold f_Hat_spring
        simp (disch := omega) only [fl, fmN, mm_lt, Nat.reduceAdd, Option.bind_some, lt_t, lt_f, le_t, le_f, eq_f, eq_self, nI_add, nI_mul, nI_sub, ↓reduceIte, hsp, hn, d0, d2]
      · have g1 : (kI m1 169 0 (nI 0)).1 171 131 = nI p := by rw [hu, iv_sp hv, ep]
        have g2 : (kI m1 169 0 (nI 0)).1 171 0 = nI (sn (σ.1 171)) := by rw [hu]; exact iv_n hv
        have g3 : (kP (kI m1 169 0 (nI 0)) 171 (132 + 8 * sp (σ.1 171)) 8 (fun k => σ.1 171 (123 + k))).1 171 131 = nI p := by rw [kP_out (by omega)]; exact g1
        have g4 : w.1 171 0 = nI (sn (σ.1 171)) := by rw [wB, if_neg (by omega), if_neg (by omega)]; exact iv_n hv
        unfold f_Mod_spring
        simp (disch := omega) only [fl, fmN, mm_lt, Nat.reduceAdd, Option.bind_some, lt_t, lt_f, le_t, le_f, eq_f, eq_self, nI_add, nI_mul, nI_sub, ↓reduceIte, zq_171, ld_nI, g1, g2, md_L31 hu hv (by omega), g3, st_nI]
        rw [ew]
        simp (disch := omega) only [fl, fmN, mm_lt, Nat.reduceAdd, Option.bind_some, lt_t, lt_f, le_t, le_f, eq_f, eq_self, nI_add, nI_mul, nI_sub, ↓reduceIte, zq_171, ld_nI, g4]
        unfold allb at e1
        rw [e1]
        simp (disch := omega) only [fl, fmN, mm_lt, Nat.reduceAdd, Option.bind_some, lt_t, lt_f, le_t, le_f, eq_f, eq_self, nI_add, nI_mul, nI_sub, ↓reduceIte, zq_171, ld_nI, hm131]
      · have hS := rl_S (rs hR)
        have r := spr_rel (m := m2) (σ := σ) (S := σ.1 171) (S' := m2.1 171) (N := σ.2 174) (o := ou (allb (sn (σ.1 171))) x) hv hS (by omega) hn0 (fun k => ou_hq n10 x k) (fun j k h1 h2 => ou_one n10 x h1 h2)
          t1 (by rw [ep]; exact t2) (by rw [ep]; exact hm131) (fun k hk => by rw [ep, t3 _ (by omega) (by omega), wB, if_neg (by omega), if_pos (by omega), Nat.add_sub_cancel_left]) (fun i hi g1 g2 g3 g4 => by rw [ep] at g2 g4; rw [t3 i g1 g2, wB, if_neg g3, if_neg g4])
          (by rw [e2, w2, d1]) (by rw [mq 60 (by decide) (by decide), d2, ep]) (fun k hk => by rw [mq 60 (by decide) (by decide)]; exact d3 k hk) (fun k hk => by rw [mq 76 (by decide) (by decide)]; exact d4 k hk) (fun k hk => by rw [mq 76 (by decide) (by decide)]; exact d5 k hk) (fun k hk => by rw [mq 84 (by decide) (by decide)]; exact d6 k hk) (fun i hi => by rw [mq 84 (by decide) (by decide)]; exact d7 i hi) (fun k hk => by rw [mq 86 (by decide) (by decide)]; exact d8 k hk) (fun i hi => by rw [mq 86 (by decide) (by decide)]; exact d9 i hi) (fun q q0 q1 q2 q3 q4 => by rw [mq q (by omega) (by omega)]; exact d10 q q1 q2 q3 q4)
        unfold RS
        rw [show m2.2 174 = σ.2 174 by rw [e2, w2, d1]]
        exact r
end SPR2
