section TRADE5
variable {σ m u : Mm} {S : Nat → Int32} {r : Nat} {left : Int32}
theorem md_take (hs : u.1 171 = S) (hv : Inv S) (hp : ∀ k, tL S r k = true → u.1 178 k = nI (pt S (tL S r) k)) (hh : ∀ k, k < sm S → u.1 179 k = S (123 + tP S r k)) {out a b : Int32} (hg : ∀ x, x < 32 → bt out x = tg S r x) : ∃ m', mm_lp (f_Mod_trades_L260 z_Law 169 a b out) (nI 0, u) = some m' ∧ (∀ k, k < sm S → m'.1 179 k = S (123 + tP S (r + 1) k)) ∧ (∀ q, q ≠ 179 → m'.1 q = u.1 q) ∧ m'.2 = u.2 := by
  have m8 := iv_m8 hv
  refine lp_ix (fun i t => t.1 = nI i ∧ (∀ k, k < i → t.2.1 179 k = S (123 + tP S (r + 1) k)) ∧ (∀ k, i ≤ k → k < sm S → t.2.1 179 k = S (123 + tP S r k)) ∧ (∀ q, q ≠ 179 → t.2.1 q = u.1 q) ∧ t.2.2 = u.2) (sm S) (fun i t hi hI => ?_) (fun t hI => ?_) ⟨rfl, fun k hk => absurd hk (by omega), fun k _ hk => hh k hk, fun _ _ => rfl, rfl⟩
  · obtain ⟨c, q⟩ := t
    obtain ⟨h1, h2, h2b, h3, h4⟩ := hI
    dsimp only at h1 h2 h2b h3 h4
    subst h1
    have e171 : q.1 171 = S := by rw [h3 171 (by decide), hs]
    cases ht : tg S r i with
    | false =>
      refine ⟨(nI (i + 1), q), ?_, rfl, fun k hk => ?_, fun k h1 h2 => h2b k (by omega) h2, h3, h4⟩
      · unfold f_Mod_trades_L260
        simp (disch := omega) only [fl, fmN, mm_lt, Nat.reduceAdd, Option.bind_some, lt_t, lt_f, le_t, le_f, eq_f, eq_self, nI_add, nI_mul, nI_sub, ↓reduceIte, zq_171, ld_nI, e171, iv_m hv, md_has, bI_0, hg i (by omega), ht]
      · by_cases g : k = i
        · have e2 : tP S (r + 1) i = tP S r i := if_neg (by rw [ht]; decide)
          rw [g, e2]; exact h2b i (Nat.le_refl _) hi
        · exact h2 k (by omega)
    | true =>
      obtain ⟨t1, t2⟩ := tg_L ht
      have e2 : tP S (r + 1) i = pt S (tL S r) i := if_pos ht
      have pL := pt_L (S := S) t1
      have p8 := tL_8 hv pL
      have q6 : q.1 178 i = nI (pt S (tL S r) i) := by rw [h3 178 (by decide)]; exact hp i t1
      refine ⟨(nI (i + 1), kI q 179 i (S (123 + pt S (tL S r) i))), ?_, rfl, fun k hk => ?_, fun k h1 h2 => ?_, fun q' g => ?_, h4⟩
      · unfold f_Mod_trades_L260
        simp (disch := omega) only [fl, fmN, mm_lt, Nat.reduceAdd, Option.bind_some, lt_t, lt_f, le_t, le_f, eq_f, eq_self, nI_add, nI_mul, nI_sub, ↓reduceIte, zq_171, zq_178, zq_179, ld_nI, st_nI, e171, iv_m hv, md_has, bI_0, hg i (by omega), ht, Bool.true_eq_false, q6]
      · show (kI q 179 i _).1 179 k = _
        rw [kI_at]
        by_cases g : k = i
        · rw [if_pos g, g, e2]
        · rw [if_neg g]; exact h2 k (by omega)
      · show (kI q 179 i _).1 179 k = _
        rw [kI_at, if_neg (by omega)]; exact h2b k (by omega) h2
      · show (kI q 179 i _).1 q' = _
        rw [kI_o _ _ _ _ g]; exact h3 q' g
  · obtain ⟨c, q⟩ := t
    obtain ⟨h1, h2, h2b, h3, h4⟩ := hI
    dsimp only at h1 h2 h2b h3 h4
    subst h1
    have e171 : q.1 171 = S := by rw [h3 171 (by decide), hs]
    refine ⟨q, ?_, h2, h3, h4⟩
    unfold f_Mod_trades_L260
    simp (disch := omega) only [fl, fmN, mm_lt, Nat.reduceAdd, Option.bind_some, lt_t, lt_f, le_t, le_f, eq_f, eq_self, nI_add, nI_mul, nI_sub, ↓reduceIte, zq_171, ld_nI, e171, iv_m hv]
theorem md_trades (hs : u.1 171 = S) (hv : Inv S) : ∃ m', f_Mod_trades z_Law u 169 = some (nI (tC S (tR S)), m') ∧ m'.1 171 = trS S ∧ (∀ q, q ≠ 171 → q ≠ 178 → q ≠ 179 → m'.1 q = u.1 q) ∧ m'.2 = u.2 := by
  have m8 := iv_m8 hv
  obtain ⟨⟨left, w⟩, el, hl, hh, hw, hw2⟩ := md_left hs hv
  dsimp only at hl hh hw hw2
  have key : ∃ q, mm_lp (f_Mod_trades_L67 z_Law 169) (left, nI 0, w) = some q ∧ q.1 = nI (tC S (tR S)) ∧ (∀ k, k < sm S → q.2.1 179 k = S (123 + tP S (tR S) k)) ∧ (∀ q', q' ≠ 178 → q' ≠ 179 → q.2.1 q' = u.1 q') ∧ q.2.2 = u.2 := by
    refine lp_ix (fun r t => (∀ x, x < 32 → bt t.1 x = tL S r x) ∧ t.2.1 = nI (tC S r) ∧ (∀ k, k < sm S → t.2.2.1 179 k = S (123 + tP S r k)) ∧ (∀ q', q' ≠ 178 → q' ≠ 179 → t.2.2.1 q' = u.1 q') ∧ t.2.2.2 = u.2) (tR S) (fun r t hr hI => ?_) (fun t hI => ?_) ⟨hl, rfl, hh, fun q' _ g => hw q' g, hw2⟩
    · obtain ⟨l, c, q⟩ := t
      obtain ⟨h1, h2, h3, h4, h5⟩ := hI
      dsimp only at h1 h2 h3 h4 h5
      subst h2
      obtain ⟨x, hx⟩ := tR_no hr
      have hx8 := tL_8 hv hx
      have hne : ¬ l = nI 0 := fun e => by
        have := (b_zero.mp e) x (by omega)
        rw [h1 x (by omega), hx] at this; cases this
      have e171 : q.1 171 = S := by rw [h4 171 (by decide) (by decide), hs]
      obtain ⟨m1, a1, a2, a3, a4⟩ := md_points (v2 := nI (tC S r)) e171 hv h1
      have f171 : m1.1 171 = S := by rw [a3 171 (by decide), e171]
      obtain ⟨out, b1, b2⟩ := md_118 f171 hv a2 h1
      obtain ⟨m2, c1, c2, c3, c4⟩ := md_take (a := l) (b := nI (tC S (r + 1))) f171 hv a2 (fun k hk => by rw [a3 179 (by decide)]; exact h3 k hk) b2
      refine ⟨(l &&& (out ^^^ mN), nI (tC S (r + 1)), m2), ?_, fun y hy => ?_, rfl, c2, fun q' q1 q2 => by rw [c3 q' q2, a3 q' q1, h4 q' q1 q2], c4.trans (a4.trans h5)⟩
      · unfold f_Mod_trades_L67
        simp (disch := omega) only [fl, fmN, mm_lt, Nat.reduceAdd, Option.bind_some, lt_t, lt_f, le_t, le_f, eq_f, eq_self, nI_add, nI_mul, nI_sub, ↓reduceIte, if_neg hne, a1, b1, c1]
      · show bt (l &&& (out ^^^ mN)) y = _
        rw [b_and, b_not hy, h1 y hy, b2 y hy]
        show (tL S r y && !(tL S r y && onc (pt S (tL S r)) y)) = (tL S r y && !onc (pt S (tL S r)) y)
        cases tL S r y <;> cases onc (pt S (tL S r)) y <;> rfl
    · obtain ⟨l, c, q⟩ := t
      obtain ⟨h1, h2, h3, h4, h5⟩ := hI
      dsimp only at h1 h2 h3 h4 h5
      subst h2
      have hz9 : l = nI 0 := b_zero.mpr (fun i hi => by rw [h1 i hi]; exact tR_end hv i)
      refine ⟨(nI (tC S (tR S)), q), ?_, rfl, h3, h4, h5⟩
      unfold f_Mod_trades_L67
      simp (disch := omega) only [fl, fmN, mm_lt, Nat.reduceAdd, Option.bind_some, lt_t, lt_f, le_t, le_f, eq_f, eq_self, nI_add, nI_mul, nI_sub, ↓reduceIte, hz9]
  obtain ⟨⟨c, q⟩, e, h1, h2, h3, h4⟩ := key
  dsimp only at h1 h2 h3 h4
  subst h1
  have e171 : q.1 171 = S := by rw [h3 171 (by decide) (by decide), hs]
  have L319 : mm_lp (f_Mod_trades_L319 z_Law 169 (nI (tC S (tR S)))) (nI 0, q) = some (kP q 171 123 (sm S) (q.1 179)) := by
    refine lp_go (fun i => (nI i, kP q 171 123 i (q.1 179))) (sm S) (Prod.ext rfl kP_0.symm) (fun i hi => ?_) ?_
    · have f1 : (kP q 171 123 i (q.1 179)).1 171 1 = nI (sm S) := by rw [kP_out (by omega), e171]; exact iv_m hv
      have f2 : (kP q 171 123 i (q.1 179)).1 179 = q.1 179 := kP_o (by decide)
      unfold f_Mod_trades_L319
      simp (disch := omega) only [fl, fmN, mm_lt, Nat.reduceAdd, Option.bind_some, lt_t, lt_f, le_t, le_f, eq_f, eq_self, nI_add, nI_mul, nI_sub, ↓reduceIte, zq_171, zq_179, ld_nI, st_nI, f1, f2, kP_succ]
    · have f1 : (kP q 171 123 (sm S) (q.1 179)).1 171 1 = nI (sm S) := by rw [kP_out (by omega), e171]; exact iv_m hv
      unfold f_Mod_trades_L319
      simp (disch := omega) only [fl, fmN, mm_lt, Nat.reduceAdd, Option.bind_some, lt_t, lt_f, le_t, le_f, eq_f, eq_self, nI_add, nI_mul, nI_sub, ↓reduceIte, zq_171, ld_nI, f1]
  refine ⟨kP q 171 123 (sm S) (q.1 179), ?_, ?_, fun q' g1 g2 g3 => (kP_o g1).trans (h3 q' g2 g3), h4⟩
  · unfold f_Mod_trades
    simp only [fl, el, Option.bind_some, e, L319]
  · rw [kP_s]
    funext i
    unfold fb_put trS
    by_cases g : 123 ≤ i ∧ i < 123 + sm S
    · rw [if_pos g, if_pos g]; exact h2 _ (by omega)
    · rw [if_neg g, if_neg g, e171]
theorem op_trade (hR : RL σ) : ∃ r m1 m2, f_Hat_trade z_Law σ 0 = some (r, m1) ∧ f_Mod_trade z_Law m1 169 = some (r, m2) ∧ RL m2 := by
  have hv := rl_v (rs hR)
  have m8 := iv_m8 hv
  obtain ⟨m1, a1, a2, a3, a4⟩ := hat_trade (Or.inl rfl) HZ_74 (rl_I (rs hR)) (rl_H (rs hR)) hv
  have f171 : (kI m1 169 0 (nI 0)).1 171 = σ.1 171 := a3 171 (by decide) (by decide) (by decide)
  obtain ⟨m2, b1, b2, b3, b4⟩ := md_trades f171 hv
  have k1 : kp AN σ m1 := kp_fr (l := [76, 80, 82]) ⟨fun q hq => a3 q (nm3 hq).1 (nm3 hq).2.1 (nm3 hq).2.2, fun q _ => by rw [a4]⟩ (by decide)
  have k2 : kp AN (kI m1 169 0 (nI 0)) m2 := kp_fr (l := [171, 178, 179]) ⟨fun q hq => b3 q (nm3 hq).1 (nm3 hq).2.1 (nm3 hq).2.2, fun q _ => by rw [b4]⟩ (by decide)
  refine ⟨nI (tC (σ.1 171) (tR (σ.1 171))), m1, m2, ?_, ?_, RL_N hR (kp_tr k1 (kp_tr (kp_s169 (by decide)) k2)) ?_⟩
  · unfold f_Hat_trade
    simp only [Nat.reduceAdd, Nat.zero_add, a1, Option.bind_some]
  · unfold f_Mod_trade
    simp only [fl, fmN, mm_lt, Nat.reduceAdd, Option.bind_some, lt_t, lt_f, le_t, le_f, eq_f, eq_self, nI_add, nI_mul, nI_sub, ↓reduceIte, b1]
  · unfold RS
    have hN : m2.2 174 = σ.2 174 := by rw [b4]; show m1.2 174 = _; rw [a4]
    rw [b2, hN]
    have mq : ∀ q, q < 169 → q ≠ 76 → q ≠ 80 → q ≠ 82 → m2.1 q = σ.1 q := fun q q0 q1 q2 q3 => by
      rw [b3 q (by omega) (by omega) (by omega), kI_o _ _ _ _ (by omega), a3 q q1 q2 q3]
    refine ⟨SR_held (σ := σ) (S := σ.1 171) (S' := trS (σ.1 171)) (N := σ.2 174) (rl_S (rs hR)) hv (fun i hi h => trS_o (by omega) m8) (fun i hi h1 h2 h3 h4 => mq _ (by omega) (by omega) (by omega) (by omega)) (fun i hi => by rw [b4]; show m1.2 _ = _; rw [a4]) ?_, tr_Inv hv⟩
    exact HR_c a2 (by rw [b3 _ (by decide) (by decide) (by decide), kI_o _ _ _ _ (by decide)]) (by rw [b3 _ (by decide) (by decide) (by decide), kI_o _ _ _ _ (by decide)])
end TRADE5
