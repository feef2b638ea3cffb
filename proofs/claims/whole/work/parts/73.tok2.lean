section TOK2
variable {σ m u : Mm} {t : Nat → Nat} {sz lim p q : Nat}
theorem rwd_nil : rwd [] = mN := by decide +kernel
theorem kI_f {o k j : Nat} {v : Int32} (h : j ≠ k) : (kI m o k v).1 o j = m.1 o j := by rw [kI_at, if_neg h]
theorem kI_e {o k : Nat} {v : Int32} : (kI m o k v).1 o k = v := by rw [kI_at, if_pos rfl]
/-- the class's readRun -/
theorem hat_rr (ht : ctp2 t sz lim m) (h256 : ∀ i, i < sz → t i < 256) (hsz : sz ≤ 940) (hq : q < sz) (h5 : m.1 2 5 = nI q) (h8 : m.1 2 8 = mN) : ∃ s, f_Tokens_readRun z_Law m 2 = some s ∧ onC m s ∧ s.1 2 5 = nI q ∧ s.1 2 3 = nI (q + rln t sz q) ∧
  ((alS t q (rln t sz q) ∧ rln t sz q ≤ 7 ∧ s.1 2 4 = nI 1 ∧ s.1 2 8 = rwd (rlt t q (rln t sz q)) ∧ s.2 2 7 = lN (e128 (rlt t q (rln t sz q)))) ∨ (s.1 2 8 = mN ∧ rln t sz q ≠ 0 ∧ ((alD t q (rln t sz q) ∧ rln t sz q ≤ 2 ∧ s.1 2 4 = nI 2 ∧ s.1 2 6 = nI (nbd t q (rln t sz q))) ∨ (s.1 2 4 = nI 4 ∧ ¬ (alS t q (rln t sz q) ∧ rln t sz q ≤ 7) ∧ ¬ (alD t q (rln t sz q) ∧ rln t sz q ≤ 2))))) := by
  obtain ⟨t1, t2, t3⟩ := ht
  obtain ⟨m0, e0⟩ : ∃ m0, kI (kL (kI m 2 6 (nI 0)) 2 7 (lN 0)) 2 3 (nI q) = m0 := ⟨_, rfl⟩
  have o0 : ∀ k, k ≠ 3 → k ≠ 6 → m0.1 2 k = m.1 2 k := fun k h3 h6 => by
    rw [← e0, kI_f h3]; exact kI_f h6
  have q0 : ∀ o, o ≠ 2 → m0.1 o = m.1 o ∧ m0.2 o = m.2 o := fun o ho => by
    rw [← e0]; exact ⟨(kI_o _ _ _ _ ho).trans (kI_o _ _ _ _ ho), kL_o _ _ _ _ ho⟩
  have z3 : m0.1 2 3 = nI q := by rw [← e0, kI_e]
  have z6 : m0.1 2 6 = nI 0 := by
    rw [← e0, kI_f (by decide)]
    show (kI m 2 6 (nI 0)).1 2 6 = _
    exact kI_e
  have z7 : m0.2 2 7 = lN 0 := by
    rw [← e0]
    show (kL (kI m 2 6 (nI 0)) 2 7 (lN 0)).2 2 7 = _
    rw [kL_at, if_pos rfl]
  obtain ⟨s, a1, a2, a3, a4, a5, a6, a7⟩ := hat_run (m := m0) (t := t) (sz := sz) (q := q) (fun i hi => by rw [(q0 4 (by decide)).1]; exact t3 i hi) h256 hsz hq ((o0 1 (by decide) (by decide)).trans t1) z3 z6 z7
  obtain ⟨dg, s⟩ := s
  dsimp only at a2 a3 a4 a5 a6 a7
  subst a2
  have hle := rln_le (t := t) (sz := sz) (q := q)
  have hd := dct_le (t := t) (q := q) (rln t sz q)
  have b5 : s.1 2 5 = nI q := by rw [a6 5 (by decide) (by decide), o0 5 (by decide) (by decide)]; exact h5
  have b8 : s.1 2 8 = mN := by rw [a6 8 (by decide) (by decide), o0 8 (by decide) (by decide)]; exact h8
  have bo : onC m s := ⟨fun o ho => ⟨(a7 o ho).1.trans (q0 o ho).1, (a7 o ho).2.trans (q0 o ho).2⟩, (a6 1 (by decide) (by decide)).trans (o0 1 (by decide) (by decide)), (a6 2 (by decide) (by decide)).trans (o0 2 (by decide) (by decide))⟩
  have hJ : f_Tokens_readRun z_Law m 2 = f_Tokens_readRun_J134 z_Law 2 (nI (dct t q (rln t sz q))) s := by
    have e5 : (kL (kI m 2 6 (nI 0)) 2 7 (lN 0)).1 2 5 = nI q := by show (kI m 2 6 (nI 0)).1 2 5 = nI q; rw [kI_f (by decide)]; exact h5
    unfold f_Tokens_readRun
    simp only [mm_lt, fl, fl64, e5, e0, a1, Option.bind_some]
  have kf : ∀ (v k : Nat) (w : Int32), v ≠ k → ∀ x : Mm, (kI x 2 k w).1 2 v = x.1 2 v := fun v k w h x => kI_f h
  by_cases hS : alS t q (rln t sz q) ∧ rln t sz q ≤ 7
  · have d0 : dct t q (rln t sz q) = 0 := by rw [dct_0]; exact fun i hi => SD_no (hS.1 i hi)
    have hl := rlt_ok hS.1 hS.2
    have b7 : s.2 2 7 = lN (e128 (rlt t q (rln t sz q))) := a5.trans (ltI_S _ hS.1)
    refine ⟨kI (kI (kI s 2 4 (nI 4)) 2 4 (nI 1)) 2 8 (rwd (rlt t q (rln t sz q))), ?_, ⟨fun o ho => ⟨?_, (bo.1 o ho).2⟩, ?_, ?_⟩, ?_, ?_, Or.inl ⟨hS.1, hS.2, ?_, ?_, b7⟩⟩
    · have b7' : (kI (kI s 2 4 (nI 4)) 2 4 (nI 1)).2 2 7 = lN (e128 (rlt t q (rln t sz q))) := b7
      rw [hJ]
      unfold f_Tokens_readRun_J134
      simp (disch := omega) only [fl, mm_lt, d0, a3, b5, nI_sub, Nat.add_sub_cancel_left, ↓reduceIte, lt_f, b7', hat_num hl, Option.bind_some]
    · rw [kI_o _ _ _ _ ho, kI_o _ _ _ _ ho, kI_o _ _ _ _ ho]; exact (bo.1 o ho).1
    · rw [kI_f (by decide), kI_f (by decide), kI_f (by decide)]; exact bo.2.1
    · rw [kI_f (by decide), kI_f (by decide), kI_f (by decide)]; exact bo.2.2
    · rw [kI_f (by decide), kI_f (by decide), kI_f (by decide)]; exact b5
    · rw [kI_f (by decide), kI_f (by decide), kI_f (by decide)]; exact a3
    · rw [kI_f (by decide), kI_e]
    · rw [kI_e]
  · have d0 : ¬ (dct t q (rln t sz q) = 0 ∧ rln t sz q ≤ 7) := by
      rintro ⟨h1, h2⟩
      rw [dct_0] at h1
      refine hS ⟨fun i hi => ?_, h2⟩
      have := rln_a hi
      unfold alc at this
      rw [h1 i hi, Bool.or_false] at this
      exact this
    have l0 : rln t sz q ≠ 0 := fun e => hS ⟨fun i hi => by rw [e] at hi; exact absurd hi (by omega), by omega⟩
    have hJ2 : f_Tokens_readRun z_Law m 2 = f_Tokens_readRun_J178 z_Law 2 (nI (dct t q (rln t sz q))) (nI (rln t sz q)) (kI s 2 4 (nI 4)) := by
      rw [hJ]
      unfold f_Tokens_readRun_J134
      by_cases g : dct t q (rln t sz q) = 0
      · simp (disch := omega) only [fl, mm_lt, g, a3, b5, nI_sub, Nat.add_sub_cancel_left, ↓reduceIte, lt_t]
      · simp (disch := omega) only [fl, mm_lt, a3, b5, nI_sub, Nat.add_sub_cancel_left, ↓reduceIte, eq_f]
    by_cases hD : alD t q (rln t sz q) ∧ rln t sz q ≤ 2
    · have d1 : dct t q (rln t sz q) = rln t sz q := by rw [dct_n]; exact hD.1
      refine ⟨kI (kI s 2 4 (nI 4)) 2 4 (nI 2), ?_, ⟨fun o ho => ⟨?_, (bo.1 o ho).2⟩, ?_, ?_⟩, ?_, ?_, Or.inr ⟨?_, l0, Or.inl ⟨hD.1, hD.2, ?_, ?_⟩⟩⟩
      · rw [hJ2]
        unfold f_Tokens_readRun_J178
        simp (disch := omega) only [fl, mm_lt, d1, ↓reduceIte, lt_f]
      · rw [kI_o _ _ _ _ ho, kI_o _ _ _ _ ho]; exact (bo.1 o ho).1
      · rw [kI_f (by decide), kI_f (by decide)]; exact bo.2.1
      · rw [kI_f (by decide), kI_f (by decide)]; exact bo.2.2
      · rw [kI_f (by decide), kI_f (by decide)]; exact b5
      · rw [kI_f (by decide), kI_f (by decide)]; exact a3
      · rw [kI_f (by decide), kI_f (by decide)]; exact b8
      · rw [kI_e]
      · rw [kI_f (by decide), kI_f (by decide), a4]; exact nbI_D _ hD.1
    · have d1 : ¬ (dct t q (rln t sz q) = rln t sz q ∧ rln t sz q ≤ 2) := fun h => hD ⟨by rw [← dct_n]; exact h.1, h.2⟩
      refine ⟨kI s 2 4 (nI 4), ?_, ⟨fun o ho => ⟨?_, (bo.1 o ho).2⟩, ?_, ?_⟩, ?_, ?_, Or.inr ⟨?_, l0, Or.inr ⟨?_, hS, hD⟩⟩⟩
      · rw [hJ2]
        unfold f_Tokens_readRun_J178
        by_cases g : dct t q (rln t sz q) = rln t sz q
        · simp (disch := omega) only [fl, mm_lt, g, ↓reduceIte, lt_t]
        · simp (disch := omega) only [fl, mm_lt, ↓reduceIte, eq_f]
      · rw [kI_o _ _ _ _ ho]; exact (bo.1 o ho).1
      · rw [kI_f (by decide)]; exact bo.2.1
      · rw [kI_f (by decide)]; exact bo.2.2
      · rw [kI_f (by decide)]; exact b5
      · rw [kI_f (by decide)]; exact a3
      · rw [kI_f (by decide)]; exact b8
      · rw [kI_e]
theorem onC_tr {a b c : Mm} (h : onC a b) (h' : onC b c) : onC a c := ⟨fun q hq => ⟨(h'.1 q hq).1.trans (h.1 q hq).1, (h'.1 q hq).2.trans (h.1 q hq).2⟩, h'.2.1.trans h.2.1, h'.2.2.trans h.2.2⟩
theorem onC_kI {k : Nat} {v : Int32} (h1 : k ≠ 1) (h2 : k ≠ 2) : onC m (kI m 2 k v) := ⟨fun q hq => ⟨kI_o _ _ _ _ hq, rfl⟩, kI_f (Ne.symm h1), kI_f (Ne.symm h2)⟩
theorem min_32 : (if nI lim < nI sz then nI lim else nI sz) = nI (min sz lim) ∨ 2 ^ 31 ≤ sz ∨ 2 ^ 31 ≤ lim := by
  by_cases h1 : sz < 2 ^ 31
  · by_cases h2 : lim < 2 ^ 31
    · left
      by_cases g : lim < sz
      · rw [if_pos (nI_lt g h1), Nat.min_eq_right (by omega)]
      · rw [if_neg (nI_nlt (by omega) h2), Nat.min_eq_left (by omega)]
    · exact Or.inr (Or.inr (by omega))
  · exact Or.inr (Or.inl (by omega))
/-- the class's step, up to its token -/
theorem hat_st (ht : ctp2 t sz lim m) (h256 : ∀ i, i < sz → t i < 256) (hsz : sz ≤ 940) (hl : lim ≤ 940) (h3 : m.1 2 3 = nI p) (hp : p ≤ sz) : ∃ s, f_Tokens_step z_Law m 2 = f_Tokens_step_J73 z_Law 2 (nI (min sz lim)) s ∧ onC m s ∧ s.1 2 5 = nI (skp t (min sz lim) p) := by
  obtain ⟨t1, t2, t3⟩ := ht
  have o1 := onC_kI (m := m) (k := 5) (v := nI p) (by decide) (by decide)
  obtain ⟨s, a1, a2, a3, a4, a5⟩ := hat_skip (m := kI m 2 5 (nI p)) (t := t) (sz := sz) (p := p) (fun i hi => by rw [(o1.1 4 (by decide)).1]; exact t3 i hi) h256 hsz (c := min sz lim) (Nat.min_le_left _ _) kI_e hp
  have em : (if nI lim < nI sz then nI lim else nI sz) = nI (min sz lim) := by
    rcases min_32 (sz := sz) (lim := lim) with h | h | h
    · exact h
    · omega
    · omega
  refine ⟨s, ?_, onC_tr o1 ⟨fun q hq => ⟨a4 q hq, by rw [a5]⟩, a3 1 (by decide), a3 2 (by decide)⟩, a2⟩
  unfold f_Tokens_step
  simp only [mm_lt, t1, t2, em, h3, a1, Option.bind_some]
theorem hat_B (ht : ctp2 t sz lim m) (h256 : ∀ i, i < sz → t i < 256) (hsz : sz ≤ 940) (hl : lim ≤ 940) (h3 : m.1 2 3 = nI p) (hp : p ≤ sz) (hB : min sz lim ≤ skp t (min sz lim) p) : ∃ s, f_Tokens_step z_Law m 2 = some s ∧ onC m s ∧ CT s (if sz ≤ lim then 0 else 4) [] 0 (min sz lim) 0 := by
  obtain ⟨s, a1, a2, a3⟩ := hat_st ht h256 hsz hl h3 hp
  have hk : skp t (min sz lim) p ≤ 940 := by
    have h9 : min sz lim ≤ sz := Nat.min_le_left _ _
    rcases Nat.lt_or_ge (min sz lim) p with h | h
    · unfold skp; rw [show min sz lim - p = 0 by omega]; exact Nat.le_trans (Nat.add_le_add_left (fa_first_le _ 0) p) (by omega)
    · have := skp_le (t := t) h; omega
  have hc : min sz lim ≤ 940 := Nat.le_trans (Nat.min_le_left _ _) hsz
  have s1 : (kI (kI s 2 8 mN) 2 5 (nI (min sz lim))).1 2 1 = nI sz := by rw [kI_f (by decide), kI_f (by decide), a2.2.1]; exact ht.1
  have s2 : (kI (kI s 2 8 mN) 2 5 (nI (min sz lim))).1 2 2 = nI lim := by rw [kI_f (by decide), kI_f (by decide), a2.2.2]; exact ht.2.1
  have s5 : (kI s 2 8 mN).1 2 5 = nI (skp t (min sz lim) p) := by rw [kI_f (by decide)]; exact a3
  have hJ : f_Tokens_step z_Law m 2 = some (kI (kI (kI s 2 8 mN) 2 5 (nI (min sz lim))) 2 4 (nI (if sz ≤ lim then 0 else 4))) := by
    rw [a1]
    unfold f_Tokens_step_J73
    by_cases g : sz ≤ lim
    · simp (disch := omega) only [fl, fmN, mm_lt, s5, lt_f, ↓reduceIte, s1, s2, le_t, if_pos g]
    · simp (disch := omega) only [fl, fmN, mm_lt, s5, lt_f, ↓reduceIte, s1, s2, le_f, if_neg g]
  refine ⟨_, hJ, onC_tr a2 (onC_tr (onC_kI (by decide) (by decide)) (onC_tr (onC_kI (by decide) (by decide)) (onC_kI (by decide) (by decide)))), kI_e, ?_, ?_, ?_, ?_, ?_⟩
  · rw [kI_f (by decide), kI_e]
  · rw [kI_f (by decide), kI_f (by decide), kI_e, if_neg (by split <;> omega)]
  · intro g; split at g <;> omega
  · intro g; split at g <;> omega
  · intro g; split at g <;> omega
theorem hat_A (ht : ctp2 t sz lim m) (h256 : ∀ i, i < sz → t i < 256) (hsz : sz ≤ 940) (hl : lim ≤ 940) (h3 : m.1 2 3 = nI p) (hp : p ≤ sz) (hq : skp t (min sz lim) p = q) (hA : q < min sz lim) {κ : Nat} (hκ : kOf t sz q κ) : ∃ s, f_Tokens_step z_Law m 2 = some s ∧ onC m s ∧ CT s κ (rlt t q (rln t sz q)) (nbd t q (rln t sz q)) q (npO t sz q) := by
  obtain ⟨s, a1, a2, a3⟩ := hat_st ht h256 hsz hl h3 hp
  rw [hq] at a3
  have hc : min sz lim ≤ sz := Nat.min_le_left _ _
  have hle := rln_le (t := t) (sz := sz) (q := q)
  have o1 : onC m (kI s 2 8 mN) := onC_tr a2 (onC_kI (by decide) (by decide))
  have s5 : (kI s 2 8 mN).1 2 5 = nI q := by rw [kI_f (by decide)]; exact a3
  have ht1 : ctp2 t sz lim (kI s 2 8 mN) := ⟨by rw [o1.2.1]; exact ht.1, by rw [o1.2.2]; exact ht.2.1, fun i hi => by rw [(o1.1 4 (by decide)).1]; exact ht.2.2 i hi⟩
  obtain ⟨r, b1, b2, b3, b4, b5⟩ := hat_rr ht1 h256 hsz (by omega) s5 kI_e
  have tq := h256 q (by omega)
  have r4 : r.1 4 q = nI (t q) := by rw [(b2.1 4 (by decide)).1]; exact ht1.2.2 q (by omega)
  rcases hκ with ⟨l0, hκ⟩ | ⟨l0, hκ⟩
  · have hb := b5.resolve_right (fun h => h.2.1 l0)
    have r8 : r.1 2 8 = mN := by
      rw [hb.2.2.2.1, l0]; exact rwd_nil
    rw [l0, Nat.add_zero] at b4
    have hnp : npO t sz q = q + 1 := if_pos l0
    have fin : ∀ κ0 : Nat, (κ0 = 3 ∨ κ0 = 4) → (kI (kI r 2 4 (nI κ0)) 2 3 (nI (q + 1))).1 2 4 = nI κ0 ∧ onC m (kI (kI r 2 4 (nI κ0)) 2 3 (nI (q + 1))) ∧ CT (kI (kI r 2 4 (nI κ0)) 2 3 (nI (q + 1))) κ0 (rlt t q (rln t sz q)) (nbd t q (rln t sz q)) q (npO t sz q) := by
      intro κ0 h0
      have e4 : (kI (kI r 2 4 (nI κ0)) 2 3 (nI (q + 1))).1 2 4 = nI κ0 := by rw [kI_f (by decide), kI_e]
      refine ⟨e4, onC_tr o1 (onC_tr b2 (onC_tr (onC_kI (by decide) (by decide)) (onC_kI (by decide) (by decide)))), e4, ?_, ?_, fun h => by omega, fun h => by omega, fun _ => by rw [kI_e, hnp]⟩
      · rw [kI_f (by decide), kI_f (by decide)]; exact b3
      · rw [kI_f (by decide), kI_f (by decide), if_neg (by omega)]; exact r8
    rcases hκ with ⟨h59, rfl⟩ | ⟨h59, rfl⟩
    · refine ⟨_, ?_, (fin 3 (Or.inl rfl)).2.1, (fin 3 (Or.inl rfl)).2.2⟩
      have e5 : (kI r 2 4 (nI 3)).1 2 5 = nI q := by rw [kI_f (by decide)]; exact b3
      rw [a1]
      unfold f_Tokens_step_J73
      simp (disch := omega) only [fl, fmN, mm_lt, s5, lt_t, ↓reduceIte, b1, Option.bind_some, b3, b4, Nat.reduceAdd, row_atE (p := 4) rfl zq_4, r4, h59, e5, nI_add]
    · refine ⟨_, ?_, (fin 4 (Or.inr rfl)).2.1, (fin 4 (Or.inr rfl)).2.2⟩
      have e5 : (kI r 2 4 (nI 4)).1 2 5 = nI q := by rw [kI_f (by decide)]; exact b3
      rw [a1]
      unfold f_Tokens_step_J73
      simp (disch := omega) only [fl, fmN, mm_lt, s5, lt_t, ↓reduceIte, b1, Option.bind_some, b3, b4, Nat.reduceAdd, row_atE (p := 4) rfl zq_4, r4, eq_f, e5, nI_add]
  · have hnp : npO t sz q = q + rln t sz q := if_neg l0
    refine ⟨r, ?_, onC_tr o1 b2, ?_⟩
    · rw [a1]
      unfold f_Tokens_step_J73
      simp (disch := omega) only [fl, fmN, mm_lt, s5, lt_t, ↓reduceIte, b1, Option.bind_some, b3, b4, eq_f]
    · rcases b5 with ⟨c1, c2, c3, c4, c5⟩ | ⟨c0, -, c⟩
      · obtain rfl : κ = 1 := by
          rcases hκ with h | h | h
          · exact h.2.2
          · exfalso
            have x1 := SD_no (c1 0 (by omega))
            rw [h.1 0 (by omega)] at x1; cases x1
          · exact absurd ⟨c1, c2⟩ h.2.1
        exact ⟨c3, b3, by rw [if_pos rfl]; exact c4, fun _ => c5, fun h => absurd h (by decide), fun _ => by rw [hnp]; exact b4⟩
      · rcases c with ⟨c1, c2, c3, c4⟩ | ⟨c1, c2, c3⟩
        · obtain rfl : κ = 2 := by
            rcases hκ with h | h | h
            · exfalso
              have x1 := SD_no (h.1 0 (by omega))
              rw [c1 0 (by omega)] at x1; cases x1
            · exact h.2.2
            · exact absurd ⟨c1, c2⟩ h.2.2
          exact ⟨c3, b3, by rw [if_neg (by decide)]; exact c0, fun h => absurd h (by decide), fun _ => c4, fun _ => by rw [hnp]; exact b4⟩
        · obtain rfl : κ = 4 := by
            rcases hκ with h | h | h
            · exact absurd ⟨h.1, h.2.1⟩ c2
            · exact absurd ⟨h.1, h.2.1⟩ c3
            · exact h.1
          exact ⟨c1, b3, by rw [if_neg (by decide)]; exact c0, fun h => absurd h (by decide), fun h => absurd h (by decide), fun h => by omega⟩
end TOK2
