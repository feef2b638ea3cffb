section GO3
variable {σ m u : Mm} {S T : Nat → Int32}
theorem nm4 {q a b c d : Nat} (h : q ∉ [a, b, c, d]) : q ≠ a ∧ q ≠ b ∧ q ≠ c ∧ q ≠ d := by
  simp only [List.mem_cons, List.not_mem_nil, or_false, not_or] at h; exact h
def hmf (T : Nat → Int32) : Nat → Int32 → Int32 := fun h c => if T (123 + h) = mN then c else c + nI 1
def hmc (T : Nat → Int32) : Int32 := fo (hmf T) (sm T) (nI 0)
theorem fo_cut {α : Type} {g : Nat → α → α} {n : Nat} {a : α} : ∀ {k : Nat}, (∀ i x, n ≤ i → i < n + k → g i x = x) → fo g (n + k) a = fo g n a
  | 0, _ => rfl
  | k + 1, h => by
    show g (n + k) (fo g (n + k) a) = _
    rw [h (n + k) _ (by omega) (by omega)]
    exact fo_cut (fun i x h1 h2 => h i x h1 (by omega))
theorem hmc_8 (hv : Inv T) : fo (hmf T) 8 (nI 0) = hmc T := by
  have m8 := iv_m8 hv
  obtain ⟨k, hk⟩ : ∃ k, 8 = sm T + k := ⟨8 - sm T, by omega⟩
  rw [hk]
  exact fo_cut (fun i x h1 h2 => if_pos (iv_none hv i h1 (by omega)))
theorem hd_many (hv : Inv T) (hH : HR m 19 T) : f_Hands_howManyHeld z_Law m 19 = some (hmc T) := by
  unfold f_Hands_howManyHeld
  simp only [fl]
  rw [lp_fo0 (hmf T) 8 (fun i x hi => ?_) (fun x => ?_), hmc_8 hv]
  · rfl
  · unfold f_Hands_howManyHeld_L4 hmf
    simp (disch := omega) only [fl, fmN, mm_lt, Nat.reduceAdd, Option.bind_some, lt_t, lt_f, le_t, le_f, eq_f, eq_self, nI_add, nI_mul, nI_sub, ↓reduceIte, hd_held HZ_19 hH]
    split <;> rfl
  · unfold f_Hands_howManyHeld_L4
    simp (disch := omega) only [fl, fmN, mm_lt, Nat.reduceAdd, Option.bind_some, lt_t, lt_f, le_t, le_f, eq_f, eq_self, nI_add, nI_mul, nI_sub, ↓reduceIte]
theorem md_many (hv : Inv T) (hs : u.1 171 = T) {a b : Int32} : mm_lp (f_Mod_go_L191 z_Law 169 a b) (nI 0, kI u 180 3 (nI 0)) = some (kI u 180 3 (hmc T)) := by
  have m8 := iv_m8 hv
  have n10 := iv_n10 hv
  have q1 : ∀ v, (kI u 180 3 v).1 171 = T := fun v => (kI_o _ _ _ _ (by decide)).trans hs
  have q2 : ∀ v, (kI u 180 3 v).1 180 3 = v := fun v => by rw [kI_at, if_pos rfl]
  refine lp_go (fun i => (nI i, kI u 180 3 (fo (hmf T) i (nI 0)))) (sm T) rfl (fun i hi => ?_) ?_
  · have e9 := hq_lt (iv_held hv i (by omega)) (by omega)
    unfold f_Mod_go_L191
    simp (disch := omega) only [fl, fmN, mm_lt, Nat.reduceAdd, Option.bind_some, lt_t, lt_f, le_t, le_f, eq_f, eq_self, nI_add, nI_mul, nI_sub, ↓reduceIte, zq_171, zq_180, ld_nI, st_nI, q1, q2, iv_m hv, e9]
    show _ = some (Sum.inl (nI (i + 1), kI u 180 3 (hmf T i (fo (hmf T) i (nI 0)))))
    unfold hmf
    by_cases g : T (123 + i) = mN
    · rw [if_pos g, if_pos g, i_add0, kI_kI]
    · rw [if_neg g, if_neg g, kI_kI]
  · unfold f_Mod_go_L191
    simp (disch := omega) only [fl, fmN, mm_lt, Nat.reduceAdd, Option.bind_some, lt_t, lt_f, le_t, le_f, eq_f, eq_self, nI_add, nI_mul, nI_sub, ↓reduceIte, zq_171, ld_nI, q1, iv_m hv]
    rfl
theorem md_keep (hs : u.1 171 = T) {v : Int32} : ∃ m', mm_lp (f_Mod_go_L19 z_Law 169 v) (nI 0, u) = some m' ∧ (∀ q, q ≠ 181 → m'.1 q = u.1 q) ∧ m'.2 = u.2 ∧ (∀ k, k < 8 → m'.1 181 k = T (123 + k)) ∧ ∀ k, k < 8 → m'.1 181 (8 + k) = T (115 + k) := by
  refine lp_ix (fun i s => s.1 = nI i ∧ (∀ q, q ≠ 181 → s.2.1 q = u.1 q) ∧ s.2.2 = u.2 ∧ (∀ k, k < i → s.2.1 181 k = T (123 + k)) ∧ ∀ k, k < i → s.2.1 181 (8 + k) = T (115 + k)) 8 (fun i s hi hI => ?_) (fun s hI => ?_) ⟨rfl, fun _ _ => rfl, rfl, fun k h => absurd h (by omega), fun k h => absurd h (by omega)⟩
  · obtain ⟨c, q⟩ := s
    obtain ⟨h1, h2, h3, h4, h5⟩ := hI
    dsimp only at h1 h2 h3 h4 h5
    subst h1
    have e1 : q.1 171 = T := (h2 171 (by decide)).trans hs
    have e2 : ∀ k v, (kI q 181 k v).1 171 = T := fun k v => (kI_o _ _ _ _ (by decide)).trans e1
    refine ⟨(nI (i + 1), kI (kI q 181 i (T (123 + i))) 181 (8 + i) (T (115 + i))), ?_, rfl, fun q' hq => by rw [kI_o _ _ _ _ hq, kI_o _ _ _ _ hq]; exact h2 q' hq, h3, fun k hk => ?_, fun k hk => ?_⟩
    · unfold f_Mod_go_L19
      simp (disch := omega) only [fl, fmN, mm_lt, Nat.reduceAdd, Option.bind_some, lt_t, lt_f, le_t, le_f, eq_f, eq_self, nI_add, nI_mul, nI_sub, ↓reduceIte, zq_171, zq_181, ld_nI, st_nI, e1, e2]
    · show (kI (kI q 181 i _) 181 (8 + i) _).1 181 k = _
      rw [kI_at, if_neg (by omega), kI_at]
      by_cases g : k = i
      · rw [if_pos g, g]
      · rw [if_neg g]; exact h4 k (by omega)
    · show (kI (kI q 181 i _) 181 (8 + i) _).1 181 (8 + k) = _
      rw [kI_at]
      by_cases g : k = i
      · rw [if_pos (by omega), g]
      · rw [if_neg (by omega), kI_at, if_neg (by omega)]; exact h5 k (by omega)
  · obtain ⟨c, q⟩ := s
    obtain ⟨h1, h2, h3, h4, h5⟩ := hI
    dsimp only at h1 h2 h3 h4 h5
    subst h1
    refine ⟨q, ?_, h2, h3, h4, h5⟩
    unfold f_Mod_go_L19
    simp (disch := omega) only [fl, fmN, mm_lt, Nat.reduceAdd, Option.bind_some, lt_t, lt_f, le_t, le_f, eq_f, eq_self, nI_add, nI_mul, nI_sub, ↓reduceIte]
theorem md_unkeep (hs : u.1 171 = T) (k1 : ∀ k, k < 8 → u.1 181 k = S (123 + k)) (k2 : ∀ k, k < 8 → u.1 181 (8 + k) = S (115 + k)) (ho : ∀ i, (i < 115 ∨ 131 ≤ i) → T i = S i) {w : Int32} : ∃ m', mm_lp (f_Mod_go_L240 z_Law 169 (nI 0) w) (nI 0, u) = some m' ∧ m'.1 171 = S ∧ (∀ q, q ≠ 171 → m'.1 q = u.1 q) ∧ m'.2 = u.2 := by
  refine lp_ix (fun i s => s.1 = nI i ∧ (∀ q, q ≠ 171 → s.2.1 q = u.1 q) ∧ s.2.2 = u.2 ∧ ∀ k, s.2.1 171 k = if (123 ≤ k ∧ k < 123 + i) ∨ (115 ≤ k ∧ k < 115 + i) then S k else T k) 8 (fun i s hi hI => ?_) (fun s hI => ?_) ⟨rfl, fun _ _ => rfl, rfl, fun k => by rw [if_neg (by omega)]; exact congrFun hs k⟩
  · obtain ⟨c, q⟩ := s
    obtain ⟨h1, h2, h3, h4⟩ := hI
    dsimp only at h1 h2 h3 h4
    subst h1
    have e1 : q.1 181 = u.1 181 := h2 181 (by decide)
    have e2 : ∀ k v, (kI q 171 k v).1 181 = u.1 181 := fun k v => (kI_o _ _ _ _ (by decide)).trans e1
    refine ⟨(nI (i + 1), kI (kI q 171 (123 + i) (S (123 + i))) 171 (115 + i) (S (115 + i))), ?_, rfl, fun q' hq => by rw [kI_o _ _ _ _ hq, kI_o _ _ _ _ hq]; exact h2 q' hq, h3, fun k => ?_⟩
    · unfold f_Mod_go_L240
      simp (disch := omega) only [fl, fmN, mm_lt, Nat.reduceAdd, Option.bind_some, lt_t, lt_f, le_t, le_f, eq_f, eq_self, nI_add, nI_mul, nI_sub, ↓reduceIte, zq_171, zq_181, ld_nI, st_nI, e1, e2, k1 i hi, k2 i hi]
    · show (kI (kI q 171 (123 + i) _) 171 (115 + i) _).1 171 k = _
      rw [kI_at]
      by_cases g : k = 115 + i
      · rw [if_pos g, if_pos (by omega), g]
      · rw [if_neg g, kI_at]
        by_cases g2 : k = 123 + i
        · rw [if_pos g2, if_pos (by omega), g2]
        · rw [if_neg g2, h4 k]
          by_cases g3 : (123 ≤ k ∧ k < 123 + i) ∨ (115 ≤ k ∧ k < 115 + i)
          · rw [if_pos g3, if_pos (by omega)]
          · rw [if_neg g3, if_neg (by omega)]
  · obtain ⟨c, q⟩ := s
    obtain ⟨h1, h2, h3, h4⟩ := hI
    dsimp only at h1 h2 h3 h4
    subst h1
    refine ⟨q, ?_, ?_, h2, h3⟩
    · unfold f_Mod_go_L240
      simp (disch := omega) only [fl, fmN, mm_lt, Nat.reduceAdd, Option.bind_some, lt_t, lt_f, le_t, le_f, eq_f, eq_self, nI_add, nI_mul, nI_sub, ↓reduceIte]
    · funext k
      rw [h4 k]
      by_cases g : (123 ≤ k ∧ k < 123 + 8) ∨ (115 ≤ k ∧ k < 115 + 8)
      · rw [if_pos g]
      · rw [if_neg g]; exact ho k (by omega)
/-- the class's rows of the BOOK -/
def bkr (S : Nat → Int32) (m : Mm) : Prop := m.1 60 7 = nI (sb S) ∧ ∀ i, i < sb S → m.1 90 i = bkw (S (624 + 4 * i)) ∧ (S (624 + 4 * i) ≠ nI 5 → m.1 92 i = S (625 + 4 * i)) ∧ (S (624 + 4 * i) ≠ nI 5 → S (624 + 4 * i) ≠ nI 2 → m.1 94 i = S (626 + 4 * i))
theorem go_lines (hv0 : Inv S) {v1 : Int32} : ∀ r i T, i + r = sb S → Inv T → (∀ q, (q < 115 ∨ 131 ≤ q) → T q = S q) → ∃ (code L : Nat) (T' : Nat → Int32), Inv T' ∧ (∀ q, (q < 115 ∨ 131 ≤ q) → T' q = S q) ∧ code ≤ 6 ∧ L ≤ 30 ∧
  (∀ m, HR m 19 T → IR m 61 S → bkr S m → ∃ m1, mm_lp (f_Hat_go_L36 z_Law 0 v1) (nI 0, nI i, m) = some (nI code, nI L, m1) ∧ HR m1 19 T' ∧ (∀ q, q ≠ 21 → q ≠ 23 → q ≠ 25 → q ≠ 27 → m1.1 q = m.1 q) ∧ m1.2 = m.2) ∧
  (∀ u : Mm, u.1 171 = T → u.1 180 0 = nI 0 → u.1 180 1 = nI i → ∃ u1, mm_lp (f_Mod_go_L82 z_Law 169 v1) (mN, nI i, u) = some (if code = 0 then mN else nI L, u1) ∧ u1.1 171 = T' ∧ u1.1 180 0 = nI code ∧ u1.1 180 1 = nI L ∧ (∀ q, q ≠ 171 → q ≠ 178 → q ≠ 179 → q ≠ 180 → u1.1 q = u.1 q) ∧ u1.2 = u.2) := by
  have b30 := iv_sb30 hv0
  intro r
  induction r with
  | zero =>
    intro i T hi hT hTS
    obtain rfl : i = sb S := by omega
    have e623 : T 623 = nI (sb S) := (hTS 623 (by omega)).trans (iv_sb hv0)
    refine ⟨0, sb S, T, hT, hTS, by omega, b30, fun m hH hI hb => ⟨m, ?_, hH, fun _ _ _ _ _ => rfl, rfl⟩, fun u hu h0 h1 => ⟨u, ?_, hu, h0, h1, fun _ _ _ _ _ => rfl, rfl⟩⟩
    · refine mm_lp_done ?_
      unfold f_Hat_go_L36
      simp (disch := omega) only [fl, fmN, mm_lt, Nat.reduceAdd, Option.bind_some, lt_t, lt_f, le_t, le_f, eq_f, eq_self, nI_add, nI_mul, nI_sub, ↓reduceIte, hb.1]
    · refine mm_lp_done ?_
      unfold f_Mod_go_L82
      simp (disch := omega) only [fl, fmN, mm_lt, Nat.reduceAdd, Option.bind_some, lt_t, lt_f, le_t, le_f, eq_f, eq_self, nI_add, nI_mul, nI_sub, ↓reduceIte, zq_171, ld_nI, hu, e623]
  | succ r ih =>
    intro i T hi hT hTS
    have e623 : T 623 = nI (sb S) := (hTS 623 (by omega)).trans (iv_sb hv0)
    have hbk : bookOK (sn T) (sm T) (S (624 + 4 * i)) (S (625 + 4 * i)) (S (626 + 4 * i)) := by
      rw [sn_c (hTS 0 (by omega)), sm_c (hTS 1 (by omega))]; exact iv_book hv0 i (by omega)
    obtain ⟨w, ew⟩ : ∃ w, S (624 + 4 * i) = w := ⟨_, rfl⟩
    obtain ⟨a, ea⟩ : ∃ w, S (625 + 4 * i) = w := ⟨_, rfl⟩
    obtain ⟨b, eb⟩ : ∃ w, S (626 + 4 * i) = w := ⟨_, rfl⟩
    rw [ew, ea, eb] at hbk
    have tw : T (624 + 4 * i) = w := (hTS _ (by omega)).trans ew
    have ta : T (624 + 4 * i + 1) = a := (hTS _ (by omega)).trans ((congrArg S (by omega)).trans ea)
    have tb' : T (624 + 4 * i + 2) = b := (hTS _ (by omega)).trans ((congrArg S (by omega)).trans eb)
    obtain ⟨code, T1, s1, s2, hT1, s4, s5⟩ := step_any hT hbk
    have hT1S : ∀ q, (q < 115 ∨ 131 ≤ q) → T1 q = S q := fun q hq => (s4 q hq).trans (hTS q hq)
    have cls : ∀ m, HR m 19 T → IR m 61 S → bkr S m → ∃ m1, f_Hands_doLine z_Law m 19 61 (m.1 90 i) (m.1 92 i) (m.1 94 i) = some (nI code, m1) ∧ HR m1 19 T1 ∧ (∀ q, q ≠ 21 → q ≠ 23 → q ≠ 25 → q ≠ 27 → m1.1 q = m.1 q) ∧ m1.2 = m.2 := by
      intro m hH hI hb
      obtain ⟨b1, b2, b3⟩ := hb.2 i (by omega)
      rw [ew] at b1 b2 b3
      rw [b1]
      exact s1 m _ _ (IR_cong hI (fun q hq => hTS q (by omega))) hH (fun h => (b2 h).trans ea) (fun h h' => (b3 h h').trans eb)
    by_cases hc : code = 0
    · subst hc
      obtain ⟨code', L, T', hT', hTS', c6, l30, ic, iu⟩ := ih (i + 1) T1 (by omega) hT1 hT1S
      refine ⟨code', L, T', hT', hTS', c6, l30, fun m hH hI hb => ?_, fun u hu h0 h1 => ?_⟩
      · obtain ⟨m1, e1, hH1, f1, f2⟩ := cls m hH hI hb
        have hI1 : IR m1 61 S := IR_c hI (fun j hj => f1 _ (by omega) (by omega) (by omega) (by omega))
        have hb1 : bkr S m1 := by
          unfold bkr
          rw [f1 60 (by decide) (by decide) (by decide) (by decide), f1 90 (by decide) (by decide) (by decide) (by decide), f1 92 (by decide) (by decide) (by decide) (by decide), f1 94 (by decide) (by decide) (by decide) (by decide)]
          exact hb
        obtain ⟨m2, g1, g2, g3, g4⟩ := ic m1 hH1 hI1 hb1
        refine ⟨m2, ?_, g2, fun q q1 q2 q3 q4 => (g3 q q1 q2 q3 q4).trans (f1 q q1 q2 q3 q4), g4.trans f2⟩
        rw [mm_lp_step (s' := (nI 0, nI (i + 1), m1)) ?_]
        · exact g1
        · unfold f_Hat_go_L36
          simp (disch := omega) only [fl, fmN, mm_lt, Nat.reduceAdd, Option.bind_some, lt_t, lt_f, le_t, le_f, eq_f, eq_self, nI_add, nI_mul, nI_sub, ↓reduceIte, Nat.zero_add, hb.1, row_atE (p := 90) rfl zq_90, row_atE (p := 92) rfl zq_92, row_atE (p := 94) rfl zq_94, e1]
      · obtain ⟨u', e1, f1, f2, f3⟩ := s2 u hu
        have h1' : u'.1 180 1 = nI i := by rw [f2 180 (by decide) (by decide) (by decide)]; exact h1
        have q0 : (kI u' 180 0 (nI 0)).1 180 0 = nI 0 := by rw [kI_at, if_pos rfl]
        have q1 : (kI u' 180 0 (nI 0)).1 180 1 = nI i := by rw [kI_at, if_neg (by decide)]; exact h1'
        obtain ⟨u2, g1, g2, g3, g4, g5, g6⟩ := iu (kI (kI u' 180 0 (nI 0)) 180 1 (nI (i + 1))) (by rw [kI_o _ _ _ _ (by decide), kI_o _ _ _ _ (by decide)]; exact f1) (by rw [kI_at, if_neg (by decide)]; exact q0) (by rw [kI_at, if_pos rfl])
        refine ⟨u2, ?_, g2, g3, g4, fun q q1 q2 q3 q4 => by rw [g5 q q1 q2 q3 q4, kI_o _ _ _ _ q4, kI_o _ _ _ _ q4, f2 q q1 q2 q3], g6.trans f3⟩
        rw [mm_lp_step (s' := (mN, nI (i + 1), kI (kI u' 180 0 (nI 0)) 180 1 (nI (i + 1)))) ?_]
        · exact g1
        · unfold f_Mod_go_L82
          simp (disch := omega) only [fl, fmN, mm_lt, Nat.reduceAdd, Option.bind_some, lt_t, lt_f, le_t, le_f, eq_f, eq_self, nI_add, nI_mul, nI_sub, ↓reduceIte, zq_171, zq_180, ld_nI, st_nI, hu, e623, mN_nle, tw, ta, tb', e1, q0, q1]
    · refine ⟨code, i, T1, hT1, hT1S, s5, by omega, fun m hH hI hb => ?_, fun u hu h0 h1 => ?_⟩
      · obtain ⟨m1, e1, hH1, f1, f2⟩ := cls m hH hI hb
        refine ⟨m1, mm_lp_done ?_, hH1, f1, f2⟩
        unfold f_Hat_go_L36
        simp (disch := omega) only [fl, fmN, mm_lt, Nat.reduceAdd, Option.bind_some, lt_t, lt_f, le_t, le_f, eq_f, eq_self, nI_add, nI_mul, nI_sub, ↓reduceIte, Nat.zero_add, hb.1, row_atE (p := 90) rfl zq_90, row_atE (p := 92) rfl zq_92, row_atE (p := 94) rfl zq_94, e1]
      · obtain ⟨u', e1, f1, f2, f3⟩ := s2 u hu
        have h1' : u'.1 180 1 = nI i := by rw [f2 180 (by decide) (by decide) (by decide)]; exact h1
        have q0 : (kI u' 180 0 (nI code)).1 180 0 = nI code := by rw [kI_at, if_pos rfl]
        have q1 : (kI u' 180 0 (nI code)).1 180 1 = nI i := by rw [kI_at, if_neg (by decide)]; exact h1'
        have q7 : (kI u' 180 0 (nI code)).1 171 = T1 := by rw [kI_o _ _ _ _ (by decide)]; exact f1
        have e623' : T1 623 = nI (sb S) := (hT1S 623 (by omega)).trans (iv_sb hv0)
        refine ⟨kI u' 180 0 (nI code), ?_, q7, q0, q1, fun q q1 q2 q3 q4 => by rw [kI_o _ _ _ _ q4, f2 q q1 q2 q3], f3⟩
        rw [if_neg hc, mm_lp_step (s' := (nI i, nI (i + 1), kI u' 180 0 (nI code))) ?_]
        · refine mm_lp_done ?_
          unfold f_Mod_go_L82
          by_cases g : sb S ≤ i + 1
          · simp (disch := omega) only [fl, fmN, mm_lt, Nat.reduceAdd, Option.bind_some, lt_t, lt_f, le_t, le_f, eq_f, eq_self, nI_add, nI_mul, nI_sub, ↓reduceIte, zq_171, ld_nI, q7, e623']
          · simp (disch := omega) only [fl, fmN, mm_lt, Nat.reduceAdd, Option.bind_some, lt_t, lt_f, le_t, le_f, eq_f, eq_self, nI_add, nI_mul, nI_sub, ↓reduceIte, zq_171, ld_nI, q7, e623']
        · unfold f_Mod_go_L82
          simp (disch := omega) only [fl, fmN, mm_lt, Nat.reduceAdd, Option.bind_some, lt_t, lt_f, le_t, le_f, eq_f, eq_self, nI_add, nI_mul, nI_sub, ↓reduceIte, zq_171, zq_180, ld_nI, st_nI, hu, e623, mN_nle, tw, ta, tb', e1, q0]
end GO3
