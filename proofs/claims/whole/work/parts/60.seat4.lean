section SEAT4
variable {σ m u : Mm} {S : Nat → Int32}
/-- the class's search, moves after moves -/
theorem hat_moves (hv : Inv S) (hroom : sm S ≤ pw S * sc S) : ∀ r b m, b + r = sm S + 1 → sg S m → inp S m (fun _ => 0) 0 → (∃ b' p' m', b ≤ b' ∧ b' ≤ sm S ∧ sf S (sm S) (fun _ => 0) 0 b' = some p' ∧ (∀ c, b ≤ c → c < b' → sf S (sm S) (fun _ => 0) 0 c = none) ∧ mm_lp (f_Seating_find_L78 z_Law 47 61 74) (nI b, m) = some (.inl (nI b', m')) ∧ (∀ q, q ≠ 51 → q ≠ 55 → q ≠ 49 → q ≠ 47 → m'.1 q = m.1 q) ∧ (∀ k, k ≠ 1 → m'.1 47 k = m.1 47 k) ∧ m'.2 = m.2 ∧ m'.1 47 1 = nI (sm S) ∧ ∀ i, i < sm S → m'.1 49 i = nI (p' i)) ∨ (∃ m', (∀ c, b ≤ c → c ≤ sm S → sf S (sm S) (fun _ => 0) 0 c = none) ∧ mm_lp (f_Seating_find_L78 z_Law 47 61 74) (nI b, m) = some (.inr m') ∧ (∀ q, q ≠ 51 → q ≠ 55 → m'.1 q = m.1 q) ∧ m'.2 = m.2) := by
  have m8 := iv_m8 hv
  have hP := iv_p hv
  have hC := iv_c hv
  have hPC : pw S * sc S ≤ 4 * 8 := Nat.mul_le_mul hP.2.2 hC.2.2
  intro r
  induction r with
  | zero =>
    intro b m hbr hs hi
    refine Or.inr ⟨m, fun c h1 h2 => absurd h1 (by omega), mm_lp_done ?_, fun _ _ _ => rfl, rfl⟩
    unfold f_Seating_find_L78
    simp (disch := omega) only [fl, fmN, mm_lt, Nat.reduceAdd, Option.bind_some, lt_t, lt_f, le_t, le_f, eq_f, eq_self, nI_add, nI_mul, nI_sub, ↓reduceIte, hs.1]
  | succ r ih =>
    intro b m hbr hs hi
    obtain ⟨res, m1, e1, c1, c2, c3, c4⟩ := hat_seat hv (sm S) 10 (fun _ => 0) 0 b m (by omega) (by omega) (by omega) hs hi (fun i hi9 => absurd hi9 (by omega))
    have hs1 : sg S m1 := sg_c hs c1
    have e6 : ∀ f : Nat → Int32, (kF m1 49 f).1 47 6 = nI (sm S) := fun f => by rw [kF_o _ _ _ (by decide)]; exact hs1.1
    have hstep : f_Seating_find_L78 z_Law 47 61 74 (nI b, m) = if res = nI 0 then some (.inl (nI (b + 1), m1)) else some (.inr (.inl (nI b, kI (kF m1 49 (fun k => if k < 8 then m1.1 51 k else m1.1 49 k)) 47 1 (nI (sm S))))) := by
      unfold f_Seating_find_L78
      simp (disch := omega) only [fl, fmN, mm_lt, Nat.reduceAdd, Option.bind_some, lt_t, lt_f, le_t, le_f, eq_f, eq_self, nI_add, nI_mul, nI_sub, ↓reduceIte, hs.1, hs.2.1, hs.2.2.1, e1]
      rw [row_copy (o := 48) (o1 := 50) (n := 8) rfl rfl (by decide) (by decide)]
      simp only [Option.bind_some, e6]
    rcases c4 with ⟨p', g1, g2, g3⟩ | ⟨g1, g2, g3⟩
    · refine Or.inl ⟨b, p', kI (kF m1 49 (fun k => if k < 8 then m1.1 51 k else m1.1 49 k)) 47 1 (nI (sm S)), Nat.le_refl b, by omega, g1, fun c h1 h2 => absurd h1 (by omega), mm_lp_done (hstep.trans (by rw [g2, if_neg (by decide)])), fun q q1 q2 q3 q4 => ?_, fun k hk => ?_, c2, ?_, fun i hi9 => ?_⟩
      · rw [kI_o _ _ _ _ q4, kF_o _ _ _ q3]; exact c1 q q1 q2
      · rw [kI_at, if_neg hk, kF_o _ _ _ (by decide), c1 47 (by decide) (by decide)]
      · rw [kI_at, if_pos rfl]
      · rw [kI_o _ _ _ _ (by decide), kF_s, if_pos (by omega)]; exact g3 i hi9
    · have hst := hstep.trans (by rw [g2, if_pos rfl])
      rcases ih (b + 1) m1 (by omega) hs1 (fun v hv9 i hi9 => by rw [c3 v hv9]; exact hi v hv9 i hi9) with ⟨b', p', m', a0, a1, a2, a3, a4, a5, a6, a7, a8, a9⟩ | ⟨m', a1, a2, a3, a4⟩
      · exact Or.inl ⟨b', p', m', by omega, a1, a2, fun c h1 h2 => if h : c = b then h ▸ g1 else a3 c (by omega) h2, (mm_lp_step hst).trans a4, fun q q1 q2 q3 q4 => (a5 q q1 q2 q3 q4).trans (c1 q q1 q2), fun k hk => (a6 k hk).trans (by rw [c1 47 (by decide) (by decide)]), a7.trans c2, a8, a9⟩
      · exact Or.inr ⟨m', fun c h1 h2 => if h : c = b then h ▸ g1 else a1 c (by omega) h2, (mm_lp_step hst).trans a2, fun q q1 q2 => (a3 q q1 q2).trans (c1 q q1 q2), a4.trans c2⟩
/-- the class's rows laid out -/
theorem hat_prel (hR : RS σ) : ∃ w, (∀ x, mm_lp (f_Seating_find_L78 z_Law 47 61 74) (nI 0, w) = some x → f_Hat_seats z_Law σ 0 = ((some x).bind (Sum.elim (fun r9 => some r9) (fun x78_ => some (mN, x78_)))).bind (fun q18 => some (q18.1, q18.2))) ∧ sg (σ.1 171) w ∧ inp (σ.1 171) w (fun _ => 0) 0 ∧ (∀ q, q ≠ 47 → q ≠ 53 → q ≠ 55 → q ≠ 57 → w.1 q = σ.1 q) ∧ (∀ k, k ≠ 6 → k ≠ 7 → k ≠ 8 → w.1 47 k = σ.1 47 k) ∧ w.2 = σ.2 := by
  have hv := rl_v hR
  have m8 := iv_m8 hv
  have hP := iv_p hv
  have hI := rl_I hR
  have hH := rl_H hR
  obtain ⟨a, ea⟩ : ∃ a, kI (kI (kI σ 47 6 (nI (sm (σ.1 171)))) 47 7 (nI (pw (σ.1 171)))) 47 8 (nI (sc (σ.1 171))) = a := ⟨_, rfl⟩
  have aq : ∀ q, q ≠ 47 → a.1 q = σ.1 q := fun q h => by rw [← ea, kI_o _ _ _ _ h, kI_o _ _ _ _ h, kI_o _ _ _ _ h]
  have a47 : ∀ k, a.1 47 k = if k = 8 then nI (sc (σ.1 171)) else if k = 7 then nI (pw (σ.1 171)) else if k = 6 then nI (sm (σ.1 171)) else σ.1 47 k := fun k => by rw [← ea, kI_at, kI_at, kI_at]
  obtain ⟨b, eb⟩ : ∃ b, kF (kF a 57 (fun k => if k < 8 then a.1 78 k else a.1 57 k)) 55 (fun k => if k < 4 then nI 0 else (kF a 57 (fun k => if k < 8 then a.1 78 k else a.1 57 k)).1 55 k) = b := ⟨_, rfl⟩
  have bq : ∀ q, q ≠ 55 → q ≠ 57 → b.1 q = a.1 q := fun q h1 h2 => by rw [← eb, kF_o _ _ _ h1, kF_o _ _ _ h2]
  have b57 : ∀ k, k < 8 → b.1 57 k = σ.1 171 (115 + k) := fun k hk => by
    rw [← eb, kF_o _ _ _ (by decide), kF_s, if_pos hk, aq 78 (by decide)]
    exact hH.2 k hk
  have b55 : ∀ v, v < 4 → b.1 55 v = nI 0 := fun v hv9 => by rw [← eb, kF_s, if_pos hv9]
  have L48 : ∃ w, mm_lp (f_Seating_find_L48 z_Law 47 61 74) (nI 0, b) = some w ∧ (∀ h, h < sm (σ.1 171) → w.1 53 h = fw (σ.1 171) h) ∧ (∀ q, q ≠ 53 → w.1 q = b.1 q) ∧ w.2 = b.2 := by
    refine lp_ix (fun i t => t.1 = nI i ∧ (∀ h, h < i → t.2.1 53 h = fw (σ.1 171) h) ∧ (∀ q, q ≠ 53 → t.2.1 q = b.1 q) ∧ t.2.2 = b.2) (sm (σ.1 171)) (fun i t hi hI9 => ?_) (fun t hI9 => ?_) ⟨rfl, fun h hh => absurd hh (by omega), fun _ _ => rfl, rfl⟩
    · obtain ⟨c, q⟩ := t
      obtain ⟨h1, h2, h3, h4⟩ := hI9
      dsimp only at h1 h2 h3 h4
      subst h1
      have q47 : q.1 47 6 = nI (sm (σ.1 171)) := by rw [h3 47 (by decide), bq 47 (by decide) (by decide), a47]; rfl
      have qI : IR q 61 (σ.1 171) := IR_c hI (fun j hj => by rw [h3 _ (by omega), bq _ (by omega) (by omega), aq _ (by omega)])
      have qH : HR q 74 (σ.1 171) := HR_c hH (by rw [h3 _ (by decide), bq _ (by decide) (by decide), aq _ (by decide)]) (by rw [h3 _ (by decide), bq _ (by decide) (by decide), aq _ (by decide)])
      refine ⟨(nI (i + 1), kI q 53 i (fw (σ.1 171) i)), ?_, rfl, fun j hj => ?_, fun q' g => ?_, h4⟩
      · unfold f_Seating_find_L48
        simp (disch := omega) only [fl, fmN, mm_lt, Nat.reduceAdd, Option.bind_some, lt_t, lt_f, le_t, le_f, eq_f, eq_self, nI_add, nI_mul, nI_sub, ↓reduceIte, q47, hd_fw HZ_74 qH qI hv (by omega : i < 8), row_putE (p := 53) rfl zq_53]
      · show (kI q 53 i _).1 53 j = _
        rw [kI_at]
        by_cases e : j = i
        · rw [if_pos e, e]
        · rw [if_neg e]; exact h2 j (by omega)
      · show (kI q 53 i _).1 q' = _
        rw [kI_o _ _ _ _ g]; exact h3 q' g
    · obtain ⟨c, q⟩ := t
      obtain ⟨h1, h2, h3, h4⟩ := hI9
      dsimp only at h1 h2 h3 h4
      subst h1
      have q47 : q.1 47 6 = nI (sm (σ.1 171)) := by rw [h3 47 (by decide), bq 47 (by decide) (by decide), a47]; rfl
      refine ⟨q, ?_, h2, h3, h4⟩
      unfold f_Seating_find_L48
      simp (disch := omega) only [fl, fmN, mm_lt, Nat.reduceAdd, Option.bind_some, lt_t, lt_f, le_t, le_f, eq_f, eq_self, nI_add, nI_mul, nI_sub, ↓reduceIte, q47]
  obtain ⟨w, ew, w1, w2, w3⟩ := L48
  have w47 : ∀ k, w.1 47 k = a.1 47 k := fun k => by rw [w2 47 (by decide), bq 47 (by decide) (by decide)]
  refine ⟨w, fun x hx => ?_, ⟨by rw [w47, a47]; rfl, by rw [w47, a47]; rfl, by rw [w47, a47]; rfl, w1, fun h hh => by rw [w2 57 (by decide)]; exact b57 h hh⟩, fun v hv9 i hi9 => ?_, fun q q1 q2 q3 q4 => by rw [w2 q q2, bq q q3 q4, aq q q1], fun k k1 k2 k3 => by rw [w47, a47, if_neg k3, if_neg k2, if_neg k1], ?_⟩
  · have e1 : σ.1 64 1 = nI (sm (σ.1 171)) := rl_m hR
    have e2 : (kI σ 47 6 (nI (sm (σ.1 171)))).1 61 6 = nI (pw (σ.1 171)) := rl_p hR
    have e3 : (kI (kI σ 47 6 (nI (sm (σ.1 171)))) 47 7 (nI (pw (σ.1 171)))).1 61 7 = nI (sc (σ.1 171)) := rl_c hR
    unfold f_Hat_seats f_Seating_find
    simp only [fl, fmN, mm_lt, Nat.reduceAdd, Option.bind_some, lt_t, lt_f, le_t, le_f, eq_f, eq_self, nI_add, nI_mul, nI_sub, ↓reduceIte, Nat.zero_add, e1, e2, e3]
    rw [ea, row_copy (o := 56) (o1 := 77) (n := 8) rfl rfl (by decide) (by decide)]
    simp only [Option.bind_some]
    rw [row_fill (o := 54) (n := 4) rfl (by decide)]
    simp only [Option.bind_some]
    rw [eb, ew]
    simp only [Option.bind_some, hx]
  · rw [w2 55 (by decide), b55 v (by omega), b_nI0, decide_eq_false (by omega : ¬ i < 0), Bool.false_and]
  · rw [w3, ← eb, ← ea]; rfl
theorem kp_47 {A : Nat → Bool} {l : List Nat} (hl : ∀ q, q ∈ l → nw A q = true) (h : ∀ q, q ∉ l → q ≠ 47 → m.1 q = σ.1 q) (h4 : A 1047 = false → m.1 47 1 = σ.1 47 1) (h2 : m.2 = σ.2) : kp A σ m := by
  have h0 : ∀ q, nw A q = false → q ∉ l := fun q hq hm => by rw [hl q hm] at hq; cases hq
  refine ⟨fun q a b => ⟨?_, by rw [h2]⟩, fun k _ _ => by rw [h 0 (h0 0 (by simp [nw])) (by decide)], fun _ => by rw [h 40 (h0 40 (by simp [nw])) (by decide)], h4, fun k _ _ => by rw [h 169 (h0 169 (by simp [nw])) (by decide)]⟩
  refine h q (h0 q (by simp [nw, a, b])) ?_
  rintro rfl
  exact absurd a (by decide)
theorem nm5 {q a b c d e : Nat} (h : q ∉ [a, b, c, d, e]) : q ≠ a ∧ q ≠ b ∧ q ≠ c ∧ q ≠ d ∧ q ≠ e := by
  refine ⟨?_, ?_, ?_, ?_, ?_⟩
  · rintro rfl; exact h (by simp)
  · rintro rfl; exact h (by simp)
  · rintro rfl; exact h (by simp)
  · rintro rfl; exact h (by simp)
  · rintro rfl; exact h (by simp)
theorem op_seats (hR : RL σ) : ∃ r m1 m2, f_Hat_seats z_Law σ 0 = some (r, m1) ∧ f_Mod_seats z_Law m1 169 = some (r, m2) ∧ RL m2 := by
  have hv := rl_v (rs hR)
  have m8 := iv_m8 hv
  have hP := iv_p hv
  have hC := iv_c hv
  obtain ⟨w, hw, ws, wi, wq, w47, w2⟩ := hat_prel (rs hR)
  obtain ⟨S, eS⟩ : ∃ S, σ.1 171 = S := ⟨_, rfl⟩
  rw [eS] at hv m8 hP hC ws wi
  have hPC : pw S * sc S ≤ 4 * 8 := Nat.mul_le_mul hP.2.2 hC.2.2
  -- what the class finds
  have hat : (∃ b' p' m1, b' ≤ sm S ∧ sf S (sm S) (fun _ => 0) 0 b' = some p' ∧ (∀ c, c < b' → sf S (sm S) (fun _ => 0) 0 c = none) ∧ f_Hat_seats z_Law σ 0 = some (nI b', m1) ∧ (∀ q, q ≠ 49 → q ≠ 51 → q ≠ 53 → q ≠ 55 → q ≠ 57 → q ≠ 47 → m1.1 q = σ.1 q) ∧ m1.2 = σ.2 ∧ m1.1 47 1 = nI (sm S) ∧ ∀ i, i < sm S → m1.1 49 i = nI (p' i)) ∨ (∃ m1, (∀ c, c ≤ sm S → sf S (sm S) (fun _ => 0) 0 c = none) ∧ f_Hat_seats z_Law σ 0 = some (mN, m1) ∧ (∀ q, q ≠ 51 → q ≠ 53 → q ≠ 55 → q ≠ 57 → q ≠ 47 → m1.1 q = σ.1 q) ∧ m1.2 = σ.2 ∧ m1.1 47 1 = σ.1 47 1) := by
    by_cases hroom : sm S ≤ pw S * sc S
    · rcases hat_moves hv hroom (sm S + 1) 0 w (by omega) ws wi with ⟨b', p', m1, a0, a1, a2, a3, a4, a5, a6, a7, a8, a9⟩ | ⟨m1, a1, a2, a3, a4⟩
      · exact Or.inl ⟨b', p', m1, a1, a2, fun c hc => a3 c (by omega) hc, by rw [hw _ a4]; rfl, fun q q1 q2 q3 q4 q5 q6 => (a5 q q2 q4 q1 q6).trans (wq q q6 q3 q4 q5), a7.trans w2, a8, a9⟩
      · exact Or.inr ⟨m1, fun c hc => a1 c (by omega) hc, by rw [hw _ a2]; rfl, fun q q1 q2 q3 q4 q5 => (a3 q q1 q3).trans (wq q q5 q2 q3 q4), a4.trans w2, by rw [a3 47 (by decide) (by decide)]; exact w47 1 (by decide) (by decide) (by decide)⟩
    · have hd : mm_lp (f_Seating_find_L78 z_Law 47 61 74) (nI 0, w) = some (.inr w) := by
        refine mm_lp_done ?_
        unfold f_Seating_find_L78
        simp (disch := omega) only [fl, fmN, mm_lt, Nat.reduceAdd, Option.bind_some, lt_t, lt_f, le_t, le_f, eq_f, eq_self, nI_add, nI_mul, nI_sub, ↓reduceIte, ws.1, ws.2.1, ws.2.2.1]
      refine Or.inr ⟨w, fun c hc => ?_, by rw [hw _ hd]; rfl, fun q q1 q2 q3 q4 q5 => wq q q5 q2 q3 q4, w2, w47 1 (by decide) (by decide) (by decide)⟩
      cases e : sf S (sm S) (fun _ => 0) 0 c with
      | none => rfl
      | some p' => exact absurd (sf_room e) hroom
  -- what the reference finds
  have md : ∀ u : Mm, u.1 171 = S → (sm S = 0 ∧ ∃ m2, f_Mod_seats z_Law u 169 = some (nI 0, m2) ∧ (∀ q, q ≠ 182 → q ≠ 183 → q ≠ 169 → m2.1 q = u.1 q) ∧ (∀ k, k ≠ 0 → k ≠ 35 → m2.1 169 k = u.1 169 k) ∧ m2.2 = u.2 ∧ m2.1 169 35 = nI 0) ∨ (sm S ≠ 0 ∧ ∃ b2 p2 m2, b2 < 1000000000 ∧ sf S (sm S) (fun _ => 0) 0 b2 = some p2 ∧ (∀ c, c < b2 → sf S (sm S) (fun _ => 0) 0 c = none) ∧ f_Mod_seats z_Law u 169 = some (nI b2, m2) ∧ (∀ q, q ≠ 182 → q ≠ 183 → q ≠ 169 → m2.1 q = u.1 q) ∧ (∀ k, k ≠ 0 → k ≠ 35 → m2.1 169 k = u.1 169 k) ∧ m2.2 = u.2 ∧ m2.1 169 35 = nI (sm S) ∧ ∀ i, i < sm S → m2.1 183 i = nI (p2 i)) ∨ (sm S ≠ 0 ∧ ∃ m2, (∀ c, c < 1000000000 → sf S (sm S) (fun _ => 0) 0 c = none) ∧ f_Mod_seats z_Law u 169 = some (mN, m2) ∧ (∀ q, q ≠ 182 → q ≠ 169 → m2.1 q = u.1 q) ∧ (∀ k, k ≠ 0 → m2.1 169 k = u.1 169 k) ∧ m2.2 = u.2) := by
    intro u hs
    have e1 : (kI (kI u 169 0 (nI 0)) 182 0 mN).1 171 = S := hs
    by_cases h0 : sm S = 0
    · refine Or.inl ⟨h0, kI (kI (kI u 169 0 (nI 0)) 182 0 mN) 169 35 (nI 0), ?_, fun q q1 q2 q3 => by rw [kI_o _ _ _ _ q3, kI_o _ _ _ _ q1, kI_o _ _ _ _ q3], fun k k1 k2 => by rw [kI_at, if_neg k2, kI_o _ _ _ _ (by decide), kI_at, if_neg k1], rfl, rfl⟩
      unfold f_Mod_seats
      simp (disch := omega) only [fl, fmN, mm_lt, Nat.reduceAdd, Option.bind_some, lt_t, lt_f, le_t, le_f, eq_f, eq_self, nI_add, nI_mul, nI_sub, ↓reduceIte, zq_182, zq_171, st_nI, ld_nI, e1, iv_m hv, h0]
    · right
      obtain ⟨d, hd⟩ : ∃ d, sm S = d + 1 := ⟨sm S - 1, by omega⟩
      obtain ⟨b2, m2, a1, a2, a3, a4, a5, a6⟩ := md_seat hv d 0 (by omega) (pw S) 0 (fun _ => 0) (kI (kI u 169 0 (nI 0)) 182 0 mN) 1000000000 0 0 (by omega) e1 (fun j hj => absurd hj (by omega)) (fun j hj => absurd hj (by omega)) (by rw [kI_at, if_pos rfl]; decide) (Nat.le_refl _) (Nat.le_refl _) rfl
      rw [Nat.sub_zero] at a6
      have hsf : ∀ b, fsome (sfc S d (fun _ => 0) 0 b) 0 (pw S) = sf S (sm S) (fun _ => 0) 0 b := fun b => by rw [hd, sf_succ]
      have f171 : m2.1 171 = S := by rw [a3 171 (by decide) (by decide)]; exact e1
      have fend : mm_lp (f_Mod_seats_L36 z_Law 169) (nI b2, nI 0, nI 0 + mN, m2) = some (nI b2, m2) := by
        refine mm_lp_done ?_
        unfold f_Mod_seats_L36
        exact if_pos (show nI 0 + mN < 0 by decide)
      have fmod : f_Mod_seats z_Law u 169 = if nI b2 = nI 1000000000 then some (mN, m2) else some (nI b2, kI m2 169 35 (nI (sm S))) := by
        unfold f_Mod_seats
        simp (disch := omega) only [fl, fmN, mm_lt, Nat.reduceAdd, Option.bind_some, eq_f, ↓reduceIte, zq_182, zq_171, st_nI, ld_nI, e1, iv_m hv]
        have e9 := a1.trans fend
        rw [Nat.add_zero] at e9
        rw [e9]
        simp (disch := omega) only [Option.bind_some, ld_nI, f171, iv_m hv]
      rcases a6 with ⟨b, p', c1, c2, c3, c4, c5⟩ | ⟨c1, c2, c3⟩
      · left
        rw [Nat.zero_add] at c3 c4
        subst c4
        refine ⟨h0, b2, p', kI m2 169 35 (nI (sm S)), c3, (hsf b2) ▸ c1, fun c hc => (hsf c) ▸ c2 c hc, ?_, fun q q1 q2 q3 => by rw [kI_o _ _ _ _ q3, a3 q q1 q2, kI_o _ _ _ _ q1, kI_o _ _ _ _ q3], fun k k1 k2 => by rw [kI_at, if_neg k2, a3 169 (by decide) (by decide), kI_o _ _ _ _ (by decide), kI_at, if_neg k1], a4, kI_at.trans (if_pos rfl), fun i hi => by rw [kI_o _ _ _ _ (by decide)]; exact c5 i hi⟩
        rw [fmod, if_neg (fun q => by have := nI_inj (by omega) (by decide) q; omega)]
      · right
        refine ⟨h0, m2, fun c hc => (hsf c) ▸ c1 c (by omega), ?_, fun q q1 q2 => ?_, fun k k1 => by rw [a3 169 (by decide) (by decide), kI_o _ _ _ _ (by decide), kI_at, if_neg k1], a4⟩
        · rw [fmod, c2, if_pos rfl]
        · by_cases g : q = 183
          · subst g
            funext i
            rw [c3 i, kI_o _ _ _ _ (by decide), kI_o _ _ _ _ (by decide)]
          · rw [a3 q q1 g, kI_o _ _ _ _ q1, kI_o _ _ _ _ q2]
  rcases hat with ⟨b', p', m1, a1, a2, a3, a4, a5, a6, a7, a8⟩ | ⟨m1, a1, a2, a3, a4, a5⟩
  · have f171 : m1.1 171 = S := by rw [a5 171 (by decide) (by decide) (by decide) (by decide) (by decide) (by decide)]; exact eS
    have k1 : kp AS σ m1 := kp_47 (l := [49, 51, 53, 55, 57]) (by decide) (fun q hq h47 => by
      have := nm5 hq
      exact a5 q this.1 this.2.1 this.2.2.1 this.2.2.2.1 this.2.2.2.2 h47) (fun q => by cases q) a6
    rcases md m1 f171 with ⟨h0, m2, g1, g2, g3, g4, g5⟩ | ⟨h0, b2, p2, m2, g0, g1, g2, g3, g4, g5, g6, g7, g8⟩ | ⟨h0, m2, g1, -⟩
    · have hb0 : b' = 0 := by omega
      subst hb0
      refine ⟨nI 0, m1, m2, a4, g1, RL_Se hR (kp_tr k1 ?_) ⟨?_, ?_, fun i hi => ?_⟩⟩
      · refine ⟨fun q q1 q2 => ⟨?_, by rw [g4]⟩, fun k _ _ => by rw [g2 0 (by decide) (by decide) (by decide)], fun _ => by rw [g2 40 (by decide) (by decide) (by decide)], fun q => (by cases q), fun k hk q => ?_⟩
        · exact g2 q (by rintro rfl; exact absurd q1 (by decide)) (by rintro rfl; exact absurd q2 (by decide)) (by rintro rfl; exact absurd q1 (by decide))
        · exact g3 k (by omega) (by rintro rfl; exact absurd q (by decide))
      · rw [g2 47 (by decide) (by decide) (by decide), a7, g5, h0]
      · rw [g2 47 (by decide) (by decide) (by decide), a7]; exact Or.inr ⟨0, by decide, by rw [h0]⟩
      · rw [g2 47 (by decide) (by decide) (by decide), a7, h0] at hi
        exact absurd hi (by rw [nI_clamp (by decide)]; omega)
    · have hbb : b2 = b' := by
        rcases Nat.lt_or_ge b2 b' with q | q
        · rw [a3 b2 q] at g1; cases g1
        · rcases Nat.lt_or_ge b' b2 with q2 | q2
          · rw [g2 b' q2] at a2; cases a2
          · omega
      subst hbb
      rw [a2] at g1
      cases g1
      refine ⟨nI b2, m1, m2, a4, g3, RL_Se hR (kp_tr k1 ?_) ⟨?_, ?_, fun i hi => ?_⟩⟩
      · refine ⟨fun q q1 q2 => ⟨?_, by rw [g6]⟩, fun k _ _ => by rw [g4 0 (by decide) (by decide) (by decide)], fun _ => by rw [g4 40 (by decide) (by decide) (by decide)], fun q => (by cases q), fun k hk q => ?_⟩
        · exact g4 q (by rintro rfl; exact absurd q1 (by decide)) (by rintro rfl; exact absurd q2 (by decide)) (by rintro rfl; exact absurd q1 (by decide))
        · exact g5 k (by omega) (by rintro rfl; exact absurd q (by decide))
      · rw [g4 47 (by decide) (by decide) (by decide), a7, g7]
      · rw [g4 47 (by decide) (by decide) (by decide), a7]; exact Or.inr ⟨sm S, by omega, rfl⟩
      · rw [g4 47 (by decide) (by decide) (by decide), a7, nI_clamp (by omega)] at hi
        rw [g4 49 (by decide) (by decide) (by decide), a8 i hi, g8 i hi]
    · rw [g1 b' (by omega)] at a2; cases a2
  · have f171 : m1.1 171 = S := by rw [a3 171 (by decide) (by decide) (by decide) (by decide) (by decide)]; exact eS
    have k1 : kp no σ m1 := kp_47 (l := [51, 53, 55, 57, 57]) (by decide) (fun q hq h47 => by
      have := nm5 hq
      exact a3 q this.1 this.2.1 this.2.2.1 this.2.2.2.1 h47) (fun _ => a5) a4
    rcases md m1 f171 with ⟨h0, m2, g1, g2, g3, g4, g5⟩ | ⟨h0, b2, p2, m2, g0, g1, g2, -⟩ | ⟨h0, m2, g1, g2, g3, g4, g5⟩
    · have := a1 0 (by omega)
      rw [h0] at this
      cases this
    · have := sf_low g1 g2
      rw [a1 b2 this] at g1; cases g1
    · refine ⟨mN, m1, m2, a2, g2, RL_kp hR (kp_tr k1 ?_)⟩
      refine ⟨fun q q1 q2 => ⟨g3 q (by rintro rfl; exact absurd q1 (by decide)) (by rintro rfl; exact absurd q1 (by decide)), by rw [g5]⟩, fun k _ _ => by rw [g3 0 (by decide) (by decide)], fun _ => by rw [g3 40 (by decide) (by decide)], fun q => by rw [g3 47 (by decide) (by decide)], fun k hk q => g4 k (by omega)⟩
end SEAT4
