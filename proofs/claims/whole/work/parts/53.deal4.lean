section DEAL4
variable {σ m u : Mm} {S : Nat → Int32}
theorem kp_two {a b : Nat} (h : ∀ q, q ≠ a → q ≠ b → m.1 q = σ.1 q) (h2 : m.2 = σ.2) {A : Nat → Bool} (ha : nw A a = true) (hb : nw A b = true) : kp A σ m :=
  kp_fr (l := [a, b]) ⟨fun q hq => h q (by rintro rfl; exact hq List.mem_cons_self) (by rintro rfl; exact hq (List.mem_cons_of_mem _ List.mem_cons_self)), fun q _ => by rw [h2]⟩ (fun q hq => by
    rcases List.mem_cons.mp hq with e | e
    · rw [e]; exact ha
    · rw [List.mem_singleton.mp e]; exact hb)
theorem op_dealings (hR : RL σ) : ∃ r m1 m2, f_Hat_dealings z_Law σ 0 = some (r, m1) ∧ f_Mod_dealings z_Law m1 169 = some (r, m2) ∧ RL m2 := by
  have hv := rl_v (rs hR)
  obtain ⟨m1, e, a1, a2, a3, a4, a5⟩ := hat_lay (rs hR) (but := mN) (hb := none) (D := sm (σ.1 171)) (Or.inl ⟨rfl, rfl, rfl⟩)
  have hR1 : RL m1 := RL_kp hR (kp_two a4 a5 (by decide) (by decide))
  have hs1 : (kI m1 169 0 (nI 0)).1 171 = σ.1 171 := a4 171 (by decide) (by decide)
  obtain ⟨m2, e2, b1, b2⟩ := md_ways (v1 := mN) (h := 8) (x := 0) hs1 hv (by decide) (fun k hk => by rw [mN_ne k (by omega)]; exact (eq_false (by omega)).symm)
  refine ⟨dl (σ.1 171) 8 0, m1, m2, ?_, ?_, RL_kp (rl_th hR1) (kp_two b1 b2 (by decide) (by decide))⟩
  · unfold f_Hat_dealings
    have e9 := hat_ww (w := nI 0) (iv_n10 hv) (iv_m8 hv) a1 a2 a3
    rw [dl_all hv] at e9
    simp only [fl, fmN, mm_lt, Nat.reduceAdd, Option.bind_some, lt_t, lt_f, le_t, le_f, eq_f, eq_self, nI_add, nI_mul, nI_sub, ↓reduceIte, e, e9]
  · unfold f_Mod_dealings
    simp only [fl, fmN, mm_lt, Nat.reduceAdd, Option.bind_some, lt_t, lt_f, le_t, le_f, eq_f, eq_self, nI_add, nI_mul, nI_sub, ↓reduceIte, e2]
theorem op_dealt (hR : RL σ) (a b : Int32) : ∃ r m1 m2, f_Hat_dealt z_Law σ 0 a b = some (r, m1) ∧ f_Mod_dealt z_Law m1 169 a b = some (r, m2) ∧ RL m2 := by
  have hv := rl_v (rs hR)
  have hm := rl_m (rs hR)
  have hn := rl_n (rs hR)
  have m8 := iv_m8 hv
  have n10 := iv_n10 hv
  have hs0 : (kI σ 169 0 (nI 0)).1 171 = σ.1 171 := rfl
  rcases arg_of a (sm (σ.1 171)) (by omega) with ⟨h, hh, rfl⟩ | h1
  · rcases arg_of b (sn (σ.1 171)) (by omega) with ⟨x, hx, rfl⟩ | h2
    · obtain ⟨m1, e, a1, a2, a3, a4, a5⟩ := hat_lay (rs hR) (but := nI h) (hb := some h) (D := sm (σ.1 171) - 1) (Or.inr ⟨h, hh, rfl, rfl, by omega⟩)
      have hR1 : RL m1 := RL_kp hR (kp_two a4 a5 (by decide) (by decide))
      have hs1 : (kI m1 169 0 (nI 0)).1 171 = σ.1 171 := a4 171 (by decide) (by decide)
      obtain ⟨m2, e2, b1, b2⟩ := md_ways (v1 := nI h) (h := h) (x := x) hs1 hv (by omega) (fun k hk => propext (nI_eq (by omega) (by omega)))
      have e88 : m1.1 88 h = rf (σ.1 171) h (sr (σ.1 171)) := by rw [a4 88 (by decide) (by decide)]; exact (rl_S (rs hR)).2.2.2.2.2.2.2.1 h hh
      refine ⟨dl (σ.1 171) h x, m1, m2, ?_, ?_, RL_kp (rl_th hR1) (kp_two b1 b2 (by decide) (by decide))⟩
      · unfold f_Hat_dealt
        simp (disch := omega) only [fl, fmN, mm_lt, Nat.reduceAdd, Option.bind_some, lt_t, lt_f, le_t, le_f, eq_f, eq_self, nI_add, nI_mul, nI_sub, ↓reduceIte, nm_has hm hh, nm_has hn hx, e, hat_have hv hh hx e88 a1 a2 a3]
      · unfold f_Mod_dealt
        simp (disch := omega) only [fl, fmN, mm_lt, Nat.reduceAdd, Option.bind_some, lt_t, lt_f, le_t, le_f, eq_f, eq_self, nI_add, nI_mul, nI_sub, ↓reduceIte, md_isH hv hs1 hh, md_isS hv hs1 hx, e2]
    · refine ⟨mN, σ, kI σ 169 0 (nI 0), ?_, ?_, rl_th hR⟩
      · unfold f_Hat_dealt
        simp (disch := omega) only [fl, fmN, mm_lt, Nat.reduceAdd, Option.bind_some, lt_t, lt_f, le_t, le_f, eq_f, eq_self, nI_add, nI_mul, nI_sub, ↓reduceIte, nm_has hm hh, nm_hasnt hn h2]
      · unfold f_Mod_dealt
        simp (disch := omega) only [fl, fmN, mm_lt, Nat.reduceAdd, Option.bind_some, lt_t, lt_f, le_t, le_f, eq_f, eq_self, nI_add, nI_mul, nI_sub, ↓reduceIte, md_isH hv hs0 hh, md_isntS hv hs0 h2]
  · refine ⟨mN, σ, kI σ 169 0 (nI 0), ?_, ?_, rl_th hR⟩
    · unfold f_Hat_dealt
      simp (disch := omega) only [fl, fmN, mm_lt, Nat.reduceAdd, Option.bind_some, lt_t, lt_f, le_t, le_f, eq_f, eq_self, nI_add, nI_mul, nI_sub, ↓reduceIte, nm_hasnt hm h1]
    · unfold f_Mod_dealt
      simp (disch := omega) only [fl, fmN, mm_lt, Nat.reduceAdd, Option.bind_some, lt_t, lt_f, le_t, le_f, eq_f, eq_self, nI_add, nI_mul, nI_sub, ↓reduceIte, md_isntH hv hs0 h1]
def cdf (S : Nat → Int32) (h x : Nat) (b : Int32) : Int32 := if dl S h x ≤ nI 0 then b else b ||| nI 1 <<< (nI x &&& nI 31)
theorem op_could (hR : RL σ) (a : Int32) : ∃ r m1 m2, f_Hat_could z_Law σ 0 a = some (r, m1) ∧ f_Mod_could z_Law m1 169 a = some (r, m2) ∧ RL m2 := by
  have hv := rl_v (rs hR)
  have hm := rl_m (rs hR)
  have m8 := iv_m8 hv
  have n10 := iv_n10 hv
  have hs0 : (kI σ 169 0 (nI 0)).1 171 = σ.1 171 := rfl
  rcases arg_of a (sm (σ.1 171)) (by omega) with ⟨h, hh, rfl⟩ | h1
  · obtain ⟨m1, e, a1, a2, a3, a4, a5⟩ := hat_lay (rs hR) (but := nI h) (hb := some h) (D := sm (σ.1 171) - 1) (Or.inr ⟨h, hh, rfl, rfl, by omega⟩)
    have hR1 : RL m1 := RL_kp hR (kp_two a4 a5 (by decide) (by decide))
    have hs1 : (kI m1 169 0 (nI 0)).1 171 = σ.1 171 := a4 171 (by decide) (by decide)
    have hn1 : m1.1 62 1 = nI (sn (σ.1 171)) := by rw [a4 62 (by decide) (by decide)]; exact rl_n (rs hR)
    have e88 : m1.1 88 h = rf (σ.1 171) h (sr (σ.1 171)) := by rw [a4 88 (by decide) (by decide)]; exact (rl_S (rs hR)).2.2.2.2.2.2.2.1 h hh
    have L35 : mm_lp (f_Hat_could_L35 z_Law m1 0 (nI h)) (nI 0, nI 0) = some (fo (cdf (σ.1 171) h) (sn (σ.1 171)) (nI 0)) := by
      refine lp_fo0 _ _ (fun x v hx => ?_) (fun v => ?_)
      · unfold f_Hat_could_L35 cdf
        simp (disch := omega) only [fl, fmN, mm_lt, Nat.reduceAdd, Option.bind_some, lt_t, lt_f, le_t, le_f, eq_f, eq_self, nI_add, nI_mul, nI_sub, ↓reduceIte, hn1, hat_have hv hh hx e88 a1 a2 a3]
        split <;> rfl
      · unfold f_Hat_could_L35
        simp (disch := omega) only [fl, fmN, mm_lt, Nat.reduceAdd, Option.bind_some, lt_t, lt_f, le_t, le_f, eq_f, eq_self, nI_add, nI_mul, nI_sub, ↓reduceIte, hn1]
    have L19 : ∃ q, mm_lp (f_Mod_could_L19 z_Law 169 (nI h)) (nI 0, nI 0, kI m1 169 0 (nI 0)) = some q ∧ q.1 = fo (cdf (σ.1 171) h) (sn (σ.1 171)) (nI 0) ∧ (∀ q', q' ≠ 184 → q' ≠ 185 → q.2.1 q' = (kI m1 169 0 (nI 0)).1 q') ∧ q.2.2 = (kI m1 169 0 (nI 0)).2 := by
      refine lp_ix (fun x t => t.1 = fo (cdf (σ.1 171) h) x (nI 0) ∧ t.2.1 = nI x ∧ (∀ q', q' ≠ 184 → q' ≠ 185 → t.2.2.1 q' = (kI m1 169 0 (nI 0)).1 q') ∧ t.2.2.2 = (kI m1 169 0 (nI 0)).2) (sn (σ.1 171)) (fun x t hx hI => ?_) (fun t hI => ?_) ⟨rfl, rfl, fun _ _ _ => rfl, rfl⟩
      · obtain ⟨b, c, q⟩ := t
        obtain ⟨g1, g2, g3, g4⟩ := hI
        dsimp only at g1 g2 g3 g4
        subst g1; subst g2
        have q171 : q.1 171 = σ.1 171 := by rw [g3 171 (by decide) (by decide)]; exact hs1
        obtain ⟨w, e2, b1, b2⟩ := md_ways (v1 := nI h) (h := h) (x := x) q171 hv (by omega) (fun k hk => propext (nI_eq (by omega) (by omega)))
        refine ⟨(fo (cdf (σ.1 171) h) (x + 1) (nI 0), nI (x + 1), w), ?_, rfl, rfl, fun q' f1 f2 => (b1 q' f1 f2).trans (g3 q' f1 f2), b2.trans g4⟩
        unfold f_Mod_could_L19
        simp (disch := omega) only [fl, fmN, mm_lt, Nat.reduceAdd, Option.bind_some, lt_t, lt_f, le_t, le_f, eq_f, eq_self, nI_add, nI_mul, nI_sub, ↓reduceIte, zq_171, ld_nI, q171, iv_n hv, e2]
        show _ = some (Sum.inl (cdf (σ.1 171) h x (fo (cdf (σ.1 171) h) x (nI 0)), _, _))
        unfold cdf
        by_cases h9 : dl (σ.1 171) h x ≤ nI 0
        · rw [if_pos h9, if_pos h9]
          congr 3
          apply b_ext
          intro i hi
          rw [b_or, b_nI0, Bool.or_false]
        · rw [if_neg h9, if_neg h9]
      · obtain ⟨b, c, q⟩ := t
        obtain ⟨g1, g2, g3, g4⟩ := hI
        dsimp only at g1 g2 g3 g4
        subst g1; subst g2
        have q171 : q.1 171 = σ.1 171 := by rw [g3 171 (by decide) (by decide)]; exact hs1
        refine ⟨(_, q), ?_, rfl, g3, g4⟩
        unfold f_Mod_could_L19
        simp (disch := omega) only [fl, fmN, mm_lt, Nat.reduceAdd, Option.bind_some, lt_t, lt_f, le_t, le_f, eq_f, eq_self, nI_add, nI_mul, nI_sub, ↓reduceIte, zq_171, ld_nI, q171, iv_n hv]
    obtain ⟨⟨r, m2⟩, e2, b0, b1, b2⟩ := L19
    dsimp only at b0 b1 b2
    subst b0
    refine ⟨fo (cdf (σ.1 171) h) (sn (σ.1 171)) (nI 0), m1, m2, ?_, ?_, RL_kp (rl_th hR1) (kp_two b1 b2 (by decide) (by decide))⟩
    · unfold f_Hat_could
      simp (disch := omega) only [fl, fmN, mm_lt, Nat.reduceAdd, Option.bind_some, lt_t, lt_f, le_t, le_f, eq_f, eq_self, nI_add, nI_mul, nI_sub, ↓reduceIte, nm_has hm hh, e, L35]
    · unfold f_Mod_could
      simp (disch := omega) only [fl, fmN, mm_lt, Nat.reduceAdd, Option.bind_some, lt_t, lt_f, le_t, le_f, eq_f, eq_self, nI_add, nI_mul, nI_sub, ↓reduceIte, md_isH hv hs1 hh, e2]
  · refine ⟨mN, σ, kI σ 169 0 (nI 0), ?_, ?_, rl_th hR⟩
    · unfold f_Hat_could
      simp (disch := omega) only [fl, fmN, mm_lt, Nat.reduceAdd, Option.bind_some, lt_t, lt_f, le_t, le_f, eq_f, eq_self, nI_add, nI_mul, nI_sub, ↓reduceIte, nm_hasnt hm h1]
    · unfold f_Mod_could
      simp (disch := omega) only [fl, fmN, mm_lt, Nat.reduceAdd, Option.bind_some, lt_t, lt_f, le_t, le_f, eq_f, eq_self, nI_add, nI_mul, nI_sub, ↓reduceIte, md_isntH hv hs0 h1]
end DEAL4
