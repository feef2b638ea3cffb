section ISL6
variable {M0 U0 a b m u : Mm} {t : Nat → Nat} {sz lim κ v ap np : Nat} {l : List Nat} {i : Nat}
theorem il_wants (hT : Tp M0 U0 t sz lim) (h : At M0 U0 sz lim a b m u κ l v ap np) (hκ : κ = 1) (hD : Di i a b) : Sm M0 U0 (Ln M0 U0 sz lim np κ (fun a b => a.1 1 2 = nI i ∧ b.1 169 19 = nI i ∧ Di (i + 1) (kI a 1 2 (nI (i + 1))) (kI b 169 19 (nI (i + 1))))) (f_Reader_wantsLine z_Law m 1) (f_Mod_readWants z_Law u 169) := by
  obtain ⟨d1, d2, d3, d4, d5, d6, d7, d8, d9, hC⟩ := id hD
  have n10 := hC.2.2.2.1.1.2
  have m8 := hC.2.2.2.1.2.1.2
  obtain ⟨m1, u1, κ1, l1, v1, ap1, np1, z1, z2, h1, g1⟩ := at_step hT h (Or.inl hκ)
  obtain ⟨c1, c2, c3, c4, c5, c6, c7⟩ := il_N h1 hC rfl rfl rfl rfl rfl
  have H0 : b.1 172 0 = nI (sn (b.1 172)) := hC.2.2.2.1.1.1
  have H1 : b.1 172 1 = nI (sm (b.1 172)) := hC.2.2.2.1.2.1.1
  unfold f_Reader_wantsLine f_Mod_readWants
  simp only [fl, fmN, mm_lt, Nat.reduceAdd]
  rw [z1, z2, Option.bind_some, Option.bind_some, c_one h1 (o := 9) (n := sm (b.1 172)) (r := 8) (N := fun k => Nb b (10 + k)) rfl (by decide) m8 c2 c4, c5, zq_172, ld_nI (by decide) (by decide), H1, Option.bind_some, Option.bind_some, u_tnm hT h1 (f := 28) (n := sm (b.1 172)) (by omega), pnm_c (N := fun k => u1.2 174 (28 + k)) (N' := fun k => Nb b (10 + k)) (fun k hk => c7 k)]
  by_cases hN1 : κ1 = 1 ∧ rwd l1 = mN
  · rw [if_pos hN1, if_pos hN1]
    rcases fd_cases (pnm (fun k => Nb b (10 + k)) l1) (sm (b.1 172)) with ⟨k, hk, -, -, ef⟩ | ⟨-, ef⟩
    · have hkn : ¬ nI k = mN := hq_ne (n := k) (by omega)
      rw [ef, if_neg hkn, if_neg hkn]
      have h2 := au_g (ac_5 h1 (k := 5) (x := nI k) (Or.inr rfl)) (k := 18) (x := nI k) (Or.inr rfl)
      obtain ⟨m2, u2, κ2, l2, v2, ap2, np2, z3, z4, h3, g2⟩ := at_step hT h2 (Or.inl hN1.1)
      have e18 : u2.1 169 18 = nI k := by rw [g2.2.2.2 18 (by decide) (by decide) (by decide) (by decide) (by decide)]; exact kI_e
      have x5 : (kI m1 1 5 (nI k)).1 1 5 = nI k := kI_e
      obtain ⟨q1, q2, q3, q4, q5, q6, q7⟩ := il_N h3 hC rfl rfl rfl rfl rfl
      simp (disch := omega) only [eq_f, ↓reduceIte, z4, Option.bind_some, x5, e18]
      rw [z3, Option.bind_some, c_one h3 (o := 7) (n := sn (b.1 172)) (r := 10) (N := Nb b) rfl (by decide) n10 q1 q3, u_isN hT h3, Option.bind_some, Option.bind_some]
      by_cases hN2 : κ2 = 1 ∧ rwd l2 = mN
      · rw [if_pos hN2, if_pos hN2]
        have uf := u_find h3 hN2.1 (f := 18) (n := sn (b.1 172)) (by omega)
        rw [pnm_c (N' := Nb b) (fun k hk => q6 k)] at uf
        simp (disch := omega) only [eq_f, ↓reduceIte, q5, ld_nI, H0, Option.bind_some, uf]
        rcases fd_cases (pnm (Nb b) l2) (sn (b.1 172)) with ⟨x, hx, -, -, ef2⟩ | ⟨-, ef2⟩
        · have hxn : ¬ nI x = mN := hq_ne (n := x) (by omega)
          rw [ef2, if_neg hxn]
          have y5 : (kI m2 1 5 (nI x)).1 1 5 = nI x := kI_e
          have hy5 := ac_5 h3 (k := 5) (x := nI x) (Or.inr rfl)
          have m18 : (kI m2 1 5 (nI x)).1 18 (10 * k + x) = b.1 172 (35 + 10 * k + x) - nI 1 := by
            rw [kI_o _ _ _ _ (by decide), h3.1.2.2.1.1 18 (by decide) (by decide)]; exact hC.1.2.2.2.2.2.2.2.2.1 k x (by omega) (by omega)
          have hwa : f_Island_wanted z_Law (kI m2 1 5 (nI x)) 6 (nI k) (nI x) = some (b.1 172 (35 + 10 * k + x) - nI 1) := by
            unfold f_Island_wanted
            simp only [fl, nI_mul, nI_add, Nat.reduceAdd]
            rw [show k * 10 + x = 10 * k + x by omega, row_atE (p := 18) rfl zq_18 (by omega) (by decide), m18]
            rfl
          simp (disch := omega) only [eq_f, lt_f, ↓reduceIte, y5, hwa, Option.bind_some, nI_mul, nI_add, ld_nI, q5]
          rcases hC.1.2.2.2.2.2.2.2.2.2 k x (by omega) (by omega) with e0 | e0
          · rw [e0, if_pos (show nI 0 - nI 1 = mN by decide), if_pos (show nI 0 ≤ nI 0 by decide)]
            obtain ⟨m3, u3, κ3, l3, v3, ap3, np3, z5, z6, h6, g3⟩ := at_step hT hy5 (Or.inl hN2.1)
            rw [z5, z6, Option.bind_some, Option.bind_some, c_isNum h6 (by decide) (by decide), u_takes h6 (by decide) (by decide), Option.bind_some]
            by_cases hK : κ3 = 2
            · rw [if_pos hK, if_pos hK]
              by_cases hR' : 0 ≤ v3 ∧ v3 ≤ 99
              · rw [if_pos hR', if_pos hR']
                have x26 : m3.1 2 6 = nI v3 := h6.2.1.2.2.2.2.1 hK
                have h7 := au_g (ac_I h6 (q := 18) (k := 10 * k + x) (x := nI v3) (by decide)) (k := 18) (x := nI v3) (Or.inr rfl)
                obtain ⟨m4, u4, κ4, l4, v4, ap4, np4, z7, z8, h8, g4⟩ := at_step hT h7 (Or.inr (Or.inl hK))
                have e18' : u4.1 169 18 = nI v3 := by rw [g4.2.2.2 18 (by decide) (by decide) (by decide) (by decide) (by decide)]; exact kI_e
                have h9 := au_I h8 (q := 172) (k := 35 + 10 * k + x) (x := nI (v3 + 1)) (Or.inl rfl)
                have hwt : f_Island_want z_Law m3 6 (nI k) (nI x) (nI v3) = some (kI m3 18 (10 * k + x) (nI v3)) := by
                  unfold f_Island_want
                  simp only [fl, nI_mul, nI_add, Nat.reduceAdd]
                  rw [show k * 10 + x = 10 * k + x by omega, row_putE (p := 18) rfl zq_18 (by omega) (by decide)]
                  rfl
                simp (disch := omega) only [eq_f, ↓reduceIte, x26, hwt, z7, z8, Option.bind_some, e18', nI_add, st_nI]
                refine sm_ok rfl rfl ⟨hκ, _, _, _, _, _, _, _, h9, Di_fin hD (Co_up (H := b.1 172) (N := Nb b) hC (by simp (disch := omega) only [kI_o, kI_f, kI_e]) (by simp (disch := omega) only [kI_o, kI_f, kI_e]) (fun k hk => (by simp (disch := omega) only [kI_o, kI_f, kI_e])) (fun x hx => (by simp (disch := omega) only [kI_o, kI_f, kI_e])) (fun x hx => (by simp (disch := omega) only [kI_o, kI_f, kI_e])) (by simp (disch := omega) only [kI_o, kI_f, kI_e]) (by simp (disch := omega) only [kI_o, kI_f, kI_e]) (by simp (disch := omega) only [kI_o, kI_f, kI_e]) (by simp (disch := omega) only [kI_o, kI_f, kI_e]) (by simp (disch := omega) only [kI_o, kI_f, kI_e]) rfl rfl ⟨(by simp (disch := omega) only [kI_o, kI_f, kI_e]; exact hC.1.2.2.1), pw_k (by simp (disch := omega) only [kI_o, kI_f, kI_e]) hC.2.2.2.1.2.2.1⟩ ⟨(by simp (disch := omega) only [kI_o, kI_f, kI_e]; exact hC.1.2.2.2.1), sc_k (by simp (disch := omega) only [kI_o, kI_f, kI_e]) hC.2.2.2.1.2.2.2.1⟩ (by simp (disch := omega) only [kI_o, kI_f, kI_e]; exact hC.1.2.2.2.2.1) (fun x hx => (by simp (disch := omega) only [kI_o, kI_f, kI_e]; exact hC.1.2.2.2.2.2.2.2.1 x hx)) (fun x y hx hy => (by simp (disch := omega) only [kI_o, kI_f, kI_e]; exact hC.2.2.2.1.2.2.2.2.2.2.2 x y hx hy)) (fun k2 x2 hk2 hx2 => ?_) (fun k2 x2 hk2 hx2 => ?_) (fun k hk => (by simp (disch := omega) only [kI_o, kI_f, kI_e]; exact hC.2.2.1.2 k hk))) (by simp (disch := omega) only [kI_o, kI_f, kI_e]) (by simp (disch := omega) only [kI_o, kI_f, kI_e]) (by simp (disch := omega) only [kI_o, kI_f, kI_e]) (by simp (disch := omega) only [kI_o, kI_f, kI_e]) (by simp (disch := omega) only [kI_o, kI_f, kI_e]; exact d5) (by simp (disch := omega) only [kI_o, kI_f, kI_e]; exact d6) (by simp (disch := omega) only [kI_o, kI_f, kI_e]; exact d7) (by simp (disch := omega) only [kI_o, kI_f, kI_e]) (by simp (disch := omega) only [kI_o, kI_f, kI_e]), fun g => ?_⟩
                · by_cases g : 10 * k2 + x2 = 10 * k + x
                  · rw [g, show 35 + 10 * k2 + x2 = 35 + 10 * k + x by omega]
                    simp (disch := omega) only [kI_o, kI_f, kI_e]
                    rw [nI_sub (by omega), Nat.add_sub_cancel]
                  · simp (disch := omega) only [kI_o, kI_f, kI_e]; exact hC.1.2.2.2.2.2.2.2.2.1 k2 x2 hk2 hx2
                · by_cases g : 10 * k2 + x2 = 10 * k + x
                  · right
                    rw [show 35 + 10 * k2 + x2 = 35 + 10 * k + x by omega]
                    simp (disch := omega) only [kI_o, kI_f, kI_e]
                    exact nI_lt (by omega) (by omega)
                  · simp (disch := omega) only [kI_o, kI_f, kI_e]; exact hC.1.2.2.2.2.2.2.2.2.2 k2 x2 hk2 hx2
                · have := g1.1 (Or.inl hN1.1); have := g2.1 (Or.inl hN2.1); have := g3.1 (Or.inr (Or.inl hK)); have := g4.1 (Or.inr (Or.inr g)); omega
              · rw [if_neg hR', if_neg hR']
                simp only [Option.bind_some, ↓reduceIte]
                exact sm_bad h6 (k := 2) (by decide) rfl rfl
            · rw [if_neg hK, if_neg hK]
              simp only [Option.bind_some, ↓reduceIte]
              exact sm_bad h6 (k := 1) (by decide) rfl rfl
          · rw [if_neg (sub1_ne e0), if_neg (fun g => (fa_of_lt e0).2.1 g)]
            unfold f_Mod_readWants_J73
            simp only [fl, c_fail hy5, u_bad h3, Option.bind_some, zb_0]
            exact sm_bad hy5 (k := 3) (by decide) rfl rfl
        · have hx2 := ac_5 h3 (k := 5) (x := mN) (Or.inr rfl)
          unfold f_Mod_readWants_J73
          simp (disch := omega) only [fl, ef2, ↓reduceIte, mN_lt, u_bad h3, Option.bind_some, zb_0]
          exact sm_bad hx2 (k := 3) (by decide) rfl rfl
      · rw [if_neg hN2, if_neg hN2]
        simp only [↓reduceIte, u_bad h3, Option.bind_some, zb_0]
        exact sm_bad h3 (k := 1) (by decide) rfl rfl
    · rw [ef, if_pos rfl, if_pos rfl]
      simp only [Option.bind_some, ↓reduceIte]
      exact sm_bad (au_g (ac_5 h1 (k := 5) (x := mN) (Or.inr rfl)) (k := 18) (x := mN) (Or.inr rfl)) (k := 3) (by decide) rfl rfl
  · rw [if_neg hN1, if_neg hN1]
    simp only [Option.bind_some, ↓reduceIte]
    exact sm_bad h1 (k := 1) (by decide) rfl rfl
end ISL6
