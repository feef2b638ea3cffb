section ISL4
variable {M0 U0 a b m u : Mm} {t : Nat → Nat} {sz lim κ v ap np : Nat} {l : List Nat} {i : Nat}
theorem il_sits (hT : Tp M0 U0 t sz lim) (h : At M0 U0 sz lim a b m u κ l v ap np) (hκ : κ = 1) (hD : Di i a b) : Sm M0 U0 (Ln M0 U0 sz lim np κ (fun a b => a.1 1 2 = nI i ∧ b.1 169 19 = nI i ∧ Di (i + 1) (kI a 1 2 (nI (i + 1))) (kI b 169 19 (nI (i + 1))))) (f_Reader_sitsLine z_Law m 1) (uSits z_Law u 169) := by
  obtain ⟨d1, d2, d3, d4, d5, d6, d7, d8, d9, hC⟩ := id hD
  have n10 := hC.2.2.2.1.1.2
  have m8 := hC.2.2.2.1.2.1.2
  obtain ⟨m1, u1, κ1, l1, v1, ap1, np1, z1, z2, h1, g1⟩ := at_step hT h (Or.inl hκ)
  obtain ⟨c1, c2, c3, c4, c5, c6, c7⟩ := il_N h1 hC rfl rfl rfl rfl rfl
  have u20 : u1.1 169 20 = a.1 1 8 := (h1.1.2.2.2.1.2 20 (by decide)).trans d7.symm
  have H1 : b.1 172 1 = nI (sm (b.1 172)) := hC.2.2.2.1.2.1.1
  have H2 := hC.2.2.2.1.2.2.1
  unfold f_Reader_sitsLine uSits
  simp only [fl, mm_lt, Nat.reduceAdd]
  rw [z1, z2, Option.bind_some, Option.bind_some, c_one h1 (o := 9) (n := sm (b.1 172)) (r := 8) (N := fun k => Nb b (10 + k)) rfl (by decide) m8 c2 c4, u_isN hT h1, Option.bind_some, Option.bind_some]
  by_cases hN1 : κ1 = 1 ∧ rwd l1 = mN
  · rw [if_pos hN1, if_pos hN1]
    have uf := u_find h1 hN1.1 (f := 28) (n := sm (b.1 172)) (by omega)
    rw [pnm_c (N' := fun k => Nb b (10 + k)) (fun k hk => c7 k)] at uf
    simp (disch := omega) only [eq_f, ↓reduceIte, zq_172, c5, ld_nI, H1, Option.bind_some, uf]
    rcases fd_cases (pnm (fun k => Nb b (10 + k)) l1) (sm (b.1 172)) with ⟨k, hk, -, -, ef⟩ | ⟨-, ef⟩
    · have hkn : ¬ nI k = mN := hq_ne (n := k) (by omega)
      rw [ef, if_neg hkn]
      have x5 : (kI m1 1 5 (nI k)).1 1 5 = nI k := kI_e
      have x8 : (kI m1 1 5 (nI k)).1 1 8 = a.1 1 8 := by rw [kI_f (by decide)]; exact h1.1.2.2.1.2.2 8 (by decide)
      have hx := ac_5 h1 (k := 5) (x := nI k) (Or.inr rfl)
      simp (disch := omega) only [eq_f, lt_f, ↓reduceIte, x5, x8, sh_bit, u20, md_has, bI_0, Option.bind_some]
      by_cases hb : bt (a.1 1 8) k = true
      · have hb' : ¬ bt (a.1 1 8) k = false := by rw [hb]; decide
        rw [if_pos hb, if_neg hb']
        unfold f_Mod_line_J199
        simp only [fl, c_fail hx, u_bad h1, Option.bind_some, zb_0]
        exact sm_bad hx (k := 3) (by decide) rfl rfl
      · have hb' : bt (a.1 1 8) k = false := by simpa using hb
        rw [if_neg hb, if_pos hb']
        obtain ⟨w, ew⟩ : ∃ w, a.1 1 8 ||| nI 1 <<< (nI k &&& nI 31) = w := ⟨_, rfl⟩
        rw [ew]
        have h2 := au_f (ac_f hx (k := 8) (x := w)) (k := 20) (x := w) (by decide)
        obtain ⟨m2, u2, κ2, l2, v2, ap2, np2, z3, z4, h3, g2⟩ := at_step hT h2 (Or.inl hN1.1)
        have x66 : m2.1 6 6 = nI (pw (b.1 172)) := by
          rw [h3.1.2.2.1.1 6 (by decide) (by decide), kI_o _ _ _ _ (by decide)]; exact hC.1.2.2.1.trans H2.1
        have u172 : u2.1 172 = b.1 172 := (h3.1.2.2.2.1.1 172 (by decide)).1.trans (kI_o _ _ _ _ (by decide))
        rw [z3, z4, Option.bind_some, Option.bind_some, x66, nI_sub H2.2.1, u172, H2.1, nI_sub H2.2.1, c_isNum h3 (by decide) (show pw (b.1 172) - 1 ≤ 99 by omega), u_takes h3 (by decide) (show pw (b.1 172) - 1 ≤ 99 by omega), Option.bind_some]
        by_cases hK : κ2 = 2
        · rw [if_pos hK, if_pos hK]
          by_cases hR' : 0 ≤ v2 ∧ v2 ≤ pw (b.1 172) - 1
          · rw [if_pos hR', if_pos hR']
            have x26 : m2.1 2 6 = nI v2 := h3.2.1.2.2.2.2.1 hK
            have h4 := au_g (ac_I h3 (q := 23) (k := k) (x := nI v2) (by decide)) (k := 18) (x := nI v2) (Or.inr rfl)
            obtain ⟨m3, u3, κ3, l3, v3, ap3, np3, z5, z6, h5, g3⟩ := at_step hT h4 (Or.inr (Or.inl hK))
            have e18 : u3.1 169 18 = nI v2 := by rw [g3.2.2.2 18 (by decide) (by decide) (by decide) (by decide) (by decide)]; exact kI_e
            have h6 := au_I h5 (q := 172) (k := 115 + k) (x := nI v2) (Or.inl rfl)
            simp (disch := omega) only [eq_f, ↓reduceIte, x26, row_putE (p := 23) rfl zq_23, z5, z6, Option.bind_some, e18, zq_172, nI_add, st_nI]
            refine sm_ok rfl rfl ⟨hκ, _, _, _, _, _, _, _, h6, Di_fin hD (Co_up (H := b.1 172) (N := Nb b) hC (by simp (disch := omega) only [kI_o, kI_f, kI_e]) (by simp (disch := omega) only [kI_o, kI_f, kI_e]) (fun k hk => (by simp (disch := omega) only [kI_o, kI_f, kI_e])) (fun x hx => (by simp (disch := omega) only [kI_o, kI_f, kI_e])) (fun x hx => (by simp (disch := omega) only [kI_o, kI_f, kI_e])) (by simp (disch := omega) only [kI_o, kI_f, kI_e]) (by simp (disch := omega) only [kI_o, kI_f, kI_e]) (by simp (disch := omega) only [kI_o, kI_f, kI_e]) (by simp (disch := omega) only [kI_o, kI_f, kI_e]) (by simp (disch := omega) only [kI_o, kI_f, kI_e]) rfl rfl ⟨(by simp (disch := omega) only [kI_o, kI_f, kI_e]; exact hC.1.2.2.1), pw_k (by simp (disch := omega) only [kI_o, kI_f, kI_e]) hC.2.2.2.1.2.2.1⟩ ⟨(by simp (disch := omega) only [kI_o, kI_f, kI_e]; exact hC.1.2.2.2.1), sc_k (by simp (disch := omega) only [kI_o, kI_f, kI_e]) hC.2.2.2.1.2.2.2.1⟩ (by simp (disch := omega) only [kI_o, kI_f, kI_e]; exact hC.1.2.2.2.2.1) (fun x hx => (by simp (disch := omega) only [kI_o, kI_f, kI_e]; exact hC.1.2.2.2.2.2.2.2.1 x hx)) (fun x y hx hy => (by simp (disch := omega) only [kI_o, kI_f, kI_e]; exact hC.2.2.2.1.2.2.2.2.2.2.2 x y hx hy)) (fun k x hk hx => (by simp (disch := omega) only [kI_o, kI_f, kI_e]; exact hC.1.2.2.2.2.2.2.2.2.1 k x hk hx)) (fun k x hk hx => (by simp (disch := omega) only [kI_o, kI_f, kI_e]; exact hC.1.2.2.2.2.2.2.2.2.2 k x hk hx)) (fun j hj => ?_)) (by simp (disch := omega) only [kI_o, kI_f, kI_e]) (by simp (disch := omega) only [kI_o, kI_f, kI_e]) (by simp (disch := omega) only [kI_o, kI_f, kI_e]) (by simp (disch := omega) only [kI_o, kI_f, kI_e]) (by simp (disch := omega) only [kI_o, kI_f, kI_e]; exact d5) (by simp (disch := omega) only [kI_o, kI_f, kI_e]; exact d6) (by simp (disch := omega) only [kI_o, kI_f, kI_e]) (by simp (disch := omega) only [kI_o, kI_f, kI_e]) (by simp (disch := omega) only [kI_o, kI_f, kI_e]), fun g => ?_⟩
            · by_cases g : j = k
              · rw [g]; simp (disch := omega) only [kI_o, kI_f, kI_e]
              · simp (disch := omega) only [kI_o, kI_f, kI_e]; exact hC.2.2.1.2 j hj
            · have := g1.1 (Or.inl hN1.1); have := g2.1 (Or.inr (Or.inl hK)); have := g3.1 (Or.inr (Or.inr g)); omega
          · rw [if_neg hR', if_neg hR']
            simp only [Option.bind_some, ↓reduceIte]
            exact sm_bad h3 (k := 2) (by decide) rfl rfl
        · rw [if_neg hK, if_neg hK]
          simp only [Option.bind_some, ↓reduceIte]
          exact sm_bad h3 (k := 1) (by decide) rfl rfl
    · have hx := ac_5 h1 (k := 5) (x := mN) (Or.inr rfl)
      unfold f_Mod_line_J199
      simp (disch := omega) only [fl, ef, ↓reduceIte, mN_lt, u_bad h1, Option.bind_some, zb_0]
      exact sm_bad hx (k := 3) (by decide) rfl rfl
  · rw [if_neg hN1, if_neg hN1]
    simp only [↓reduceIte, u_bad h1, Option.bind_some, zb_0]
    exact sm_bad h1 (k := 1) (by decide) rfl rfl
end ISL4
