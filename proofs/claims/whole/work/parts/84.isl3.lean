section ISL3
variable {M0 U0 a b m u : Mm} {t : Nat → Nat} {sz lim κ v ap np : Nat} {l : List Nat} {i : Nat}
variable {H H' : Nat → Int32}
theorem pw_k (e : H' 2 = H 2) (h : H 2 = nI (pw H) ∧ 1 ≤ pw H ∧ pw H ≤ 4) : H' 2 = nI (pw H') ∧ 1 ≤ pw H' ∧ pw H' ≤ 4 := by
  rw [pw_c e, e]; exact h
theorem sc_k (e : H' 3 = H 3) (h : H 3 = nI (sc H) ∧ 1 ≤ sc H ∧ sc H ≤ 8) : H' 3 = nI (sc H') ∧ 1 ≤ sc H' ∧ sc H' ≤ 8 := by
  rw [sc_c e, e]; exact h
theorem il_field (hT : Tp M0 U0 t sz lim) (h : At M0 U0 sz lim a b m u κ l v ap np) (hκ : κ = 1) (hD : Di i a b) : Sm M0 U0 (Ln M0 U0 sz lim np κ (fun a b => a.1 1 2 = nI i ∧ b.1 169 19 = nI i ∧ Di (i + 1) (kI a 1 2 (nI (i + 1))) (kI b 169 19 (nI (i + 1))))) (f_Reader_fieldLine z_Law m 1) (uField z_Law u 169) := by
  obtain ⟨d1, d2, d3, d4, d5, d6, d7, d8, d9, hC⟩ := id hD
  have n10 := hC.2.2.2.1.1.2
  have m8 := hC.2.2.2.1.2.1.2
  have m7 : m.1 1 7 = a.1 1 7 := h.1.2.2.1.2.2 7 (by decide)
  have u22 : u.1 169 22 = a.1 1 7 := (h.1.2.2.2.1.2 22 (by decide)).trans d6.1.symm
  unfold f_Reader_fieldLine uField
  simp only [fl, mm_lt, Nat.reduceAdd, m7, u22]
  by_cases g : a.1 1 7 = nI 0
  · rw [if_pos g, if_pos g]
    have h1 := au_f (ac_f h (k := 7) (x := nI 1)) (k := 22) (x := nI 1) (by decide)
    obtain ⟨m1, u1, κ1, l1, v1, ap1, np1, z1, z2, h2, g1⟩ := at_step hT h1 (Or.inl hκ)
    rw [z1, z2, Option.bind_some, Option.bind_some, c_isNum h2 (by decide) (by decide), u_takes h2 (by decide) (by decide), Option.bind_some]
    by_cases hK : κ1 = 2
    · rw [if_pos hK, if_pos hK]
      by_cases hR' : 0 ≤ v1 ∧ v1 ≤ 99
      · rw [if_pos hR', if_pos hR']
        have x26 : m1.1 2 6 = nI v1 := h2.2.1.2.2.2.2.1 hK
        have h3 := au_g (ac_I h2 (q := 6) (k := 8) (x := nI v1) (by decide)) (k := 18) (x := nI v1) (Or.inr rfl)
        obtain ⟨m2, u2, κ2, l2, v2, ap2, np2, z3, z4, h4, g2⟩ := at_step hT h3 (Or.inr (Or.inl hK))
        have e18 : u2.1 169 18 = nI v1 := by rw [g2.2.2.2 18 (by decide) (by decide) (by decide) (by decide) (by decide)]; exact kI_e
        have h5 := au_I h4 (q := 172) (k := 4) (x := nI v1) (Or.inl rfl)
        simp (disch := omega) only [eq_f, ↓reduceIte, x26, z3, z4, Option.bind_some, e18, zq_172, st_nI]
        refine sm_ok rfl rfl ⟨hκ, _, _, _, _, _, _, _, h5, Di_fin hD (Co_up (H := b.1 172) (N := Nb b) hC (by simp (disch := omega) only [kI_o, kI_f, kI_e]) (by simp (disch := omega) only [kI_o, kI_f, kI_e]) (fun k hk => (by simp (disch := omega) only [kI_o, kI_f, kI_e])) (fun x hx => (by simp (disch := omega) only [kI_o, kI_f, kI_e])) (fun x hx => (by simp (disch := omega) only [kI_o, kI_f, kI_e])) (by simp (disch := omega) only [kI_o, kI_f, kI_e]) (by simp (disch := omega) only [kI_o, kI_f, kI_e]) (by simp (disch := omega) only [kI_o, kI_f, kI_e]) (by simp (disch := omega) only [kI_o, kI_f, kI_e]) (by simp (disch := omega) only [kI_o, kI_f, kI_e]) rfl rfl ⟨(by simp (disch := omega) only [kI_o, kI_f, kI_e]; exact hC.1.2.2.1), pw_k (by simp (disch := omega) only [kI_o, kI_f, kI_e]) hC.2.2.2.1.2.2.1⟩ ⟨(by simp (disch := omega) only [kI_o, kI_f, kI_e]; exact hC.1.2.2.2.1), sc_k (by simp (disch := omega) only [kI_o, kI_f, kI_e]) hC.2.2.2.1.2.2.2.1⟩ (by simp (disch := omega) only [kI_o, kI_f, kI_e]) (fun x hx => (by simp (disch := omega) only [kI_o, kI_f, kI_e]; exact hC.1.2.2.2.2.2.2.2.1 x hx)) (fun x y hx hy => (by simp (disch := omega) only [kI_o, kI_f, kI_e]; exact hC.2.2.2.1.2.2.2.2.2.2.2 x y hx hy)) (fun k x hk hx => (by simp (disch := omega) only [kI_o, kI_f, kI_e]; exact hC.1.2.2.2.2.2.2.2.2.1 k x hk hx)) (fun k x hk hx => (by simp (disch := omega) only [kI_o, kI_f, kI_e]; exact hC.1.2.2.2.2.2.2.2.2.2 k x hk hx)) (fun k hk => (by simp (disch := omega) only [kI_o, kI_f, kI_e]; exact hC.2.2.1.2 k hk))) (by simp (disch := omega) only [kI_o, kI_f, kI_e]) (by simp (disch := omega) only [kI_o, kI_f, kI_e]) (by simp (disch := omega) only [kI_o, kI_f, kI_e]) (by simp (disch := omega) only [kI_o, kI_f, kI_e]) (by simp (disch := omega) only [kI_o, kI_f, kI_e]; exact d5) ⟨(by simp (disch := omega) only [kI_o, kI_f, kI_e]), Or.inr (by simp (disch := omega) only [kI_o, kI_f, kI_e])⟩ (by simp (disch := omega) only [kI_o, kI_f, kI_e]; exact d7) (by simp (disch := omega) only [kI_o, kI_f, kI_e]) (by simp (disch := omega) only [kI_o, kI_f, kI_e]), fun g => ?_⟩
        have := g1.1 (Or.inr (Or.inl hK)); have := g2.1 (Or.inr (Or.inr g)); omega
      · rw [if_neg hR', if_neg hR']
        simp only [Option.bind_some, ↓reduceIte]
        exact sm_bad h2 (k := 2) (by decide) rfl rfl
    · rw [if_neg hK, if_neg hK]
      simp only [Option.bind_some, ↓reduceIte]
      exact sm_bad h2 (k := 1) (by decide) rfl rfl
  · rw [if_neg g, if_neg g]
    simp only [c_fail h, u_bad h, Option.bind_some, zb_0]
    exact sm_bad h (k := 3) (by decide) rfl rfl
theorem il_pews (hT : Tp M0 U0 t sz lim) (h : At M0 U0 sz lim a b m u κ l v ap np) (hκ : κ = 1) (hD : Di i a b) : Sm M0 U0 (Ln M0 U0 sz lim np κ (fun a b => a.1 1 2 = nI i ∧ b.1 169 19 = nI i ∧ Di (i + 1) (kI a 1 2 (nI (i + 1))) (kI b 169 19 (nI (i + 1))))) (f_Reader_pewsLine z_Law m 1) (uPews z_Law u 169) := by
  obtain ⟨d1, d2, d3, d4, d5, d6, d7, d8, d9, hC⟩ := id hD
  have n10 := hC.2.2.2.1.1.2
  have m8 := hC.2.2.2.1.2.1.2
  have m6 : m.1 1 6 = a.1 1 6 := h.1.2.2.1.2.2 6 (by decide)
  have u21 : u.1 169 21 = a.1 1 6 := (h.1.2.2.2.1.2 21 (by decide)).trans d5.1.symm
  have m8' : m.1 1 8 = a.1 1 8 := h.1.2.2.1.2.2 8 (by decide)
  have u20 : u.1 169 20 = a.1 1 8 := (h.1.2.2.2.1.2 20 (by decide)).trans d7.symm
  have fin3 : Sm M0 U0 (Ln M0 U0 sz lim np κ (fun a b => a.1 1 2 = nI i ∧ b.1 169 19 = nI i ∧ Di (i + 1) (kI a 1 2 (nI (i + 1))) (kI b 169 19 (nI (i + 1))))) (f_Reader_pewsLine_J14 z_Law 1 m) (f_Mod_line_J84 z_Law 169 u) := by
    unfold f_Reader_pewsLine_J14 f_Mod_line_J84
    simp only [fl, c_fail h, u_bad h, Option.bind_some, zb_0]
    exact sm_bad h (k := 3) (by decide) rfl rfl
  unfold f_Reader_pewsLine uPews
  simp only [fl, mm_lt, Nat.reduceAdd, m6, u21, m8', u20]
  by_cases g : a.1 1 6 = nI 0
  · rw [if_pos g, if_pos g]
    by_cases g8 : a.1 1 8 = nI 0
    · rw [if_pos g8, if_pos g8]
      have h1 := au_f (ac_f h (k := 6) (x := nI 1)) (k := 21) (x := nI 1) (by decide)
      obtain ⟨m1, u1, κ1, l1, v1, ap1, np1, z1, z2, h2, g1⟩ := at_step hT h1 (Or.inl hκ)
      rw [z1, z2, Option.bind_some, Option.bind_some, c_isNum h2 (by decide) (by decide), u_takes h2 (by decide) (by decide), Option.bind_some]
      by_cases hK : κ1 = 2
      · rw [if_pos hK, if_pos hK]
        by_cases hR' : 1 ≤ v1 ∧ v1 ≤ 4
        · rw [if_pos hR', if_pos hR']
          have x26 : m1.1 2 6 = nI v1 := h2.2.1.2.2.2.2.1 hK
          have h3 := au_g (ac_I h2 (q := 6) (k := 6) (x := nI v1) (by decide)) (k := 18) (x := nI v1) (Or.inr rfl)
          obtain ⟨m2, u2, κ2, l2, v2, ap2, np2, z3, z4, h4, g2⟩ := at_step hT h3 (Or.inr (Or.inl hK))
          have e18 : u2.1 169 18 = nI v1 := by rw [g2.2.2.2 18 (by decide) (by decide) (by decide) (by decide) (by decide)]; exact kI_e
          have h5 := au_I h4 (q := 172) (k := 2) (x := nI v1) (Or.inl rfl)
          simp (disch := omega) only [eq_f, ↓reduceIte, x26, z3, z4, Option.bind_some, e18, zq_172, st_nI]
          rw [c_isNum h5 (by decide) (by decide), u_takes h5 (by decide) (by decide), Option.bind_some]
          by_cases hK2 : κ2 = 2
          · rw [if_pos hK2, if_pos hK2]
            by_cases hR2 : 1 ≤ v2 ∧ v2 ≤ 8
            · rw [if_pos hR2, if_pos hR2]
              have x26' : m2.1 2 6 = nI v2 := h5.2.1.2.2.2.2.1 hK2
              have h6 := au_g (ac_I h5 (q := 6) (k := 7) (x := nI v2) (by decide)) (k := 18) (x := nI v2) (Or.inr rfl)
              obtain ⟨m3, u3, κ3, l3, v3, ap3, np3, z5, z6, h7, g3⟩ := at_step hT h6 (Or.inr (Or.inl hK2))
              have e18' : u3.1 169 18 = nI v2 := by rw [g3.2.2.2 18 (by decide) (by decide) (by decide) (by decide) (by decide)]; exact kI_e
              have h8 := au_I h7 (q := 172) (k := 3) (x := nI v2) (Or.inl rfl)
              simp (disch := omega) only [eq_f, ↓reduceIte, x26', z5, z6, Option.bind_some, e18', zq_172, st_nI]
              refine sm_ok rfl rfl ⟨hκ, _, _, _, _, _, _, _, h8, Di_fin hD (Co_up (H := b.1 172) (N := Nb b) hC (by simp (disch := omega) only [kI_o, kI_f, kI_e]) (by simp (disch := omega) only [kI_o, kI_f, kI_e]) (fun k hk => (by simp (disch := omega) only [kI_o, kI_f, kI_e])) (fun x hx => (by simp (disch := omega) only [kI_o, kI_f, kI_e])) (fun x hx => (by simp (disch := omega) only [kI_o, kI_f, kI_e])) (by simp (disch := omega) only [kI_o, kI_f, kI_e]) (by simp (disch := omega) only [kI_o, kI_f, kI_e]) (by simp (disch := omega) only [kI_o, kI_f, kI_e]) (by simp (disch := omega) only [kI_o, kI_f, kI_e]) (by simp (disch := omega) only [kI_o, kI_f, kI_e]) rfl rfl ⟨(by simp (disch := omega) only [kI_o, kI_f, kI_e]), pw_of (v := v1) (by simp (disch := omega) only [kI_o, kI_f, kI_e]) hR'.1 hR'.2⟩ ⟨(by simp (disch := omega) only [kI_o, kI_f, kI_e]), sc_of (v := v2) (by simp (disch := omega) only [kI_o, kI_f, kI_e]) hR2.1 hR2.2⟩ (by simp (disch := omega) only [kI_o, kI_f, kI_e]; exact hC.1.2.2.2.2.1) (fun x hx => (by simp (disch := omega) only [kI_o, kI_f, kI_e]; exact hC.1.2.2.2.2.2.2.2.1 x hx)) (fun x y hx hy => (by simp (disch := omega) only [kI_o, kI_f, kI_e]; exact hC.2.2.2.1.2.2.2.2.2.2.2 x y hx hy)) (fun k x hk hx => (by simp (disch := omega) only [kI_o, kI_f, kI_e]; exact hC.1.2.2.2.2.2.2.2.2.1 k x hk hx)) (fun k x hk hx => (by simp (disch := omega) only [kI_o, kI_f, kI_e]; exact hC.1.2.2.2.2.2.2.2.2.2 k x hk hx)) (fun k hk => (by simp (disch := omega) only [kI_o, kI_f, kI_e]; exact hC.2.2.1.2 k hk))) (by simp (disch := omega) only [kI_o, kI_f, kI_e]) (by simp (disch := omega) only [kI_o, kI_f, kI_e]) (by simp (disch := omega) only [kI_o, kI_f, kI_e]) (by simp (disch := omega) only [kI_o, kI_f, kI_e]) ⟨(by simp (disch := omega) only [kI_o, kI_f, kI_e]), Or.inr (by simp (disch := omega) only [kI_o, kI_f, kI_e])⟩ (by simp (disch := omega) only [kI_o, kI_f, kI_e]; exact d6) (by simp (disch := omega) only [kI_o, kI_f, kI_e]; exact d7) (by simp (disch := omega) only [kI_o, kI_f, kI_e]) (by simp (disch := omega) only [kI_o, kI_f, kI_e]), fun g => ?_⟩
              have := g1.1 (Or.inr (Or.inl hK)); have := g2.1 (Or.inr (Or.inl hK2)); have := g3.1 (Or.inr (Or.inr g)); omega
            · rw [if_neg hR2, if_neg hR2]
              simp only [Option.bind_some, ↓reduceIte]
              exact sm_bad h5 (k := 2) (by decide) rfl rfl
          · rw [if_neg hK2, if_neg hK2]
            simp only [Option.bind_some, ↓reduceIte]
            exact sm_bad h5 (k := 1) (by decide) rfl rfl
        · rw [if_neg hR', if_neg hR']
          simp only [Option.bind_some, ↓reduceIte]
          exact sm_bad h2 (k := 2) (by decide) rfl rfl
      · rw [if_neg hK, if_neg hK]
        simp only [Option.bind_some, ↓reduceIte]
        exact sm_bad h2 (k := 1) (by decide) rfl rfl
    · rw [if_neg g8, if_neg g8]; exact fin3
  · rw [if_neg g, if_neg g]; exact fin3
end ISL3
