section ISL5
variable {M0 U0 a b m u : Mm} {t : Nat → Nat} {sz lim κ v ap np : Nat} {l : List Nat} {i : Nat}
theorem fe_bt {H : Nat → Int32} {x y : Nat} (hx : x < 10) (hy : y < 10) (hxy : x ≠ y) (bs : ∀ p q, p < 10 → q < 10 → bt (H (25 + p)) q = bt (H (25 + q)) p) {H' : Nat → Int32} (e1 : H' (25 + x) = H (25 + x) ||| nI 1 <<< (nI y &&& nI 31)) (e2 : H' (25 + y) = H (25 + y) ||| nI 1 <<< (nI x &&& nI 31)) (e3 : ∀ p, p < 10 → p ≠ x → p ≠ y → H' (25 + p) = H (25 + p)) : ∀ p q, p < 10 → q < 10 → bt (H' (25 + p)) q = bt (H' (25 + q)) p := by
  have key : ∀ p q, p < 10 → q < 10 → bt (H' (25 + p)) q = (bt (H (25 + p)) q || decide ((p = x ∧ q = y) ∨ (p = y ∧ q = x))) := by
    intro p q hp hq
    by_cases g1 : p = x
    · subst g1
      rw [e1, b_set (by omega) (by omega)]
      congr 1
      exact decide_eq_decide.mpr (by omega)
    · by_cases g2 : p = y
      · subst g2
        rw [e2, b_set (by omega) (by omega)]
        congr 1
        exact decide_eq_decide.mpr (by omega)
      · rw [e3 p hp g1 g2, decide_eq_false (by omega), Bool.or_false]
  intro p q hp hq
  rw [key p q hp hq, key q p hq hp, bs p q hp hq]
  congr 1
  exact decide_eq_decide.mpr (by omega)
theorem il_feud (hT : Tp M0 U0 t sz lim) (h : At M0 U0 sz lim a b m u κ l v ap np) (hκ : κ = 1) (hD : Di i a b) : Sm M0 U0 (Ln M0 U0 sz lim np κ (fun a b => a.1 1 2 = nI i ∧ b.1 169 19 = nI i ∧ Di (i + 1) (kI a 1 2 (nI (i + 1))) (kI b 169 19 (nI (i + 1))))) (f_Reader_feudLine z_Law m 1) (f_Mod_readFeud z_Law u 169) := by
  obtain ⟨d1, d2, d3, d4, d5, d6, d7, d8, d9, hC⟩ := id hD
  have n10 := hC.2.2.2.1.1.2
  have m8 := hC.2.2.2.1.2.1.2
  obtain ⟨m1, u1, κ1, l1, v1, ap1, np1, z1, z2, h1, g1⟩ := at_step hT h (Or.inl hκ)
  obtain ⟨c1, c2, c3, c4, c5, c6, c7⟩ := il_N h1 hC rfl rfl rfl rfl rfl
  have H0 : b.1 172 0 = nI (sn (b.1 172)) := hC.2.2.2.1.1.1
  unfold f_Reader_feudLine f_Mod_readFeud
  simp only [fl, mm_lt, Nat.reduceAdd]
  rw [z1, z2, Option.bind_some, Option.bind_some, c_one h1 (o := 7) (n := sn (b.1 172)) (r := 10) (N := Nb b) rfl (by decide) n10 c1 c3, c5, zq_172, ld_nI (by decide) (by decide), H0, Option.bind_some, Option.bind_some, u_tnm hT h1 (f := 18) (n := sn (b.1 172)) (by omega), pnm_c (N := fun k => u1.2 174 (18 + k)) (N' := Nb b) (fun k hk => c6 k)]
  by_cases hN1 : κ1 = 1 ∧ rwd l1 = mN
  · rw [if_pos hN1, if_pos hN1]
    rcases fd_cases (pnm (Nb b) l1) (sn (b.1 172)) with ⟨x, hx, -, -, ef⟩ | ⟨-, ef⟩
    · have hxn : ¬ nI x = mN := hq_ne (n := x) (by omega)
      rw [ef, if_neg hxn, if_neg hxn]
      have h2 := au_g (ac_5 h1 (k := 5) (x := nI x) (Or.inr rfl)) (k := 18) (x := nI x) (Or.inr rfl)
      obtain ⟨m2, u2, κ2, l2, v2, ap2, np2, z3, z4, h3, g2⟩ := at_step hT h2 (Or.inl hN1.1)
      have e18 : u2.1 169 18 = nI x := by rw [g2.2.2.2 18 (by decide) (by decide) (by decide) (by decide) (by decide)]; exact kI_e
      have x5 : (kI m1 1 5 (nI x)).1 1 5 = nI x := kI_e
      obtain ⟨q1, q2, q3, q4, q5, q6, q7⟩ := il_N h3 hC rfl rfl rfl rfl rfl
      simp (disch := omega) only [eq_f, ↓reduceIte, z4, Option.bind_some, x5, e18]
      rw [z3, Option.bind_some, c_one h3 (o := 7) (n := sn (b.1 172)) (r := 10) (N := Nb b) rfl (by decide) n10 q1 q3, u_isN hT h3, Option.bind_some, Option.bind_some]
      by_cases hN2 : κ2 = 1 ∧ rwd l2 = mN
      · rw [if_pos hN2, if_pos hN2]
        have uf := u_find h3 hN2.1 (f := 18) (n := sn (b.1 172)) (by omega)
        rw [pnm_c (N' := Nb b) (fun k hk => q6 k)] at uf
        simp (disch := omega) only [eq_f, ↓reduceIte, q5, ld_nI, H0, Option.bind_some, uf]
        rcases fd_cases (pnm (Nb b) l2) (sn (b.1 172)) with ⟨y, hy, -, -, ef2⟩ | ⟨-, ef2⟩
        · have hyn : ¬ nI y = mN := hq_ne (n := y) (by omega)
          rw [ef2, if_neg hyn]
          have y5 : (kI m2 1 5 (nI y)).1 1 5 = nI y := kI_e
          have hy5 := ac_5 h3 (k := 5) (x := nI y) (Or.inr rfl)
          have fin3 : Sm M0 U0 (Ln M0 U0 sz lim np κ (fun a b => a.1 1 2 = nI i ∧ b.1 169 19 = nI i ∧ Di (i + 1) (kI a 1 2 (nI (i + 1))) (kI b 169 19 (nI (i + 1))))) (f_Reader_feudLine_J83 z_Law 1 (kI m2 1 5 (nI y))) (f_Mod_readFeud_J77 z_Law 169 u2) := by
            unfold f_Reader_feudLine_J83 f_Mod_readFeud_J77
            simp only [fl, c_fail hy5, u_bad h3, Option.bind_some, zb_0]
            exact sm_bad hy5 (k := 3) (by decide) rfl rfl
          simp (disch := omega) only [eq_f, lt_f, ↓reduceIte, y5]
          by_cases hxy : x = y
          · subst hxy
            rw [if_pos rfl, if_pos rfl]; exact fin3
          · have n1 : ¬ nI x = nI y := fun g => hxy (nI_inj (by omega) (by omega) g)
            have n2 : ¬ nI y = nI x := fun g => n1 g.symm
            rw [if_neg n1, if_neg n2]
            have m16 : ∀ k, k < 10 → (kI m2 1 5 (nI y)).1 16 k = b.1 172 (25 + k) := fun k hk => by
              rw [kI_o _ _ _ _ (by decide), h3.1.2.2.1.1 16 (by decide) (by decide)]; exact hC.1.2.2.2.2.2.2.2.1 k hk
            have hfe : f_Island_feud z_Law (kI m2 1 5 (nI y)) 6 (nI x) (nI y) = some (bI (bt (b.1 172 (25 + x)) y)) := by
              unfold f_Island_feud
              simp (disch := omega) only [fl, fmN, Nat.reduceAdd, mN_ne, ↓reduceIte, row_atE (p := 16) rfl zq_16, m16, Option.bind_some, sh_bit]
              cases bt (b.1 172 (25 + x)) y
              · rfl
              · rfl
            simp (disch := omega) only [nI_add, ld_nI, q5, hfe, md_has, Option.bind_some, bI_0]
            by_cases hb : bt (b.1 172 (25 + x)) y = true
            · have hb' : ¬ bt (b.1 172 (25 + x)) y = false := by rw [hb]; decide
              rw [if_neg hb', if_neg hb']; exact fin3
            · have hb' : bt (b.1 172 (25 + x)) y = false := by simpa using hb
              rw [if_pos hb', if_pos hb']
              obtain ⟨w1, ew1⟩ : ∃ w, b.1 172 (25 + x) ||| nI 1 <<< (nI y &&& nI 31) = w := ⟨_, rfl⟩
              obtain ⟨w2, ew2⟩ : ∃ w, b.1 172 (25 + y) ||| nI 1 <<< (nI x &&& nI 31) = w := ⟨_, rfl⟩
              have h4 := ac_I (ac_I hy5 (q := 16) (k := x) (x := w1) (by decide)) (q := 16) (k := y) (x := w2) (by decide)
              have h5 := au_I (au_I h4 (q := 172) (k := 25 + x) (x := w1) (Or.inl rfl)) (q := 172) (k := 25 + y) (x := w2) (Or.inl rfl)
              obtain ⟨m3, u3, κ3, l3, v3, ap3, np3, z5, z6, h6, g3⟩ := at_step hT h5 (Or.inl hN2.1)
              have m16' : (kI (kI m2 1 5 (nI y)) 16 x w1).1 16 y = b.1 172 (25 + y) := by rw [kI_f (by omega)]; exact m16 y (by omega)
              have u25 : (kI u2 172 (25 + x) w1).1 172 (25 + y) = b.1 172 (25 + y) := by rw [kI_f (by omega), q5]
              have hsf : f_Island_startFeud z_Law (kI m2 1 5 (nI y)) 6 (nI x) (nI y) = some (kI (kI (kI m2 1 5 (nI y)) 16 x w1) 16 y w2) := by
                unfold f_Island_startFeud
                simp (disch := omega) only [fl, Nat.reduceAdd, row_atE (p := 16) rfl zq_16, m16, Option.bind_some, ew1, row_putE (p := 16) rfl zq_16, m16', ew2]
              simp (disch := omega) only [hsf, Option.bind_some, z5, ew1, st_nI, ld_nI, u25, ew2, z6]
              refine sm_ok rfl rfl ⟨hκ, _, _, _, _, _, _, _, h6, Di_fin hD (Co_up (H := b.1 172) (N := Nb b) hC (by simp (disch := omega) only [kI_o, kI_f, kI_e]) (by simp (disch := omega) only [kI_o, kI_f, kI_e]) (fun k hk => (by simp (disch := omega) only [kI_o, kI_f, kI_e])) (fun x hx => (by simp (disch := omega) only [kI_o, kI_f, kI_e])) (fun x hx => (by simp (disch := omega) only [kI_o, kI_f, kI_e])) (by simp (disch := omega) only [kI_o, kI_f, kI_e]) (by simp (disch := omega) only [kI_o, kI_f, kI_e]) (by simp (disch := omega) only [kI_o, kI_f, kI_e]) (by simp (disch := omega) only [kI_o, kI_f, kI_e]) (by simp (disch := omega) only [kI_o, kI_f, kI_e]) rfl rfl ⟨(by simp (disch := omega) only [kI_o, kI_f, kI_e]; exact hC.1.2.2.1), pw_k (by simp (disch := omega) only [kI_o, kI_f, kI_e]) hC.2.2.2.1.2.2.1⟩ ⟨(by simp (disch := omega) only [kI_o, kI_f, kI_e]; exact hC.1.2.2.2.1), sc_k (by simp (disch := omega) only [kI_o, kI_f, kI_e]) hC.2.2.2.1.2.2.2.1⟩ (by simp (disch := omega) only [kI_o, kI_f, kI_e]; exact hC.1.2.2.2.2.1) (fun k hk => ?_) ?_ (fun k x hk hx => (by simp (disch := omega) only [kI_o, kI_f, kI_e]; exact hC.1.2.2.2.2.2.2.2.2.1 k x hk hx)) (fun k x hk hx => (by simp (disch := omega) only [kI_o, kI_f, kI_e]; exact hC.1.2.2.2.2.2.2.2.2.2 k x hk hx)) (fun k hk => (by simp (disch := omega) only [kI_o, kI_f, kI_e]; exact hC.2.2.1.2 k hk))) (by simp (disch := omega) only [kI_o, kI_f, kI_e]) (by simp (disch := omega) only [kI_o, kI_f, kI_e]) (by simp (disch := omega) only [kI_o, kI_f, kI_e]) (by simp (disch := omega) only [kI_o, kI_f, kI_e]) (by simp (disch := omega) only [kI_o, kI_f, kI_e]; exact d5) (by simp (disch := omega) only [kI_o, kI_f, kI_e]; exact d6) (by simp (disch := omega) only [kI_o, kI_f, kI_e]; exact d7) (by simp (disch := omega) only [kI_o, kI_f, kI_e]) (by simp (disch := omega) only [kI_o, kI_f, kI_e]), fun g => ?_⟩
              · by_cases k1 : k = y
                · rw [k1]; simp (disch := omega) only [kI_o, kI_f, kI_e]
                · by_cases k2 : k = x
                  · rw [k2]; simp (disch := omega) only [kI_o, kI_f, kI_e]
                  · simp (disch := omega) only [kI_o, kI_f, kI_e]; exact hC.1.2.2.2.2.2.2.2.1 k hk
              · refine fe_bt (H := b.1 172) (x := x) (y := y) (by omega) (by omega) hxy hC.2.2.2.1.2.2.2.2.2.2.2 ?_ ?_ (fun p hp p1 p2 => (by simp (disch := omega) only [kI_o, kI_f, kI_e]))
                · simp (disch := omega) only [kI_o, kI_f, kI_e]; exact ew1.symm
                · simp (disch := omega) only [kI_o, kI_f, kI_e]; exact ew2.symm
              · have := g1.1 (Or.inl hN1.1); have := g2.1 (Or.inl hN2.1); have := g3.1 (Or.inr (Or.inr g)); omega
        · have hx2 := ac_5 h3 (k := 5) (x := mN) (Or.inr rfl)
          unfold f_Mod_readFeud_J77
          simp (disch := omega) only [fl, ef2, ↓reduceIte, mN_lt, u_bad h3, Option.bind_some, zb_0]
          exact sm_bad hx2 (k := 3) (by decide) rfl rfl
      · rw [if_neg hN2, if_neg hN2]
        simp only [↓reduceIte, u_bad h3, Option.bind_some, zb_0]
        exact sm_bad h3 (k := 1) (by decide) rfl rfl
    · rw [ef, if_pos rfl, if_pos rfl]
      simp only [Option.bind_some, ↓reduceIte]
      exact sm_bad (au_g (ac_5 h1 (k := 5) (x := mN) (Or.inr rfl)) (k := 18) (x := mN) (Or.inr rfl)) (k := 3) (by decide) rfl rfl
  · rw [if_neg hN1, if_neg hN1]
    simp only [Option.bind_some, ↓reduceIte]
    exact sm_bad h1 (k := 1) (by decide) rfl rfl
end ISL5
