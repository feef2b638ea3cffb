section ISL8
variable {M0 U0 a b m u : Mm} {t : Nat → Nat} {sz lim κ v ap np : Nat} {l : List Nat} {i : Nat}
theorem il_house (hT : Tp M0 U0 t sz lim) (h : At M0 U0 sz lim a b m u κ l v ap np) (hκ : κ = 1) (hD : Di i a b) : Sm M0 U0 (Ln M0 U0 sz lim np κ (fun a b => a.1 1 2 = nI i ∧ b.1 169 19 = nI i ∧ Di (i + 1) (kI a 1 2 (nI (i + 1))) (kI b 169 19 (nI (i + 1))))) (f_Reader_houseLine z_Law m 1) (f_Mod_readHouse z_Law u 169) := by
  obtain ⟨d1, d2, d3, d4, d5, d6, d7, d8, d9, hC⟩ := id hD
  have n10 := hC.2.2.2.1.1.2
  have m8 := hC.2.2.2.1.2.1.2
  obtain ⟨c, ec⟩ : ∃ c, c = sm (b.1 172) := ⟨_, rfl⟩
  have H0 : b.1 172 0 = nI (sn (b.1 172)) := hC.2.2.2.1.1.1
  have H1 : b.1 172 1 = nI c := by rw [ec]; exact hC.2.2.2.1.2.1.1
  obtain ⟨c1, c2, c3, c4, c5, c6, c7⟩ := il_N h hC rfl rfl rfl rfl rfl
  rw [← ec] at m8 c2
  unfold f_Reader_houseLine f_Mod_readHouse
  simp only [fl, fl64, fmN, mm_lt, Nat.reduceAdd]
  rw [c_full c2 (r := 8) rfl (by decide) m8, c5, zq_172, ld_nI (by decide) (by decide), H1, Option.bind_some, Option.bind_some]
  by_cases hc8 : c = 8
  · rw [if_pos hc8, hc8]
    simp (disch := omega) only [eq_f, ↓reduceIte, c_fail h, u_bad h, Option.bind_some, zb_0]
    exact sm_bad h (k := 4) (by decide) rfl rfl
  · rw [if_neg hc8]
    obtain ⟨m1, u1, κ1, l1, v1, ap1, np1, z1, z2, h1, g1⟩ := at_step hT h (Or.inl hκ)
    obtain ⟨q1, q2, q3, q4, q5, q6, q7⟩ := il_N h1 hC rfl rfl rfl rfl rfl
    rw [← ec] at q2
    simp (disch := omega) only [eq_f, ↓reduceIte, z1, z2, Option.bind_some, nI_add]
    rw [c_new h1 (N := Nb b) n10 m8 q1 q2 q3 (fun k hk => q4 k (by omega)), u_fr hT h1 (N := Nb b) (n := sn (b.1 172)) (c := c) (to := 28 + c) n10 m8 (by omega) q5 H0 H1 (fun k _ => q6 k) (fun k _ => q7 k), Option.bind_some]
    by_cases hN1 : κ1 = 1 ∧ rwd l1 = mN
    · rw [if_pos hN1, if_pos hN1]
      by_cases hfr : fd (pnm (Nb b) l1) (sn (b.1 172)) = mN ∧ fd (pnm (fun k => Nb b (10 + k)) l1) c = mN
      · rw [if_pos hfr, if_pos hfr]
        have hl1 : okl l1 := h1.2.2.2.2.1 hN1.1
        have x27 : m1.2 2 7 = lN (e128 l1) := h1.2.1.2.2.2.1 hN1.1
        have h2 := au_L (ac_I (ac_L h1 (q := 10) (k := c) (x := lN (e128 l1)) (by decide)) (q := 9) (k := 1) (x := nI (c + 1)) (by decide)) (k := 28 + c) (x := lN (e256 l1)) (by omega)
        obtain ⟨m2, u2, κ2, l2, v2, ap2, np2, z3, z4, h3, g2⟩ := at_step hT h2 (Or.inl hN1.1)
        have h4 := au_I h3 (q := 172) (k := 123 + c) (x := mN) (Or.inl rfl)
        have u172 : u2.1 172 = b.1 172 := (h3.1.2.2.2.1.1 172 (by decide)).1
        have hadd := c_add (m := m1) (o := 9) (n := c) (r := 8) (x := lN (e128 l1)) q2 rfl (by decide) (by omega)
        simp (disch := omega) only [eq_f, ↓reduceIte, x27, hadd, z3, z4, Option.bind_some, nI_add, zq_172, st_nI]
        rw [c_isW h4, u_isW h4 (j := 4) (c := 448545973363) (by decide) (by decide +kernel), Option.bind_some, Option.bind_some]
        by_cases hH : κ2 = 1 ∧ rwd l2 = nI 4
        · rw [if_pos hH, if_neg (show ¬ nI 1 = nI 0 by decide), if_neg (show ¬ nI 1 = nI 0 by decide)]
          obtain ⟨m3, u3, κ3, l3, v3, ap3, np3, z5, z6, h6, g3⟩ := at_step hT h4 (Or.inl hH.1)
          have y7 : m3.1 7 1 = nI (sn (b.1 172)) := by
            rw [h6.1.2.2.1.1 7 (by decide) (by decide), kI_o _ _ _ _ (by decide)]; exact hC.1.1.trans H0
          have y8 : ∀ x, x < sn (b.1 172) → WR (Nb b x) (m3.2 8 x) := fun x hx => by
            rw [h6.1.2.2.1.2.1 8 (by decide)]
            show WR _ ((kL a 10 c (lN (e128 l1))).2 8 x)
            rw [kL_o _ _ _ _ (by decide)]; exact hC.2.1.1 x hx
          have y172 : u3.1 172 = (kI b 172 (123 + c) mN).1 172 := (h6.1.2.2.2.1.1 172 (by decide)).1
          have y0 : u3.1 172 0 = nI (sn (b.1 172)) := by rw [y172, kI_f (by omega)]; exact H0
          have y1 : u3.1 172 1 = nI c := by rw [y172, kI_f (by omega)]; exact H1
          have yh : ∀ k, k < c → u3.1 172 (123 + k) = b.1 172 (123 + k) := fun k hk => by rw [y172, kI_f (by omega)]
          have y18 : ∀ k, k < sn (b.1 172) → u3.2 174 (18 + k) = Nb b k := fun k hk => by
            rw [(h6.1.2.2.2.1.1 174 (by decide)).2]
            show (kL b 174 (28 + c) (lN (e256 l1))).2 174 (18 + k) = _
            rw [kL_at, if_neg (by omega)]; rfl
          rw [z5, z6, Option.bind_some, Option.bind_some, c_one h6 (o := 7) (n := sn (b.1 172)) (r := 10) (N := Nb b) rfl (by decide) n10 y7 y8, u_isN hT h6, Option.bind_some, Option.bind_some]
          by_cases hN3 : κ3 = 1 ∧ rwd l3 = mN
          · rw [if_pos hN3, if_pos hN3]
            have uf := u_find h6 hN3.1 (f := 18) (n := sn (b.1 172)) (by omega)
            rw [pnm_c (N' := Nb b) (fun k hk => y18 k hk)] at uf
            simp (disch := omega) only [eq_f, ↓reduceIte, ld_nI, y0, Option.bind_some, uf]
            rcases fd_cases (pnm (Nb b) l3) (sn (b.1 172)) with ⟨x, hx, -, -, ef⟩ | ⟨-, ef⟩
            · have hxn : ¬ nI x = mN := hq_ne (n := x) (by omega)
              rw [ef, if_neg hxn]
              have x5 : (kI m3 1 5 (nI x)).1 1 5 = nI x := kI_e
              have h7 := ac_5 h6 (k := 5) (x := nI x) (Or.inr rfl)
              have hHR : HR (kI m3 1 5 (nI x)) 19 (b.1 172) := by
                refine HR_c hC.2.2.1 ?_ ?_
                · rw [kI_o _ _ _ _ (by decide), h6.1.2.2.1.1 21 (by decide) (by decide), kI_o _ _ _ _ (by decide)]; rfl
                · rw [kI_o _ _ _ _ (by decide), h6.1.2.2.1.1 23 (by decide) (by decide), kI_o _ _ _ _ (by decide)]; rfl
              have hho := hd_holderOf HZ_19 hHR (k := x) (by omega)
              have hcut : fd (hp (b.1 172) x) 8 = fd (hp (b.1 172) x) c := fd_cut m8 (fun j j1 j2 => decide_eq_false (by rw [hC.2.2.2.1.2.2.2.2.2.1 j (by omega) j2, mN_ne' x (by omega)]; exact id))
              rw [hcut] at hho
              have hL := u_L98 h6 (x := x) (H := b.1 172) (by omega) m8 yh
              simp (disch := omega) only [eq_f, le_t, ↓reduceIte, x5, hho, hL, Option.bind_some]
              by_cases hf : fd (hp (b.1 172) x) c = mN
              · rw [if_pos hf, if_pos hf]
                have h8 := au_I (ac_I h7 (q := 21) (k := c) (x := nI x) (by decide)) (q := 172) (k := 123 + c) (x := nI x) (Or.inl rfl)
                obtain ⟨m4, u4, κ4, l4, v4, ap4, np4, z7, z8, h9, g4⟩ := at_step hT h8 (Or.inl hN3.1)
                have h10 := au_I h9 (q := 172) (k := 1) (x := nI (c + 1)) (Or.inl rfl)
                have w1 : u4.1 172 1 = nI c := by
                  rw [(h9.1.2.2.2.1.1 172 (by decide)).1, kI_f (by omega), kI_f (by omega)]; exact H1
                unfold f_Mod_readHouse_J142
                simp (disch := omega) only [fl, Nat.reduceAdd, Sum.elim_inr, zq_172, nI_add, st_nI, ld_nI, row_putE (p := 21) rfl zq_21, z7, z8, w1, Option.bind_some]
                have hno : ∀ j, j < 8 → b.1 172 (123 + j) ≠ nI x := fun j hj q => by
                  rcases fd_cases (hp (b.1 172) x) c with ⟨j', hj', -, -, e⟩ | ⟨h9, -⟩
                  · rw [e] at hf; exact hq_ne (n := j') (by omega) hf
                  · by_cases g : j < c
                    · exact dec_f (h9 j g) q
                    · rw [hC.2.2.2.1.2.2.2.2.2.1 j (by omega) hj, mN_ne' x (by omega)] at q; exact q
                refine sm_ok rfl rfl ⟨hκ, _, _, _, _, _, _, _, h10, Di_fin hD (Co_house (H := b.1 172) (N := Nb b) (k0 := c) (l := l1) (w := nI x) hC ec (by omega) hl1 (Or.inr ⟨x, hx, rfl, hno⟩) (by simp (disch := omega) only [kI_o, kI_f, kI_e, kL_1]) (by simp (disch := omega) only [kI_o, kI_f, kI_e, kL_1]) (by simp (disch := omega) only [kI_o, kI_f, kI_e, kL_1]) (by simp (disch := omega) only [kI_o, kI_f, kI_e, kL_1]) (by simp (disch := omega) only [kI_o, kI_f, kI_e, kL_1]) (by simp (disch := omega) only [kI_o, kI_f, kI_e, kL_1]) (by simp (disch := omega) only [kI_o, kI_f, kI_e, kL_1]) (fun k => ?_) (by simp (disch := omega) only [kI_o, kI_f, kI_e, kL_1]) (fun k => ?_) (funext fun k => ?_) (by simp (disch := omega) only [kI_o, kI_f, kI_e, kL_1]) (by simp (disch := omega) only [kI_o, kI_f, kI_e, kL_1]) (fun q q1 q2 => (by simp (disch := omega) only [kI_o, kI_f, kI_e, kL_1])) (fun k => ?_)) (by simp (disch := omega) only [kI_o, kI_f, kI_e, kL_1]) (by simp (disch := omega) only [kI_o, kI_f, kI_e, kL_1]) (by simp (disch := omega) only [kI_o, kI_f, kI_e, kL_1]) (by simp (disch := omega) only [kI_o, kI_f, kI_e, kL_1]) (by simp (disch := omega) only [kI_o, kI_f, kI_e, kL_1]; exact d5) (by simp (disch := omega) only [kI_o, kI_f, kI_e, kL_1]; exact d6) (by simp (disch := omega) only [kI_o, kI_f, kI_e, kL_1]; exact d7) (by simp (disch := omega) only [kI_o, kI_f, kI_e, kL_1]) (by simp (disch := omega) only [kI_o, kI_f, kI_e, kL_1]), fun g => ?_⟩
                · rw [kI_at]; simp (disch := omega) only [kI_o, kI_f, kI_e, kL_1]
                · show (kL a 10 c (lN (e128 l1))).2 10 k = _
                  rw [kL_at]
                · show (kL a 10 c (lN (e128 l1))).2 8 k = _
                  rw [kL_o _ _ _ _ (by decide)]
                · show (kL b 174 (28 + c) (lN (e256 l1))).2 174 (18 + k) = _
                  rw [kL_at]
                  by_cases g9 : k = 10 + c
                  · rw [if_pos g9, if_pos (by omega)]
                  · rw [if_neg g9, if_neg (by omega)]; rfl
                · have := g1.1 (Or.inl hN1.1); have := g2.1 (Or.inl hH.1); have := g3.1 (Or.inl hN3.1); have := g4.1 (Or.inr (Or.inr g)); omega
              · rw [if_neg hf, if_neg hf]
                simp only [Sum.elim_inl, c_fail h7, Option.bind_some, zb_0]
                exact sm_bad h7 (k := 3) (by decide) rfl rfl
            · have hx2 := ac_5 h6 (k := 5) (x := mN) (Or.inr rfl)
              simp (disch := omega) only [ef, ↓reduceIte, mN_nle, u_bad h6, Option.bind_some, zb_0]
              exact sm_bad hx2 (k := 3) (by decide) rfl rfl
          · rw [if_neg hN3, if_neg hN3]
            simp only [↓reduceIte, u_bad h6, Option.bind_some, zb_0]
            exact sm_bad h6 (k := 1) (by decide) rfl rfl
        · rw [if_neg hH, if_pos rfl, if_pos rfl]
          have h5 := au_I h4 (q := 172) (k := 1) (x := nI (c + 1)) (Or.inl rfl)
          have w1 : (kI u2 172 (123 + c) mN).1 172 1 = nI c := by rw [kI_f (by omega), u172]; exact H1
          unfold f_Mod_readHouse_J142
          simp (disch := omega) only [fl, Nat.reduceAdd, zq_172, nI_add, st_nI, ld_nI, w1, Option.bind_some]
          refine sm_ok rfl rfl ⟨hκ, _, _, _, _, _, _, _, h5, Di_fin hD (Co_house (H := b.1 172) (N := Nb b) (k0 := c) (l := l1) (w := mN) hC ec (by omega) hl1 (Or.inl rfl) (by simp (disch := omega) only [kI_o, kI_f, kI_e, kL_1]) (by simp (disch := omega) only [kI_o, kI_f, kI_e, kL_1]) (by simp (disch := omega) only [kI_o, kI_f, kI_e, kL_1]) (by simp (disch := omega) only [kI_o, kI_f, kI_e, kL_1]) (by simp (disch := omega) only [kI_o, kI_f, kI_e, kL_1]) (by simp (disch := omega) only [kI_o, kI_f, kI_e, kL_1]) (by simp (disch := omega) only [kI_o, kI_f, kI_e, kL_1]) (fun k => ?_) (by simp (disch := omega) only [kI_o, kI_f, kI_e, kL_1]) (fun k => ?_) (funext fun k => ?_) (by simp (disch := omega) only [kI_o, kI_f, kI_e, kL_1]) (by simp (disch := omega) only [kI_o, kI_f, kI_e, kL_1]) (fun q q1 q2 => (by simp (disch := omega) only [kI_o, kI_f, kI_e, kL_1])) (fun k => ?_)) (by simp (disch := omega) only [kI_o, kI_f, kI_e, kL_1]) (by simp (disch := omega) only [kI_o, kI_f, kI_e, kL_1]) (by simp (disch := omega) only [kI_o, kI_f, kI_e, kL_1]) (by simp (disch := omega) only [kI_o, kI_f, kI_e, kL_1]) (by simp (disch := omega) only [kI_o, kI_f, kI_e, kL_1]; exact d5) (by simp (disch := omega) only [kI_o, kI_f, kI_e, kL_1]; exact d6) (by simp (disch := omega) only [kI_o, kI_f, kI_e, kL_1]; exact d7) (by simp (disch := omega) only [kI_o, kI_f, kI_e, kL_1]) (by simp (disch := omega) only [kI_o, kI_f, kI_e, kL_1]), fun g => ?_⟩
          · by_cases g9 : k = c
            · rw [if_pos g9, g9]
              simp (disch := omega) only [kI_o, kI_f, kI_e, kL_1]
              have := hC.2.2.1.1 c (by omega)
              exact this.trans (hC.2.2.2.1.2.2.2.2.2.1 c (by omega) (by omega))
            · rw [if_neg g9]; simp (disch := omega) only [kI_o, kI_f, kI_e, kL_1]
          · show (kL a 10 c (lN (e128 l1))).2 10 k = _
            rw [kL_at]
          · show (kL a 10 c (lN (e128 l1))).2 8 k = _
            rw [kL_o _ _ _ _ (by decide)]
          · show (kL b 174 (28 + c) (lN (e256 l1))).2 174 (18 + k) = _
            rw [kL_at]
            by_cases g9 : k = 10 + c
            · rw [if_pos g9, if_pos (by omega)]
            · rw [if_neg g9, if_neg (by omega)]; rfl
          · have := g1.1 (Or.inl hN1.1); have := g2.1 (Or.inr (Or.inr g)); omega
      · rw [if_neg hfr, if_neg hfr]
        simp only [Option.bind_some, ↓reduceIte]
        exact sm_bad h1 (k := 3) (by decide) rfl rfl
    · rw [if_neg hN1, if_neg hN1]
      simp only [Option.bind_some, ↓reduceIte]
      exact sm_bad h1 (k := 1) (by decide) rfl rfl
end ISL8
