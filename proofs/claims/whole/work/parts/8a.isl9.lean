section ISL9
variable {M0 U0 a b m u : Mm} {t : Nat → Nat} {sz lim κ v ap np : Nat} {l : List Nat} {i : Nat}
theorem il_name (hT : Tp M0 U0 t sz lim) (h : At M0 U0 sz lim a b m u κ l v ap np) (hκ : κ = 1) (hD : Di i a b) : Sm M0 U0 (Ln M0 U0 sz lim np κ (fun a b => a.1 1 2 = nI i ∧ b.1 169 19 = nI i ∧ Di (i + 1) (kI a 1 2 (nI (i + 1))) (kI b 169 19 (nI (i + 1))))) (f_Reader_nameLine z_Law m 1) (f_Mod_readName z_Law u 169) := by
  obtain ⟨d1, d2, d3, d4, d5, d6, d7, d8, d9, hC⟩ := id hD
  have n10 := hC.2.2.2.1.1.2
  have m8 := hC.2.2.2.1.2.1.2
  obtain ⟨n, en⟩ : ∃ n, n = sn (b.1 172) := ⟨_, rfl⟩
  have H0 : b.1 172 0 = nI n := by rw [en]; exact hC.2.2.2.1.1.1
  have H1 : b.1 172 1 = nI (sm (b.1 172)) := hC.2.2.2.1.2.1.1
  obtain ⟨c1, c2, c3, c4, c5, c6, c7⟩ := il_N h hC rfl rfl rfl rfl rfl
  rw [← en] at n10 c1
  unfold f_Reader_nameLine f_Mod_readName
  simp only [fl, fl64, fmN, mm_lt, Nat.reduceAdd]
  rw [c_full c1 (r := 10) rfl (by decide) n10, c5, zq_172, ld_nI (by decide) (by decide), H0, Option.bind_some, Option.bind_some]
  by_cases hc8 : n = 10
  · rw [if_pos hc8, hc8]
    simp (disch := omega) only [eq_f, ↓reduceIte, c_fail h, u_bad h, Option.bind_some, zb_0]
    exact sm_bad h (k := 4) (by decide) rfl rfl
  · rw [if_neg hc8]
    obtain ⟨m1, u1, κ1, l1, v1, ap1, np1, z1, z2, h1, g1⟩ := at_step hT h (Or.inl hκ)
    obtain ⟨q1, q2, q3, q4, q5, q6, q7⟩ := il_N h1 hC rfl rfl rfl rfl rfl
    rw [← en] at q1
    simp (disch := omega) only [eq_f, ↓reduceIte, z1, z2, Option.bind_some, nI_add]
    rw [c_new h1 (N := Nb b) n10 m8 q1 q2 (fun k hk => q3 k (by omega)) q4, u_fr hT h1 (N := Nb b) (n := n) (c := sm (b.1 172)) (to := 18 + n) n10 m8 (by omega) q5 H0 H1 (fun k _ => q6 k) (fun k _ => q7 k), Option.bind_some]
    by_cases hN1 : κ1 = 1 ∧ rwd l1 = mN
    · rw [if_pos hN1, if_pos hN1]
      by_cases hfr : fd (pnm (Nb b) l1) n = mN ∧ fd (pnm (fun k => Nb b (10 + k)) l1) (sm (b.1 172)) = mN
      · rw [if_pos hfr, if_pos hfr]
        have hl1 : okl l1 := h1.2.2.2.2.1 hN1.1
        have x27 : m1.2 2 7 = lN (e128 l1) := h1.2.1.2.2.2.1 hN1.1
        have h2 := au_L (ac_I (ac_L h1 (q := 8) (k := n) (x := lN (e128 l1)) (by decide)) (q := 7) (k := 1) (x := nI (n + 1)) (by decide)) (k := 18 + n) (x := lN (e256 l1)) (by omega)
        obtain ⟨m2, u2, κ2, l2, v2, ap2, np2, z3, z4, h3, g2⟩ := at_step hT h2 (Or.inl hN1.1)
        have hadd := c_add (m := m1) (o := 7) (n := n) (r := 10) (x := lN (e128 l1)) q1 rfl (by decide) (by omega)
        simp (disch := omega) only [eq_f, ↓reduceIte, x27, hadd, z3, z4, Option.bind_some]
        rw [c_isNum h3 (by decide) (by decide), u_takes h3 (by decide) (by decide), Option.bind_some]
        by_cases hK : κ2 = 2
        · rw [if_pos hK, if_pos hK]
          by_cases hR' : 0 ≤ v2 ∧ v2 ≤ 99
          · rw [if_pos hR', if_pos hR']
            have x26 : m2.1 2 6 = nI v2 := h3.2.1.2.2.2.2.1 hK
            have h4 := au_g (ac_I h3 (q := 12) (k := n) (x := nI v2) (by decide)) (k := 18) (x := nI v2) (Or.inr rfl)
            obtain ⟨m3, u3, κ3, l3, v3, ap3, np3, z5, z6, h5, g3⟩ := at_step hT h4 (Or.inr (Or.inl hK))
            have e18 : u3.1 169 18 = nI v2 := by rw [g3.2.2.2 18 (by decide) (by decide) (by decide) (by decide) (by decide)]; exact kI_e
            have h6 := au_I h5 (q := 172) (k := 5 + n) (x := nI v2) (Or.inl rfl)
            simp (disch := omega) only [eq_f, ↓reduceIte, x26, row_putE (p := 12) rfl zq_12, z5, z6, Option.bind_some, e18, zq_172, nI_add, st_nI]
            rw [c_isW h6, c_isW h6, u_isW h6 (j := 1) (c := 109356082488676) (by decide) (by decide +kernel), u_isW h6 (j := 2) (c := 123563917862244) (by decide) (by decide +kernel), Option.bind_some, Option.bind_some, Option.bind_some, Option.bind_some]
            have J118 : ∀ kd, (if κ3 = 1 ∧ rwd l3 = nI 1 then nI 1 else nI 2) = nI kd → f_Reader_nameLine_J118 z_Law 1 (nI n) m3 = f_Reader_nameLine_J139 z_Law 1 (nI n) (nI kd) m3 := by
              intro kd hkd
              unfold f_Reader_nameLine_J118
              simp only [fl, Nat.reduceAdd]
              rw [c_isW h6, Option.bind_some, ← hkd]
              by_cases g : κ3 = 1 ∧ rwd l3 = nI 1
              · rw [if_pos g, if_pos g, if_neg (show ¬ nI 1 = nI 0 by decide)]
              · rw [if_neg g, if_neg g, if_pos rfl]
            by_cases hW : κ3 = 1 ∧ rwd l3 = nI 1
            · rw [J118 1 (by rw [if_pos hW]), if_pos hW, if_neg (show ¬ nI 1 = nI 0 by decide), if_neg (show ¬ nI 1 = nI 0 by decide)]
              have h7 := au_I (ac_I h6 (q := 14) (k := n) (x := nI 1) (by decide)) (q := 172) (k := 15 + n) (x := nI 1) (Or.inl rfl)
              obtain ⟨m4, u4, κ4, l4, v4, ap4, np4, z7, z8, h8, g4⟩ := at_step hT h7 (Or.inl hW.1)
              have h9 := au_I h8 (q := 172) (k := 0) (x := nI (n + 1)) (Or.inl rfl)
              have w0 : u4.1 172 0 = nI n := by
                rw [(h8.1.2.2.2.1.1 172 (by decide)).1, kI_f (by omega), kI_f (by omega)]
                show b.1 172 0 = _
                exact H0
              have w15 : (kI (kI u3 172 (5 + n) (nI v2)) 172 (15 + n) (nI 1)).1 172 (15 + n) = nI 1 := kI_e
              unfold f_Mod_readName_J97 f_Mod_readName_J114 f_Reader_nameLine_J139
              simp (disch := omega) only [fl, Nat.reduceAdd, zq_172, nI_add, st_nI, ld_nI, w15, le_f, ↓reduceIte, row_putE (p := 14) rfl zq_14, z7, z8, w0, Option.bind_some]
              refine sm_ok rfl rfl ⟨hκ, _, _, _, _, _, _, _, h9, Di_fin hD (Co_name (H := b.1 172) (N := Nb b) (n := n) (l := l1) (v := nI v2) (kd := nI 1) hC en (by omega) hl1 (by simp (disch := omega) only [kI_o, kI_f, kI_e, kL_1]) (by simp (disch := omega) only [kI_o, kI_f, kI_e, kL_1]) (by simp (disch := omega) only [kI_o, kI_f, kI_e, kL_1]) (fun x => ?_) (fun x => ?_) (by simp (disch := omega) only [kI_o, kI_f, kI_e, kL_1]) (by simp (disch := omega) only [kI_o, kI_f, kI_e, kL_1]) (by simp (disch := omega) only [kI_o, kI_f, kI_e, kL_1]) (by simp (disch := omega) only [kI_o, kI_f, kI_e, kL_1]) (fun k => ?_) (funext fun k => ?_) (by simp (disch := omega) only [kI_o, kI_f, kI_e, kL_1]) (by simp (disch := omega) only [kI_o, kI_f, kI_e, kL_1]) (by simp (disch := omega) only [kI_o, kI_f, kI_e, kL_1]) (fun q q1 q2 q3 => (by simp (disch := omega) only [kI_o, kI_f, kI_e, kL_1])) (fun k => ?_)) (by simp (disch := omega) only [kI_o, kI_f, kI_e, kL_1]) (by simp (disch := omega) only [kI_o, kI_f, kI_e, kL_1]) (by simp (disch := omega) only [kI_o, kI_f, kI_e, kL_1]) (by simp (disch := omega) only [kI_o, kI_f, kI_e, kL_1]) (by simp (disch := omega) only [kI_o, kI_f, kI_e, kL_1]; exact d5) (by simp (disch := omega) only [kI_o, kI_f, kI_e, kL_1]; exact d6) (by simp (disch := omega) only [kI_o, kI_f, kI_e, kL_1]; exact d7) (by simp (disch := omega) only [kI_o, kI_f, kI_e, kL_1]) (by simp (disch := omega) only [kI_o, kI_f, kI_e, kL_1]), fun g => ?_⟩
              · rw [kI_o _ _ _ _ (by decide), kI_at]; simp (disch := omega) only [kI_o, kI_f, kI_e, kL_1]
              · rw [kI_at]; simp (disch := omega) only [kI_o, kI_f, kI_e, kL_1]
              · show (kL a 8 n (lN (e128 l1))).2 8 k = _
                rw [kL_at]
              · show (kL a 8 n (lN (e128 l1))).2 10 k = _
                rw [kL_o _ _ _ _ (by decide)]
              · show (kL b 174 (18 + n) (lN (e256 l1))).2 174 (18 + k) = _
                rw [kL_at]
                by_cases g9 : k = n
                · rw [if_pos g9, if_pos (by omega)]
                · rw [if_neg g9, if_neg (by omega)]; rfl
              · have := g1.1 (Or.inl hN1.1); have := g2.1 (Or.inr (Or.inl hK)); have := g3.1 (Or.inl hW.1); have := g4.1 (Or.inr (Or.inr g)); omega
            · rw [J118 2 (by rw [if_neg hW]), if_neg hW, if_pos rfl, if_pos rfl]
              by_cases hW : κ3 = 1 ∧ rwd l3 = nI 2
              · rw [if_pos hW, if_neg (show ¬ nI 1 = nI 0 by decide), if_neg (show ¬ nI 1 = nI 0 by decide)]
                have h7 := au_I (ac_I h6 (q := 14) (k := n) (x := nI 2) (by decide)) (q := 172) (k := 15 + n) (x := nI 2) (Or.inl rfl)
                obtain ⟨m4, u4, κ4, l4, v4, ap4, np4, z7, z8, h8, g4⟩ := at_step hT h7 (Or.inl hW.1)
                have h9 := au_I h8 (q := 172) (k := 0) (x := nI (n + 1)) (Or.inl rfl)
                have w0 : u4.1 172 0 = nI n := by
                  rw [(h8.1.2.2.2.1.1 172 (by decide)).1, kI_f (by omega), kI_f (by omega)]
                  show b.1 172 0 = _
                  exact H0
                have w15 : (kI (kI u3 172 (5 + n) (nI v2)) 172 (15 + n) (nI 2)).1 172 (15 + n) = nI 2 := kI_e
                unfold f_Mod_readName_J97 f_Mod_readName_J114 f_Reader_nameLine_J139
                simp (disch := omega) only [fl, Nat.reduceAdd, zq_172, nI_add, st_nI, ld_nI, w15, le_f, ↓reduceIte, row_putE (p := 14) rfl zq_14, z7, z8, w0, Option.bind_some]
                refine sm_ok rfl rfl ⟨hκ, _, _, _, _, _, _, _, h9, Di_fin hD (Co_name (H := b.1 172) (N := Nb b) (n := n) (l := l1) (v := nI v2) (kd := nI 2) hC en (by omega) hl1 (by simp (disch := omega) only [kI_o, kI_f, kI_e, kL_1]) (by simp (disch := omega) only [kI_o, kI_f, kI_e, kL_1]) (by simp (disch := omega) only [kI_o, kI_f, kI_e, kL_1]) (fun x => ?_) (fun x => ?_) (by simp (disch := omega) only [kI_o, kI_f, kI_e, kL_1]) (by simp (disch := omega) only [kI_o, kI_f, kI_e, kL_1]) (by simp (disch := omega) only [kI_o, kI_f, kI_e, kL_1]) (by simp (disch := omega) only [kI_o, kI_f, kI_e, kL_1]) (fun k => ?_) (funext fun k => ?_) (by simp (disch := omega) only [kI_o, kI_f, kI_e, kL_1]) (by simp (disch := omega) only [kI_o, kI_f, kI_e, kL_1]) (by simp (disch := omega) only [kI_o, kI_f, kI_e, kL_1]) (fun q q1 q2 q3 => (by simp (disch := omega) only [kI_o, kI_f, kI_e, kL_1])) (fun k => ?_)) (by simp (disch := omega) only [kI_o, kI_f, kI_e, kL_1]) (by simp (disch := omega) only [kI_o, kI_f, kI_e, kL_1]) (by simp (disch := omega) only [kI_o, kI_f, kI_e, kL_1]) (by simp (disch := omega) only [kI_o, kI_f, kI_e, kL_1]) (by simp (disch := omega) only [kI_o, kI_f, kI_e, kL_1]; exact d5) (by simp (disch := omega) only [kI_o, kI_f, kI_e, kL_1]; exact d6) (by simp (disch := omega) only [kI_o, kI_f, kI_e, kL_1]; exact d7) (by simp (disch := omega) only [kI_o, kI_f, kI_e, kL_1]) (by simp (disch := omega) only [kI_o, kI_f, kI_e, kL_1]), fun g => ?_⟩
                · rw [kI_o _ _ _ _ (by decide), kI_at]; simp (disch := omega) only [kI_o, kI_f, kI_e, kL_1]
                · rw [kI_at]; simp (disch := omega) only [kI_o, kI_f, kI_e, kL_1]
                · show (kL a 8 n (lN (e128 l1))).2 8 k = _
                  rw [kL_at]
                · show (kL a 8 n (lN (e128 l1))).2 10 k = _
                  rw [kL_o _ _ _ _ (by decide)]
                · show (kL b 174 (18 + n) (lN (e256 l1))).2 174 (18 + k) = _
                  rw [kL_at]
                  by_cases g9 : k = n
                  · rw [if_pos g9, if_pos (by omega)]
                  · rw [if_neg g9, if_neg (by omega)]; rfl
                · have := g1.1 (Or.inl hN1.1); have := g2.1 (Or.inr (Or.inl hK)); have := g3.1 (Or.inl hW.1); have := g4.1 (Or.inr (Or.inr g)); omega
              · rw [if_neg hW, if_pos rfl, if_pos rfl]
                have h7 := au_I (au_I h6 (q := 172) (k := 15 + n) (x := nI 0) (Or.inl rfl)) (q := 172) (k := 0) (x := nI (n + 1)) (Or.inl rfl)
                have w15 : (kI (kI u3 172 (5 + n) (nI v2)) 172 (15 + n) (nI 0)).1 172 (15 + n) = nI 0 := kI_e
                have w0 : (kI (kI u3 172 (5 + n) (nI v2)) 172 (15 + n) (nI 0)).1 172 0 = nI n := by
                  rw [kI_f (by omega), kI_f (by omega), (h5.1.2.2.2.1.1 172 (by decide)).1]; exact H0
                unfold f_Mod_readName_J97 f_Mod_readName_J114
                simp (disch := omega) only [fl, Nat.reduceAdd, zq_172, nI_add, st_nI, ld_nI, w15, le_t, ↓reduceIte, w0, Option.bind_some]
                refine sm_ok rfl rfl ⟨hκ, _, _, _, _, _, _, _, h7, Di_fin hD (Co_name (H := b.1 172) (N := Nb b) (n := n) (l := l1) (v := nI v2) (kd := nI 0) hC en (by omega) hl1 (by simp (disch := omega) only [kI_o, kI_f, kI_e, kL_1]) (by simp (disch := omega) only [kI_o, kI_f, kI_e, kL_1]) (by simp (disch := omega) only [kI_o, kI_f, kI_e, kL_1]) (fun x => ?_) (fun x => ?_) (by simp (disch := omega) only [kI_o, kI_f, kI_e, kL_1]) (by simp (disch := omega) only [kI_o, kI_f, kI_e, kL_1]) (by simp (disch := omega) only [kI_o, kI_f, kI_e, kL_1]) (by simp (disch := omega) only [kI_o, kI_f, kI_e, kL_1]) (fun k => ?_) (funext fun k => ?_) (by simp (disch := omega) only [kI_o, kI_f, kI_e, kL_1]) (by simp (disch := omega) only [kI_o, kI_f, kI_e, kL_1]) (by simp (disch := omega) only [kI_o, kI_f, kI_e, kL_1]) (fun q q1 q2 q3 => (by simp (disch := omega) only [kI_o, kI_f, kI_e, kL_1])) (fun k => ?_)) (by simp (disch := omega) only [kI_o, kI_f, kI_e, kL_1]) (by simp (disch := omega) only [kI_o, kI_f, kI_e, kL_1]) (by simp (disch := omega) only [kI_o, kI_f, kI_e, kL_1]) (by simp (disch := omega) only [kI_o, kI_f, kI_e, kL_1]) (by simp (disch := omega) only [kI_o, kI_f, kI_e, kL_1]; exact d5) (by simp (disch := omega) only [kI_o, kI_f, kI_e, kL_1]; exact d6) (by simp (disch := omega) only [kI_o, kI_f, kI_e, kL_1]; exact d7) (by simp (disch := omega) only [kI_o, kI_f, kI_e, kL_1]) (by simp (disch := omega) only [kI_o, kI_f, kI_e, kL_1]), fun g => ?_⟩
                · rw [kI_at]; simp (disch := omega) only [kI_o, kI_f, kI_e, kL_1]
                · by_cases g9 : x = n
                  · rw [if_pos g9, g9]
                    simp (disch := omega) only [kI_o, kI_f, kI_e, kL_1]
                    exact (hC.1.2.2.2.2.2.2.1 n (by omega)).trans (hC.2.2.2.2 n (by omega) (by omega))
                  · rw [if_neg g9]; simp (disch := omega) only [kI_o, kI_f, kI_e, kL_1]
                · show (kL a 8 n (lN (e128 l1))).2 8 k = _
                  rw [kL_at]
                · show (kL a 8 n (lN (e128 l1))).2 10 k = _
                  rw [kL_o _ _ _ _ (by decide)]
                · show (kL b 174 (18 + n) (lN (e256 l1))).2 174 (18 + k) = _
                  rw [kL_at]
                  by_cases g9 : k = n
                  · rw [if_pos g9, if_pos (by omega)]
                  · rw [if_neg g9, if_neg (by omega)]; rfl
                · have := g1.1 (Or.inl hN1.1); have := g2.1 (Or.inr (Or.inl hK)); have := g3.1 (Or.inr (Or.inr g)); omega
          · rw [if_neg hR', if_neg hR']
            simp only [Option.bind_some, ↓reduceIte]
            exact sm_bad h3 (k := 2) (by decide) rfl rfl
        · rw [if_neg hK, if_neg hK]
          simp only [Option.bind_some, ↓reduceIte]
          exact sm_bad h3 (k := 1) (by decide) rfl rfl
      · rw [if_neg hfr, if_neg hfr]
        simp only [Option.bind_some, ↓reduceIte]
        exact sm_bad h1 (k := 3) (by decide) rfl rfl
    · rw [if_neg hN1, if_neg hN1]
      simp only [Option.bind_some, ↓reduceIte]
      exact sm_bad h1 (k := 1) (by decide) rfl rfl
end ISL9
