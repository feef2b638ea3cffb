/-! a LINE of a BOOK -/
section BOOK
variable {M0 U0 a b m u : Mm} {t : Nat → Nat} {sz lim κ v ap np : Nat} {l : List Nat} {S : Nat → Int32} {A0 : Mm} {N : Nat → Int64} {i : Nat}
def Db (A0 : Mm) (S : Nat → Int32) (i : Nat) (a b : Mm) : Prop := i ≤ 30 ∧ a.1 1 2 = nI i ∧ b.1 169 29 = nI i ∧ a.1 1 3 = nI 0 ∧ b.1 169 15 = nI 0 ∧ (∀ q, 5 ≤ q → q < 35 → q ≠ 5 → a.1 q = A0.1 q) ∧ (∀ k, k ≠ 7 → a.1 5 k = A0.1 5 k) ∧ (∀ q, 5 ≤ q → q < 40 → a.2 q = A0.2 q) ∧ a.1 5 7 = nI i ∧ (∀ j, j < i → bookOK (sn S) (sm S) (b.1 173 (1 + 4 * j)) (b.1 173 (2 + 4 * j)) (b.1 173 (3 + 4 * j))) ∧ ∀ j, j < i → a.1 35 j = bkw (b.1 173 (1 + 4 * j)) ∧ (b.1 173 (1 + 4 * j) ≠ nI 5 → a.1 37 j = b.1 173 (2 + 4 * j)) ∧ (b.1 173 (1 + 4 * j) ≠ nI 5 → b.1 173 (1 + 4 * j) ≠ nI 2 → a.1 39 j = b.1 173 (3 + 4 * j))
theorem Db_next {a' b' : Mm} {w x y : Int32} (hD : Db A0 S i a b) (hi : i < 30) (hb : bookOK (sn S) (sm S) w x y) (e1 : a'.1 1 2 = a.1 1 2) (e2 : a'.1 1 3 = a.1 1 3) (e3 : ∀ q, 5 ≤ q → q < 35 → q ≠ 5 → a'.1 q = a.1 q) (e4 : ∀ k, k ≠ 7 → a'.1 5 k = a.1 5 k) (e5 : a'.2 = a.2) (e6 : a'.1 5 7 = nI (i + 1)) (r1 : ∀ j, j < i → a'.1 35 j = a.1 35 j ∧ a'.1 37 j = a.1 37 j ∧ a'.1 39 j = a.1 39 j) (r2 : a'.1 35 i = bkw w) (r3 : w ≠ nI 5 → a'.1 37 i = x) (r4 : w ≠ nI 5 → w ≠ nI 2 → a'.1 39 i = y) (f1 : b'.1 169 = b.1 169) (f2 : ∀ j, j < 1 + 4 * i → b'.1 173 j = b.1 173 j) (f3 : b'.1 173 (1 + 4 * i) = w) (f4 : b'.1 173 (2 + 4 * i) = x) (f5 : b'.1 173 (3 + 4 * i) = y) : a'.1 1 2 = nI i ∧ b'.1 169 29 = nI i ∧ Db A0 S (i + 1) (kI a' 1 2 (nI (i + 1))) (kI b' 169 29 (nI (i + 1))) := by
  obtain ⟨d1, d2, d3, d4, d5, d6, d7, d8, d9, d10, d11⟩ := hD
  have bo : ∀ q, q ≠ 169 → (kI b' 169 29 (nI (i + 1))).1 q = b'.1 q := fun q hq => kI_o _ _ _ _ hq
  have ao : ∀ q, q ≠ 1 → (kI a' 1 2 (nI (i + 1))).1 q = a'.1 q := fun q hq => kI_o _ _ _ _ hq
  refine ⟨e1.trans d2, by rw [f1]; exact d3, by omega, kI_e, kI_e, ?_, ?_, fun q h1 h2 h3 => ?_, fun k hk => ?_, fun q h1 h2 => ?_, ?_, fun j hj => ?_, fun j hj => ?_⟩
  · rw [kI_f (by decide), e2]; exact d4
  · rw [kI_f (by decide), f1]; exact d5
  · rw [ao q (by omega), e3 q h1 h2 h3]; exact d6 q h1 h2 h3
  · rw [ao 5 (by decide), e4 k hk]; exact d7 k hk
  · show a'.2 q = _; rw [e5]; exact d8 q h1 h2
  · rw [ao 5 (by decide)]; exact e6
  · rw [bo 173 (by decide)]
    by_cases g : j = i
    · subst g; rw [f3, f4, f5]; exact hb
    · rw [f2 _ (by omega), f2 _ (by omega), f2 _ (by omega)]; exact d10 j (by omega)
  · rw [bo 173 (by decide), ao 35 (by decide), ao 37 (by decide), ao 39 (by decide)]
    by_cases g : j = i
    · subst g; rw [f3, f4, f5]; exact ⟨r2, r3, r4⟩
    · rw [f2 _ (by omega), f2 _ (by omega), f2 _ (by omega), (r1 j (by omega)).1, (r1 j (by omega)).2.1, (r1 j (by omega)).2.2]; exact d11 j (by omega)
theorem Db_N {m u : Mm} (hS : U0.1 171 = S) (hN : ∀ k, k < 18 → U0.2 174 k = N k) (hA : NM S N A0) {a b : Mm} (ha7 : a.1 7 = A0.1 7) (ha9 : a.1 9 = A0.1 9) (ha2 : ∀ q, 5 ≤ q → q < 40 → a.2 q = A0.2 q) (h : At M0 U0 sz lim a b m u κ l v ap np) : m.1 7 1 = nI (sn S) ∧ m.1 9 1 = nI (sm S) ∧ (∀ x, x < sn S → WR (N x) (m.2 8 x)) ∧ (∀ k, k < sm S → WR (N (10 + k)) (m.2 10 k)) ∧ u.1 171 = S ∧ (∀ k, k < 18 → u.2 174 k = N k) := by
  refine ⟨?_, ?_, fun x hx => ?_, fun k hk => ?_, (h.1.2.1.1 171 (by decide) (by decide) (by decide)).trans hS, fun k hk => (h.1.2.1.2.2.2 k hk).trans (hN k hk)⟩
  · rw [h.1.2.2.1.1 7 (by decide) (by decide), ha7]; exact hA.1
  · rw [h.1.2.2.1.1 9 (by decide) (by decide), ha9]; exact hA.2.1
  · rw [h.1.2.2.1.2.1 8 (by decide), ha2 8 (by decide) (by decide)]; exact hA.2.2.1 x hx
  · rw [h.1.2.2.1.2.1 10 (by decide), ha2 10 (by decide) (by decide)]; exact hA.2.2.2 k hk
theorem bk_0 (hT : Tp M0 U0 t sz lim) (hS : U0.1 171 = S) (hv : Inv S) (hN : ∀ k, k < 18 → U0.2 174 k = N k) (hA : NM S N A0) (hP : A0.1 6 6 = nI (pw S)) (h : At M0 U0 sz lim a b m u κ l v ap np) (hκ : κ = 1) (hD : Db A0 S i a b) : Sm M0 U0 (Ln M0 U0 sz lim np κ (fun a b => a.1 1 2 = nI i ∧ b.1 169 29 = nI i ∧ Db A0 S (i + 1) (kI a 1 2 (nI (i + 1))) (kI b 169 29 (nI (i + 1))))) (f_Reader_bookLine_J32 z_Law 1 (nI 12) m) (f_Mod_bookLine_J85 z_Law 169 (nI 0) u) := by
  have n10 := iv_n10 hv
  have m8 := iv_m8 hv
  have hpw := iv_p hv
  obtain ⟨d1, d2, d3, d4, d5, d6, d7, d8, d9, d10, d11⟩ := id hD
  have a7 : a.1 7 = A0.1 7 := d6 7 (by decide) (by decide) (by decide)
  have a9 : a.1 9 = A0.1 9 := d6 9 (by decide) (by decide) (by decide)
  have cl2 : m.1 1 2 = nI i := (h.1.2.2.1.2.2 2 (by decide)).trans d2
  have ul2 : u.1 169 29 = nI i := (h.1.2.2.2.1.2 29 (by decide)).trans d3
  unfold f_Reader_bookLine_J32 f_Mod_bookLine_J85
  simp only [fl, fl64, fmN, mm_lt, Nat.reduceAdd]
  rw [if_pos (show nI 0 ≤ nI 0 by decide), cl2, ul2]
  by_cases hi : i = 30
  · subst hi
    simp (disch := omega) only [lt_f, ↓reduceIte, c_fail h, u_bad h, Option.bind_some, zb_0]
    exact sm_bad h (k := 4) (by decide) rfl rfl
  · obtain ⟨m1, u1, κ1, l1, v1, ap1, np1, z1, z2, h1, g1⟩ := at_step hT h (Or.inl hκ)
    simp (disch := omega) only [lt_t, eq_f, ↓reduceIte, z1, z2, Option.bind_some, nI_mul, nI_add, zq_173, zq_171, st_nI]
    have h2 := au_I (au_I (au_I h1 (q := 173) (k := 1 + 4 * i) (x := nI 0) (Or.inr rfl)) (q := 173) (k := 1 + 4 * i + 1) (x := nI 0) (Or.inr rfl)) (q := 173) (k := 1 + 4 * i + 2) (x := nI 0) (Or.inr rfl)
    have e1 : m1.1 1 2 = nI i := (h2.1.2.2.1.2.2 2 (by decide)).trans d2
    obtain ⟨U1, eU1⟩ : ∃ U1, kI (kI (kI u1 173 (1 + 4 * i) (nI 0)) 173 (1 + 4 * i + 1) (nI 0)) 173 (1 + 4 * i + 2) (nI 0) = U1 := ⟨_, rfl⟩
    rw [eU1] at h2
    obtain ⟨c1, c2, c3, c4, c5, c6⟩ := Db_N hS hN hA a7 a9 d8 h2
    simp only [eU1]
    rw [c_one h2 (o := 9) (n := sm S) (r := 8) (N := fun k => N (10 + k)) rfl (by decide) m8 c2 c4, c5, ld_nI (by decide) (by decide), iv_m hv, Option.bind_some, Option.bind_some, u_tnm hT h2 (f := 10) (n := sm S) (by omega), pnm_c (N := fun k => U1.2 174 (10 + k)) (N' := fun k => N (10 + k)) (fun k hk => c6 _ (by omega))]
    by_cases hN1 : κ1 = 1 ∧ rwd l1 = mN
    · rw [if_pos hN1, if_pos hN1]
      rcases fd_cases (pnm (fun k => N (10 + k)) l1) (sm S) with ⟨k, hk, -, -, ef⟩ | ⟨-, ef⟩
      · have hkn : ¬ nI k = mN := hq_ne (n := k) (by omega)
        rw [ef, if_neg hkn, if_neg hkn]
        have h3 := au_g (ac_5 h2 (k := 5) (x := nI k) (Or.inr rfl)) (k := 18) (x := nI k) (Or.inr rfl)
        have h4 := ac_I h3 (q := 37) (k := i) (x := nI k) (by decide)
        obtain ⟨m2, u2, κ2, l2, v2, ap2, np2, z3, z4, h5, g2⟩ := at_step hT h4 (Or.inl hN1.1)
        have e18 : u2.1 169 18 = nI k := by rw [g2.2.2.2 18 (by decide) (by decide) (by decide) (by decide) (by decide)]; exact kI_e
        have x1 : (kI m1 1 5 (nI k)).1 1 2 = nI i := by rw [kI_f (by decide)]; exact e1
        have x2 : (kI m1 1 5 (nI k)).1 1 5 = nI k := kI_e
        have h6 := au_I h5 (q := 173) (k := 1 + 4 * i + 1) (x := nI k) (Or.inr rfl)
        simp (disch := omega) only [↓reduceIte, eq_f, x1, x2, row_putE (p := 37) rfl zq_37, Option.bind_some, z3, z4, e18, st_nI]
        obtain ⟨U2, eU2⟩ : ∃ U2, kI u2 173 (1 + 4 * i + 1) (nI k) = U2 := ⟨_, rfl⟩
        rw [eU2] at h6
        simp only [eU2]
        have b7 : (kI a 37 i (nI k)).1 7 = A0.1 7 := (kI_o _ _ _ _ (by decide)).trans a7
        have b9 : (kI a 37 i (nI k)).1 9 = A0.1 9 := (kI_o _ _ _ _ (by decide)).trans a9
        have x12 : m2.1 1 2 = nI i := (h6.1.2.2.1.2.2 2 (by decide)).trans ((congrFun (kI_o _ _ _ _ (by decide)) 2).trans d2)
        obtain ⟨q1, q2, q3, q4, q5, q6⟩ := Db_N (a := kI a 37 i (nI k)) hS hN hA b7 b9 d8 h6
        unfold f_Reader_bookLine_J104 f_Reader_isSecond
        simp (disch := omega) only [fl, mm_lt, Nat.reduceAdd, eq_f, ↓reduceIte]
        rw [c_one h6 (o := 9) (n := sm S) (r := 8) (N := fun k => N (10 + k)) rfl (by decide) m8 q2 q4, q5, ld_nI (by decide) (by decide), iv_m hv, Option.bind_some, Option.bind_some, u_tnm hT h6 (f := 10) (n := sm S) (by omega), pnm_c (N := fun k => U2.2 174 (10 + k)) (N' := fun k => N (10 + k)) (fun k hk => q6 _ (by omega))]
        by_cases hN2 : κ2 = 1 ∧ rwd l2 = mN
        · rw [if_pos hN2, if_pos hN2]
          rcases fd_cases (pnm (fun k => N (10 + k)) l2) (sm S) with ⟨k2, hk2, -, -, ef2⟩ | ⟨-, ef2⟩
          · have hkn2 : ¬ nI k2 = mN := hq_ne (n := k2) (by omega)
            rw [ef2, if_neg hkn2, if_neg hkn2]
            have h7 := ac_I (au_g (ac_5 h6 (k := 5) (x := nI k2) (Or.inr rfl)) (k := 18) (x := nI k2) (Or.inr rfl)) (q := 39) (k := i) (x := nI k2) (by decide)
            obtain ⟨m3, u3, κ3, l3, v3, ap3, np3, z5, z6, h8, g3⟩ := at_step hT h7 (Or.inl hN2.1)
            have e18' : u3.1 169 18 = nI k2 := by rw [g3.2.2.2 18 (by decide) (by decide) (by decide) (by decide) (by decide)]; exact kI_e
            have y1 : (kI m2 1 5 (nI k2)).1 1 2 = nI i := by rw [kI_f (by decide)]; exact x12
            have y2 : (kI m2 1 5 (nI k2)).1 1 5 = nI k2 := kI_e
            have h8' := au_I h8 (q := 173) (k := 1 + 4 * i + 2) (x := nI k2) (Or.inr rfl)
            unfold f_Reader_bookLine_J157 f_Mod_bookLine_J255
            simp (disch := omega) only [fl, Nat.reduceAdd, zb_1, Option.bind_some, eq_f, ↓reduceIte, y1, y2, row_putE (p := 39) rfl zq_39, z5, z6, e18', nI_add, zq_173, st_nI]
            unfold f_Reader_bookLine_J167
            have eL : m3.1 1 2 = nI i := (h8'.1.2.2.1.2.2 2 (by decide)).trans (by simp (disch := omega) only [kI_o, kI_f, kI_e]) |>.trans d2
            have eL2 : ∀ w, (kI m3 35 i w).1 1 2 = nI i := fun w => by rw [kI_o _ _ _ _ (by decide)]; exact eL
            simp (disch := omega) only [fl, mm_lt, Nat.reduceAdd, ↓reduceIte, eq_f, eL, row_putE (p := 35) rfl zq_35, Option.bind_some, eL2, nI_add]
            have h9 := ac_I (ac_I h8' (q := 35) (k := i) (x := nI 12) (by decide)) (q := 5) (k := 7) (x := nI (i + 1)) (by decide)
            refine sm_ok rfl rfl ⟨hκ, _, _, _, _, _, _, _, h9, Db_next (w := nI 0) (x := nI k) (y := nI k2) hD (by omega) ?_ (by simp (disch := omega) only [kI_o, kI_f, kI_e]) (by simp (disch := omega) only [kI_o, kI_f, kI_e]) (fun q h1 h2 h3 => (by simp (disch := omega) only [kI_o, kI_f, kI_e])) (fun k hk => (by simp (disch := omega) only [kI_o, kI_f, kI_e])) rfl (by simp (disch := omega) only [kI_o, kI_f, kI_e]) (fun j hj => ⟨(by simp (disch := omega) only [kI_o, kI_f, kI_e]), (by simp (disch := omega) only [kI_o, kI_f, kI_e]), (by simp (disch := omega) only [kI_o, kI_f, kI_e])⟩) (by simp (disch := omega) only [kI_o, kI_f, kI_e]; decide) (fun _ => (by simp (disch := omega) only [kI_o, kI_f, kI_e])) (fun _ _ => (by simp (disch := omega) only [kI_o, kI_f, kI_e])) (by simp (disch := omega) only [kI_o, kI_f, kI_e]) (fun j hj => (by simp (disch := omega) only [kI_o, kI_f, kI_e])) (by simp (disch := omega) only [kI_o, kI_f, kI_e]) (by rw [show 2 + 4 * i = 1 + 4 * i + 1 by omega]; simp (disch := omega) only [kI_o, kI_f, kI_e]) (by rw [show 3 + 4 * i = 1 + 4 * i + 2 by omega]; simp (disch := omega) only [kI_o, kI_f, kI_e]), fun g => ?_⟩
            · exact ⟨⟨0, by decide, rfl⟩, fun _ => ⟨k, hk, rfl⟩, fun _ => ⟨k2, hk2, rfl⟩, fun g => absurd g (by decide), fun g => absurd g (by decide)⟩
            · have := g1.1 (Or.inl hN1.1); have := g2.1 (Or.inl hN2.1); have := g3.1 (Or.inr (Or.inr g)); omega
          · rw [ef2, if_pos rfl, if_pos rfl]
            simp only [zb_0, Option.bind_some, ↓reduceIte]
            exact sm_bad (au_g (ac_5 h6 (k := 5) (x := mN) (Or.inr rfl)) (k := 18) (x := mN) (Or.inr rfl)) (k := 3) (by decide) rfl rfl
        · rw [if_neg hN2, if_neg hN2]
          simp only [zb_0, Option.bind_some, ↓reduceIte]
          exact sm_bad h6 (k := 1) (by decide) rfl rfl
      · rw [ef, if_pos rfl, if_pos rfl]
        simp only [Option.bind_some, ↓reduceIte]
        exact sm_bad (au_g (ac_5 h2 (k := 5) (x := mN) (Or.inr rfl)) (k := 18) (x := mN) (Or.inr rfl)) (k := 3) (by decide) rfl rfl
    · rw [if_neg hN1, if_neg hN1]
      simp only [Option.bind_some, ↓reduceIte]
      exact sm_bad h2 (k := 1) (by decide) rfl rfl
theorem bk_1 (hT : Tp M0 U0 t sz lim) (hS : U0.1 171 = S) (hv : Inv S) (hN : ∀ k, k < 18 → U0.2 174 k = N k) (hA : NM S N A0) (hP : A0.1 6 6 = nI (pw S)) (h : At M0 U0 sz lim a b m u κ l v ap np) (hκ : κ = 1) (hD : Db A0 S i a b) : Sm M0 U0 (Ln M0 U0 sz lim np κ (fun a b => a.1 1 2 = nI i ∧ b.1 169 29 = nI i ∧ Db A0 S (i + 1) (kI a 1 2 (nI (i + 1))) (kI b 169 29 (nI (i + 1))))) (f_Reader_bookLine_J32 z_Law 1 (nI 13) m) (f_Mod_bookLine_J85 z_Law 169 (nI 1) u) := by
  have n10 := iv_n10 hv
  have m8 := iv_m8 hv
  have hpw := iv_p hv
  obtain ⟨d1, d2, d3, d4, d5, d6, d7, d8, d9, d10, d11⟩ := id hD
  have a7 : a.1 7 = A0.1 7 := d6 7 (by decide) (by decide) (by decide)
  have a9 : a.1 9 = A0.1 9 := d6 9 (by decide) (by decide) (by decide)
  have cl2 : m.1 1 2 = nI i := (h.1.2.2.1.2.2 2 (by decide)).trans d2
  have ul2 : u.1 169 29 = nI i := (h.1.2.2.2.1.2 29 (by decide)).trans d3
  unfold f_Reader_bookLine_J32 f_Mod_bookLine_J85
  simp only [fl, fl64, fmN, mm_lt, Nat.reduceAdd]
  rw [if_pos (show nI 0 ≤ nI 1 by decide), cl2, ul2]
  by_cases hi : i = 30
  · subst hi
    simp (disch := omega) only [lt_f, ↓reduceIte, c_fail h, u_bad h, Option.bind_some, zb_0]
    exact sm_bad h (k := 4) (by decide) rfl rfl
  · obtain ⟨m1, u1, κ1, l1, v1, ap1, np1, z1, z2, h1, g1⟩ := at_step hT h (Or.inl hκ)
    simp (disch := omega) only [lt_t, eq_f, ↓reduceIte, z1, z2, Option.bind_some, nI_mul, nI_add, zq_173, zq_171, st_nI]
    have h2 := au_I (au_I (au_I h1 (q := 173) (k := 1 + 4 * i) (x := nI 1) (Or.inr rfl)) (q := 173) (k := 1 + 4 * i + 1) (x := nI 0) (Or.inr rfl)) (q := 173) (k := 1 + 4 * i + 2) (x := nI 0) (Or.inr rfl)
    have e1 : m1.1 1 2 = nI i := (h2.1.2.2.1.2.2 2 (by decide)).trans d2
    obtain ⟨U1, eU1⟩ : ∃ U1, kI (kI (kI u1 173 (1 + 4 * i) (nI 1)) 173 (1 + 4 * i + 1) (nI 0)) 173 (1 + 4 * i + 2) (nI 0) = U1 := ⟨_, rfl⟩
    rw [eU1] at h2
    obtain ⟨c1, c2, c3, c4, c5, c6⟩ := Db_N hS hN hA a7 a9 d8 h2
    simp only [eU1]
    rw [c_one h2 (o := 9) (n := sm S) (r := 8) (N := fun k => N (10 + k)) rfl (by decide) m8 c2 c4, c5, ld_nI (by decide) (by decide), iv_m hv, Option.bind_some, Option.bind_some, u_tnm hT h2 (f := 10) (n := sm S) (by omega), pnm_c (N := fun k => U1.2 174 (10 + k)) (N' := fun k => N (10 + k)) (fun k hk => c6 _ (by omega))]
    by_cases hN1 : κ1 = 1 ∧ rwd l1 = mN
    · rw [if_pos hN1, if_pos hN1]
      rcases fd_cases (pnm (fun k => N (10 + k)) l1) (sm S) with ⟨k, hk, -, -, ef⟩ | ⟨-, ef⟩
      · have hkn : ¬ nI k = mN := hq_ne (n := k) (by omega)
        rw [ef, if_neg hkn, if_neg hkn]
        have h3 := au_g (ac_5 h2 (k := 5) (x := nI k) (Or.inr rfl)) (k := 18) (x := nI k) (Or.inr rfl)
        have h4 := ac_I h3 (q := 37) (k := i) (x := nI k) (by decide)
        obtain ⟨m2, u2, κ2, l2, v2, ap2, np2, z3, z4, h5, g2⟩ := at_step hT h4 (Or.inl hN1.1)
        have e18 : u2.1 169 18 = nI k := by rw [g2.2.2.2 18 (by decide) (by decide) (by decide) (by decide) (by decide)]; exact kI_e
        have x1 : (kI m1 1 5 (nI k)).1 1 2 = nI i := by rw [kI_f (by decide)]; exact e1
        have x2 : (kI m1 1 5 (nI k)).1 1 5 = nI k := kI_e
        have h6 := au_I h5 (q := 173) (k := 1 + 4 * i + 1) (x := nI k) (Or.inr rfl)
        simp (disch := omega) only [↓reduceIte, eq_f, x1, x2, row_putE (p := 37) rfl zq_37, Option.bind_some, z3, z4, e18, st_nI]
        obtain ⟨U2, eU2⟩ : ∃ U2, kI u2 173 (1 + 4 * i + 1) (nI k) = U2 := ⟨_, rfl⟩
        rw [eU2] at h6
        simp only [eU2]
        have b7 : (kI a 37 i (nI k)).1 7 = A0.1 7 := (kI_o _ _ _ _ (by decide)).trans a7
        have b9 : (kI a 37 i (nI k)).1 9 = A0.1 9 := (kI_o _ _ _ _ (by decide)).trans a9
        have x12 : m2.1 1 2 = nI i := (h6.1.2.2.1.2.2 2 (by decide)).trans ((congrFun (kI_o _ _ _ _ (by decide)) 2).trans d2)
        obtain ⟨q1, q2, q3, q4, q5, q6⟩ := Db_N (a := kI a 37 i (nI k)) hS hN hA b7 b9 d8 h6
        unfold f_Reader_bookLine_J104 f_Reader_isSecond
        simp (disch := omega) only [fl, mm_lt, Nat.reduceAdd, eq_f, ↓reduceIte]
        rw [c_one h6 (o := 9) (n := sm S) (r := 8) (N := fun k => N (10 + k)) rfl (by decide) m8 q2 q4, q5, ld_nI (by decide) (by decide), iv_m hv, Option.bind_some, Option.bind_some, u_tnm hT h6 (f := 10) (n := sm S) (by omega), pnm_c (N := fun k => U2.2 174 (10 + k)) (N' := fun k => N (10 + k)) (fun k hk => q6 _ (by omega))]
        by_cases hN2 : κ2 = 1 ∧ rwd l2 = mN
        · rw [if_pos hN2, if_pos hN2]
          rcases fd_cases (pnm (fun k => N (10 + k)) l2) (sm S) with ⟨k2, hk2, -, -, ef2⟩ | ⟨-, ef2⟩
          · have hkn2 : ¬ nI k2 = mN := hq_ne (n := k2) (by omega)
            rw [ef2, if_neg hkn2, if_neg hkn2]
            have h7 := ac_I (au_g (ac_5 h6 (k := 5) (x := nI k2) (Or.inr rfl)) (k := 18) (x := nI k2) (Or.inr rfl)) (q := 39) (k := i) (x := nI k2) (by decide)
            obtain ⟨m3, u3, κ3, l3, v3, ap3, np3, z5, z6, h8, g3⟩ := at_step hT h7 (Or.inl hN2.1)
            have e18' : u3.1 169 18 = nI k2 := by rw [g3.2.2.2 18 (by decide) (by decide) (by decide) (by decide) (by decide)]; exact kI_e
            have y1 : (kI m2 1 5 (nI k2)).1 1 2 = nI i := by rw [kI_f (by decide)]; exact x12
            have y2 : (kI m2 1 5 (nI k2)).1 1 5 = nI k2 := kI_e
            have h8' := au_I h8 (q := 173) (k := 1 + 4 * i + 2) (x := nI k2) (Or.inr rfl)
            unfold f_Reader_bookLine_J157 f_Mod_bookLine_J255
            simp (disch := omega) only [fl, Nat.reduceAdd, zb_1, Option.bind_some, eq_f, ↓reduceIte, y1, y2, row_putE (p := 39) rfl zq_39, z5, z6, e18', nI_add, zq_173, st_nI]
            unfold f_Reader_bookLine_J167
            have eL : m3.1 1 2 = nI i := (h8'.1.2.2.1.2.2 2 (by decide)).trans (by simp (disch := omega) only [kI_o, kI_f, kI_e]) |>.trans d2
            have eL2 : ∀ w, (kI m3 35 i w).1 1 2 = nI i := fun w => by rw [kI_o _ _ _ _ (by decide)]; exact eL
            simp (disch := omega) only [fl, mm_lt, Nat.reduceAdd, ↓reduceIte, eq_f, eL, row_putE (p := 35) rfl zq_35, Option.bind_some, eL2, nI_add]
            have h9 := ac_I (ac_I h8' (q := 35) (k := i) (x := nI 13) (by decide)) (q := 5) (k := 7) (x := nI (i + 1)) (by decide)
            refine sm_ok rfl rfl ⟨hκ, _, _, _, _, _, _, _, h9, Db_next (w := nI 1) (x := nI k) (y := nI k2) hD (by omega) ?_ (by simp (disch := omega) only [kI_o, kI_f, kI_e]) (by simp (disch := omega) only [kI_o, kI_f, kI_e]) (fun q h1 h2 h3 => (by simp (disch := omega) only [kI_o, kI_f, kI_e])) (fun k hk => (by simp (disch := omega) only [kI_o, kI_f, kI_e])) rfl (by simp (disch := omega) only [kI_o, kI_f, kI_e]) (fun j hj => ⟨(by simp (disch := omega) only [kI_o, kI_f, kI_e]), (by simp (disch := omega) only [kI_o, kI_f, kI_e]), (by simp (disch := omega) only [kI_o, kI_f, kI_e])⟩) (by simp (disch := omega) only [kI_o, kI_f, kI_e]; decide) (fun _ => (by simp (disch := omega) only [kI_o, kI_f, kI_e])) (fun _ _ => (by simp (disch := omega) only [kI_o, kI_f, kI_e])) (by simp (disch := omega) only [kI_o, kI_f, kI_e]) (fun j hj => (by simp (disch := omega) only [kI_o, kI_f, kI_e])) (by simp (disch := omega) only [kI_o, kI_f, kI_e]) (by rw [show 2 + 4 * i = 1 + 4 * i + 1 by omega]; simp (disch := omega) only [kI_o, kI_f, kI_e]) (by rw [show 3 + 4 * i = 1 + 4 * i + 2 by omega]; simp (disch := omega) only [kI_o, kI_f, kI_e]), fun g => ?_⟩
            · exact ⟨⟨1, by decide, rfl⟩, fun _ => ⟨k, hk, rfl⟩, fun _ => ⟨k2, hk2, rfl⟩, fun g => absurd g (by decide), fun g => absurd g (by decide)⟩
            · have := g1.1 (Or.inl hN1.1); have := g2.1 (Or.inl hN2.1); have := g3.1 (Or.inr (Or.inr g)); omega
          · rw [ef2, if_pos rfl, if_pos rfl]
            simp only [zb_0, Option.bind_some, ↓reduceIte]
            exact sm_bad (au_g (ac_5 h6 (k := 5) (x := mN) (Or.inr rfl)) (k := 18) (x := mN) (Or.inr rfl)) (k := 3) (by decide) rfl rfl
        · rw [if_neg hN2, if_neg hN2]
          simp only [zb_0, Option.bind_some, ↓reduceIte]
          exact sm_bad h6 (k := 1) (by decide) rfl rfl
      · rw [ef, if_pos rfl, if_pos rfl]
        simp only [Option.bind_some, ↓reduceIte]
        exact sm_bad (au_g (ac_5 h2 (k := 5) (x := mN) (Or.inr rfl)) (k := 18) (x := mN) (Or.inr rfl)) (k := 3) (by decide) rfl rfl
    · rw [if_neg hN1, if_neg hN1]
      simp only [Option.bind_some, ↓reduceIte]
      exact sm_bad h2 (k := 1) (by decide) rfl rfl
theorem bk_2 (hT : Tp M0 U0 t sz lim) (hS : U0.1 171 = S) (hv : Inv S) (hN : ∀ k, k < 18 → U0.2 174 k = N k) (hA : NM S N A0) (hP : A0.1 6 6 = nI (pw S)) (h : At M0 U0 sz lim a b m u κ l v ap np) (hκ : κ = 1) (hD : Db A0 S i a b) : Sm M0 U0 (Ln M0 U0 sz lim np κ (fun a b => a.1 1 2 = nI i ∧ b.1 169 29 = nI i ∧ Db A0 S (i + 1) (kI a 1 2 (nI (i + 1))) (kI b 169 29 (nI (i + 1))))) (f_Reader_bookLine_J32 z_Law 1 (nI 14) m) (f_Mod_bookLine_J85 z_Law 169 (nI 2) u) := by
  have n10 := iv_n10 hv
  have m8 := iv_m8 hv
  have hpw := iv_p hv
  obtain ⟨d1, d2, d3, d4, d5, d6, d7, d8, d9, d10, d11⟩ := id hD
  have a7 : a.1 7 = A0.1 7 := d6 7 (by decide) (by decide) (by decide)
  have a9 : a.1 9 = A0.1 9 := d6 9 (by decide) (by decide) (by decide)
  have cl2 : m.1 1 2 = nI i := (h.1.2.2.1.2.2 2 (by decide)).trans d2
  have ul2 : u.1 169 29 = nI i := (h.1.2.2.2.1.2 29 (by decide)).trans d3
  unfold f_Reader_bookLine_J32 f_Mod_bookLine_J85
  simp only [fl, fl64, fmN, mm_lt, Nat.reduceAdd]
  rw [if_pos (show nI 0 ≤ nI 2 by decide), cl2, ul2]
  by_cases hi : i = 30
  · subst hi
    simp (disch := omega) only [lt_f, ↓reduceIte, c_fail h, u_bad h, Option.bind_some, zb_0]
    exact sm_bad h (k := 4) (by decide) rfl rfl
  · obtain ⟨m1, u1, κ1, l1, v1, ap1, np1, z1, z2, h1, g1⟩ := at_step hT h (Or.inl hκ)
    simp (disch := omega) only [lt_t, eq_f, ↓reduceIte, z1, z2, Option.bind_some, nI_mul, nI_add, zq_173, zq_171, st_nI]
    have h2 := au_I (au_I (au_I h1 (q := 173) (k := 1 + 4 * i) (x := nI 2) (Or.inr rfl)) (q := 173) (k := 1 + 4 * i + 1) (x := nI 0) (Or.inr rfl)) (q := 173) (k := 1 + 4 * i + 2) (x := nI 0) (Or.inr rfl)
    have e1 : m1.1 1 2 = nI i := (h2.1.2.2.1.2.2 2 (by decide)).trans d2
    obtain ⟨U1, eU1⟩ : ∃ U1, kI (kI (kI u1 173 (1 + 4 * i) (nI 2)) 173 (1 + 4 * i + 1) (nI 0)) 173 (1 + 4 * i + 2) (nI 0) = U1 := ⟨_, rfl⟩
    rw [eU1] at h2
    obtain ⟨c1, c2, c3, c4, c5, c6⟩ := Db_N hS hN hA a7 a9 d8 h2
    simp only [eU1]
    rw [c_one h2 (o := 9) (n := sm S) (r := 8) (N := fun k => N (10 + k)) rfl (by decide) m8 c2 c4, c5, ld_nI (by decide) (by decide), iv_m hv, Option.bind_some, Option.bind_some, u_tnm hT h2 (f := 10) (n := sm S) (by omega), pnm_c (N := fun k => U1.2 174 (10 + k)) (N' := fun k => N (10 + k)) (fun k hk => c6 _ (by omega))]
    by_cases hN1 : κ1 = 1 ∧ rwd l1 = mN
    · rw [if_pos hN1, if_pos hN1]
      rcases fd_cases (pnm (fun k => N (10 + k)) l1) (sm S) with ⟨k, hk, -, -, ef⟩ | ⟨-, ef⟩
      · have hkn : ¬ nI k = mN := hq_ne (n := k) (by omega)
        rw [ef, if_neg hkn, if_neg hkn]
        have h3 := au_g (ac_5 h2 (k := 5) (x := nI k) (Or.inr rfl)) (k := 18) (x := nI k) (Or.inr rfl)
        have h4 := ac_I h3 (q := 37) (k := i) (x := nI k) (by decide)
        obtain ⟨m2, u2, κ2, l2, v2, ap2, np2, z3, z4, h5, g2⟩ := at_step hT h4 (Or.inl hN1.1)
        have e18 : u2.1 169 18 = nI k := by rw [g2.2.2.2 18 (by decide) (by decide) (by decide) (by decide) (by decide)]; exact kI_e
        have x1 : (kI m1 1 5 (nI k)).1 1 2 = nI i := by rw [kI_f (by decide)]; exact e1
        have x2 : (kI m1 1 5 (nI k)).1 1 5 = nI k := kI_e
        have h6 := au_I h5 (q := 173) (k := 1 + 4 * i + 1) (x := nI k) (Or.inr rfl)
        simp (disch := omega) only [↓reduceIte, eq_f, x1, x2, row_putE (p := 37) rfl zq_37, Option.bind_some, z3, z4, e18, st_nI]
        unfold f_Reader_bookLine_J104 f_Reader_bookLine_J167
        have eL : m2.1 1 2 = nI i := (h6.1.2.2.1.2.2 2 (by decide)).trans (by simp (disch := omega) only [kI_o, kI_f, kI_e]) |>.trans d2
        have eL2 : ∀ w, (kI m2 35 i w).1 1 2 = nI i := fun w => by rw [kI_o _ _ _ _ (by decide)]; exact eL
        simp (disch := omega) only [fl, mm_lt, Nat.reduceAdd, ↓reduceIte, eq_f, eL, row_putE (p := 35) rfl zq_35, Option.bind_some, eL2, nI_add]
        have h9 := ac_I (ac_I h6 (q := 35) (k := i) (x := nI 14) (by decide)) (q := 5) (k := 7) (x := nI (i + 1)) (by decide)
        refine sm_ok rfl rfl ⟨hκ, _, _, _, _, _, _, _, h9, Db_next (w := nI 2) (x := nI k) (y := nI 0) hD (by omega) ?_ (by simp (disch := omega) only [kI_o, kI_f, kI_e]) (by simp (disch := omega) only [kI_o, kI_f, kI_e]) (fun q h1 h2 h3 => (by simp (disch := omega) only [kI_o, kI_f, kI_e])) (fun k hk => (by simp (disch := omega) only [kI_o, kI_f, kI_e])) rfl (by simp (disch := omega) only [kI_o, kI_f, kI_e]) (fun j hj => ⟨(by simp (disch := omega) only [kI_o, kI_f, kI_e]), (by simp (disch := omega) only [kI_o, kI_f, kI_e]), (by simp (disch := omega) only [kI_o, kI_f, kI_e])⟩) (by simp (disch := omega) only [kI_o, kI_f, kI_e]; decide) (fun _ => (by simp (disch := omega) only [kI_o, kI_f, kI_e])) (fun _ g => absurd rfl g) (by simp (disch := omega) only [kI_o, kI_f, kI_e]) (fun j hj => (by simp (disch := omega) only [kI_o, kI_f, kI_e])) (by simp (disch := omega) only [kI_o, kI_f, kI_e]) (by rw [show 2 + 4 * i = 1 + 4 * i + 1 by omega]; simp (disch := omega) only [kI_o, kI_f, kI_e]) (by rw [show 3 + 4 * i = 1 + 4 * i + 2 by omega]; simp (disch := omega) only [kI_o, kI_f, kI_e]), fun g => ?_⟩
        · exact ⟨⟨2, by decide, rfl⟩, fun _ => ⟨k, hk, rfl⟩, fun g => by rcases g with g | g <;> exact absurd g (by decide), fun g => absurd g (by decide), fun g => absurd g (by decide)⟩
        · have := g1.1 (Or.inl hN1.1); have := g2.1 (Or.inr (Or.inr g)); omega
      · rw [ef, if_pos rfl, if_pos rfl]
        simp only [Option.bind_some, ↓reduceIte]
        exact sm_bad (au_g (ac_5 h2 (k := 5) (x := mN) (Or.inr rfl)) (k := 18) (x := mN) (Or.inr rfl)) (k := 3) (by decide) rfl rfl
    · rw [if_neg hN1, if_neg hN1]
      simp only [Option.bind_some, ↓reduceIte]
      exact sm_bad h2 (k := 1) (by decide) rfl rfl
theorem bk_3 (hT : Tp M0 U0 t sz lim) (hS : U0.1 171 = S) (hv : Inv S) (hN : ∀ k, k < 18 → U0.2 174 k = N k) (hA : NM S N A0) (hP : A0.1 6 6 = nI (pw S)) (h : At M0 U0 sz lim a b m u κ l v ap np) (hκ : κ = 1) (hD : Db A0 S i a b) : Sm M0 U0 (Ln M0 U0 sz lim np κ (fun a b => a.1 1 2 = nI i ∧ b.1 169 29 = nI i ∧ Db A0 S (i + 1) (kI a 1 2 (nI (i + 1))) (kI b 169 29 (nI (i + 1))))) (f_Reader_bookLine_J32 z_Law 1 (nI 15) m) (f_Mod_bookLine_J85 z_Law 169 (nI 3) u) := by
  have n10 := iv_n10 hv
  have m8 := iv_m8 hv
  have hpw := iv_p hv
  obtain ⟨d1, d2, d3, d4, d5, d6, d7, d8, d9, d10, d11⟩ := id hD
  have a7 : a.1 7 = A0.1 7 := d6 7 (by decide) (by decide) (by decide)
  have a9 : a.1 9 = A0.1 9 := d6 9 (by decide) (by decide) (by decide)
  have cl2 : m.1 1 2 = nI i := (h.1.2.2.1.2.2 2 (by decide)).trans d2
  have ul2 : u.1 169 29 = nI i := (h.1.2.2.2.1.2 29 (by decide)).trans d3
  unfold f_Reader_bookLine_J32 f_Mod_bookLine_J85
  simp only [fl, fl64, fmN, mm_lt, Nat.reduceAdd]
  rw [if_pos (show nI 0 ≤ nI 3 by decide), cl2, ul2]
  by_cases hi : i = 30
  · subst hi
    simp (disch := omega) only [lt_f, ↓reduceIte, c_fail h, u_bad h, Option.bind_some, zb_0]
    exact sm_bad h (k := 4) (by decide) rfl rfl
  · obtain ⟨m1, u1, κ1, l1, v1, ap1, np1, z1, z2, h1, g1⟩ := at_step hT h (Or.inl hκ)
    simp (disch := omega) only [lt_t, eq_f, ↓reduceIte, z1, z2, Option.bind_some, nI_mul, nI_add, zq_173, zq_171, st_nI]
    have h2 := au_I (au_I (au_I h1 (q := 173) (k := 1 + 4 * i) (x := nI 3) (Or.inr rfl)) (q := 173) (k := 1 + 4 * i + 1) (x := nI 0) (Or.inr rfl)) (q := 173) (k := 1 + 4 * i + 2) (x := nI 0) (Or.inr rfl)
    have e1 : m1.1 1 2 = nI i := (h2.1.2.2.1.2.2 2 (by decide)).trans d2
    obtain ⟨U1, eU1⟩ : ∃ U1, kI (kI (kI u1 173 (1 + 4 * i) (nI 3)) 173 (1 + 4 * i + 1) (nI 0)) 173 (1 + 4 * i + 2) (nI 0) = U1 := ⟨_, rfl⟩
    rw [eU1] at h2
    obtain ⟨c1, c2, c3, c4, c5, c6⟩ := Db_N hS hN hA a7 a9 d8 h2
    simp only [eU1]
    rw [c_one h2 (o := 9) (n := sm S) (r := 8) (N := fun k => N (10 + k)) rfl (by decide) m8 c2 c4, c5, ld_nI (by decide) (by decide), iv_m hv, Option.bind_some, Option.bind_some, u_tnm hT h2 (f := 10) (n := sm S) (by omega), pnm_c (N := fun k => U1.2 174 (10 + k)) (N' := fun k => N (10 + k)) (fun k hk => c6 _ (by omega))]
    by_cases hN1 : κ1 = 1 ∧ rwd l1 = mN
    · rw [if_pos hN1, if_pos hN1]
      rcases fd_cases (pnm (fun k => N (10 + k)) l1) (sm S) with ⟨k, hk, -, -, ef⟩ | ⟨-, ef⟩
      · have hkn : ¬ nI k = mN := hq_ne (n := k) (by omega)
        rw [ef, if_neg hkn, if_neg hkn]
        have h3 := au_g (ac_5 h2 (k := 5) (x := nI k) (Or.inr rfl)) (k := 18) (x := nI k) (Or.inr rfl)
        have h4 := ac_I h3 (q := 37) (k := i) (x := nI k) (by decide)
        obtain ⟨m2, u2, κ2, l2, v2, ap2, np2, z3, z4, h5, g2⟩ := at_step hT h4 (Or.inl hN1.1)
        have e18 : u2.1 169 18 = nI k := by rw [g2.2.2.2 18 (by decide) (by decide) (by decide) (by decide) (by decide)]; exact kI_e
        have x1 : (kI m1 1 5 (nI k)).1 1 2 = nI i := by rw [kI_f (by decide)]; exact e1
        have x2 : (kI m1 1 5 (nI k)).1 1 5 = nI k := kI_e
        have h6 := au_I h5 (q := 173) (k := 1 + 4 * i + 1) (x := nI k) (Or.inr rfl)
        simp (disch := omega) only [↓reduceIte, eq_f, x1, x2, row_putE (p := 37) rfl zq_37, Option.bind_some, z3, z4, e18, st_nI]
        obtain ⟨U2, eU2⟩ : ∃ U2, kI u2 173 (1 + 4 * i + 1) (nI k) = U2 := ⟨_, rfl⟩
        rw [eU2] at h6
        simp only [eU2]
        have b7 : (kI a 37 i (nI k)).1 7 = A0.1 7 := (kI_o _ _ _ _ (by decide)).trans a7
        have b9 : (kI a 37 i (nI k)).1 9 = A0.1 9 := (kI_o _ _ _ _ (by decide)).trans a9
        have x12 : m2.1 1 2 = nI i := (h6.1.2.2.1.2.2 2 (by decide)).trans ((congrFun (kI_o _ _ _ _ (by decide)) 2).trans d2)
        obtain ⟨q1, q2, q3, q4, q5, q6⟩ := Db_N (a := kI a 37 i (nI k)) hS hN hA b7 b9 d8 h6
        unfold f_Reader_bookLine_J104 f_Reader_isSecond
        simp (disch := omega) only [fl, mm_lt, Nat.reduceAdd, eq_f, ↓reduceIte]
        rw [c_one h6 (o := 7) (n := sn S) (r := 10) (N := N) rfl (by decide) n10 q1 q3, q5, ld_nI (by decide) (by decide), iv_n hv, Option.bind_some, Option.bind_some, u_tnm hT h6 (f := 0) (n := sn S) (by omega), pnm_c (N := fun k => U2.2 174 (0 + k)) (N' := N) (fun k hk => (congrArg (U2.2 174) (Nat.zero_add k)).trans (q6 k (by omega)))]
        by_cases hN2 : κ2 = 1 ∧ rwd l2 = mN
        · rw [if_pos hN2, if_pos hN2]
          rcases fd_cases (pnm (N) l2) (sn S) with ⟨k2, hk2, -, -, ef2⟩ | ⟨-, ef2⟩
          · have hkn2 : ¬ nI k2 = mN := hq_ne (n := k2) (by omega)
            rw [ef2, if_neg hkn2, if_neg hkn2]
            have h7 := ac_I (au_g (ac_5 h6 (k := 5) (x := nI k2) (Or.inr rfl)) (k := 18) (x := nI k2) (Or.inr rfl)) (q := 39) (k := i) (x := nI k2) (by decide)
            obtain ⟨m3, u3, κ3, l3, v3, ap3, np3, z5, z6, h8, g3⟩ := at_step hT h7 (Or.inl hN2.1)
            have e18' : u3.1 169 18 = nI k2 := by rw [g3.2.2.2 18 (by decide) (by decide) (by decide) (by decide) (by decide)]; exact kI_e
            have y1 : (kI m2 1 5 (nI k2)).1 1 2 = nI i := by rw [kI_f (by decide)]; exact x12
            have y2 : (kI m2 1 5 (nI k2)).1 1 5 = nI k2 := kI_e
            have h8' := au_I h8 (q := 173) (k := 1 + 4 * i + 2) (x := nI k2) (Or.inr rfl)
            unfold f_Reader_bookLine_J157 f_Mod_bookLine_J255
            simp (disch := omega) only [fl, Nat.reduceAdd, zb_1, Option.bind_some, eq_f, ↓reduceIte, y1, y2, row_putE (p := 39) rfl zq_39, z5, z6, e18', nI_add, zq_173, st_nI]
            unfold f_Reader_bookLine_J167
            have eL : m3.1 1 2 = nI i := (h8'.1.2.2.1.2.2 2 (by decide)).trans (by simp (disch := omega) only [kI_o, kI_f, kI_e]) |>.trans d2
            have eL2 : ∀ w, (kI m3 35 i w).1 1 2 = nI i := fun w => by rw [kI_o _ _ _ _ (by decide)]; exact eL
            simp (disch := omega) only [fl, mm_lt, Nat.reduceAdd, ↓reduceIte, eq_f, eL, row_putE (p := 35) rfl zq_35, Option.bind_some, eL2, nI_add]
            have h9 := ac_I (ac_I h8' (q := 35) (k := i) (x := nI 15) (by decide)) (q := 5) (k := 7) (x := nI (i + 1)) (by decide)
            refine sm_ok rfl rfl ⟨hκ, _, _, _, _, _, _, _, h9, Db_next (w := nI 3) (x := nI k) (y := nI k2) hD (by omega) ?_ (by simp (disch := omega) only [kI_o, kI_f, kI_e]) (by simp (disch := omega) only [kI_o, kI_f, kI_e]) (fun q h1 h2 h3 => (by simp (disch := omega) only [kI_o, kI_f, kI_e])) (fun k hk => (by simp (disch := omega) only [kI_o, kI_f, kI_e])) rfl (by simp (disch := omega) only [kI_o, kI_f, kI_e]) (fun j hj => ⟨(by simp (disch := omega) only [kI_o, kI_f, kI_e]), (by simp (disch := omega) only [kI_o, kI_f, kI_e]), (by simp (disch := omega) only [kI_o, kI_f, kI_e])⟩) (by simp (disch := omega) only [kI_o, kI_f, kI_e]; decide) (fun _ => (by simp (disch := omega) only [kI_o, kI_f, kI_e])) (fun _ _ => (by simp (disch := omega) only [kI_o, kI_f, kI_e])) (by simp (disch := omega) only [kI_o, kI_f, kI_e]) (fun j hj => (by simp (disch := omega) only [kI_o, kI_f, kI_e])) (by simp (disch := omega) only [kI_o, kI_f, kI_e]) (by rw [show 2 + 4 * i = 1 + 4 * i + 1 by omega]; simp (disch := omega) only [kI_o, kI_f, kI_e]) (by rw [show 3 + 4 * i = 1 + 4 * i + 2 by omega]; simp (disch := omega) only [kI_o, kI_f, kI_e]), fun g => ?_⟩
            · exact ⟨⟨3, by decide, rfl⟩, fun _ => ⟨k, hk, rfl⟩, fun g => by rcases g with g | g <;> exact absurd g (by decide), fun _ => ⟨k2, hk2, rfl⟩, fun g => absurd g (by decide)⟩
            · have := g1.1 (Or.inl hN1.1); have := g2.1 (Or.inl hN2.1); have := g3.1 (Or.inr (Or.inr g)); omega
          · rw [ef2, if_pos rfl, if_pos rfl]
            simp only [zb_0, Option.bind_some, ↓reduceIte]
            exact sm_bad (au_g (ac_5 h6 (k := 5) (x := mN) (Or.inr rfl)) (k := 18) (x := mN) (Or.inr rfl)) (k := 3) (by decide) rfl rfl
        · rw [if_neg hN2, if_neg hN2]
          simp only [zb_0, Option.bind_some, ↓reduceIte]
          exact sm_bad h6 (k := 1) (by decide) rfl rfl
      · rw [ef, if_pos rfl, if_pos rfl]
        simp only [Option.bind_some, ↓reduceIte]
        exact sm_bad (au_g (ac_5 h2 (k := 5) (x := mN) (Or.inr rfl)) (k := 18) (x := mN) (Or.inr rfl)) (k := 3) (by decide) rfl rfl
    · rw [if_neg hN1, if_neg hN1]
      simp only [Option.bind_some, ↓reduceIte]
      exact sm_bad h2 (k := 1) (by decide) rfl rfl
theorem bk_4 (hT : Tp M0 U0 t sz lim) (hS : U0.1 171 = S) (hv : Inv S) (hN : ∀ k, k < 18 → U0.2 174 k = N k) (hA : NM S N A0) (hP : A0.1 6 6 = nI (pw S)) (h : At M0 U0 sz lim a b m u κ l v ap np) (hκ : κ = 1) (hD : Db A0 S i a b) : Sm M0 U0 (Ln M0 U0 sz lim np κ (fun a b => a.1 1 2 = nI i ∧ b.1 169 29 = nI i ∧ Db A0 S (i + 1) (kI a 1 2 (nI (i + 1))) (kI b 169 29 (nI (i + 1))))) (f_Reader_bookLine_J32 z_Law 1 (nI 8) m) (f_Mod_bookLine_J85 z_Law 169 (nI 4) u) := by
  have n10 := iv_n10 hv
  have m8 := iv_m8 hv
  have hpw := iv_p hv
  obtain ⟨d1, d2, d3, d4, d5, d6, d7, d8, d9, d10, d11⟩ := id hD
  have a7 : a.1 7 = A0.1 7 := d6 7 (by decide) (by decide) (by decide)
  have a9 : a.1 9 = A0.1 9 := d6 9 (by decide) (by decide) (by decide)
  have cl2 : m.1 1 2 = nI i := (h.1.2.2.1.2.2 2 (by decide)).trans d2
  have ul2 : u.1 169 29 = nI i := (h.1.2.2.2.1.2 29 (by decide)).trans d3
  unfold f_Reader_bookLine_J32 f_Mod_bookLine_J85
  simp only [fl, fl64, fmN, mm_lt, Nat.reduceAdd]
  rw [if_pos (show nI 0 ≤ nI 4 by decide), cl2, ul2]
  by_cases hi : i = 30
  · subst hi
    simp (disch := omega) only [lt_f, ↓reduceIte, c_fail h, u_bad h, Option.bind_some, zb_0]
    exact sm_bad h (k := 4) (by decide) rfl rfl
  · obtain ⟨m1, u1, κ1, l1, v1, ap1, np1, z1, z2, h1, g1⟩ := at_step hT h (Or.inl hκ)
    simp (disch := omega) only [lt_t, eq_f, ↓reduceIte, z1, z2, Option.bind_some, nI_mul, nI_add, zq_173, zq_171, st_nI]
    have h2 := au_I (au_I (au_I h1 (q := 173) (k := 1 + 4 * i) (x := nI 4) (Or.inr rfl)) (q := 173) (k := 1 + 4 * i + 1) (x := nI 0) (Or.inr rfl)) (q := 173) (k := 1 + 4 * i + 2) (x := nI 0) (Or.inr rfl)
    have e1 : m1.1 1 2 = nI i := (h2.1.2.2.1.2.2 2 (by decide)).trans d2
    obtain ⟨U1, eU1⟩ : ∃ U1, kI (kI (kI u1 173 (1 + 4 * i) (nI 4)) 173 (1 + 4 * i + 1) (nI 0)) 173 (1 + 4 * i + 2) (nI 0) = U1 := ⟨_, rfl⟩
    rw [eU1] at h2
    obtain ⟨c1, c2, c3, c4, c5, c6⟩ := Db_N hS hN hA a7 a9 d8 h2
    simp only [eU1]
    rw [c_one h2 (o := 9) (n := sm S) (r := 8) (N := fun k => N (10 + k)) rfl (by decide) m8 c2 c4, c5, ld_nI (by decide) (by decide), iv_m hv, Option.bind_some, Option.bind_some, u_tnm hT h2 (f := 10) (n := sm S) (by omega), pnm_c (N := fun k => U1.2 174 (10 + k)) (N' := fun k => N (10 + k)) (fun k hk => c6 _ (by omega))]
    by_cases hN1 : κ1 = 1 ∧ rwd l1 = mN
    · rw [if_pos hN1, if_pos hN1]
      rcases fd_cases (pnm (fun k => N (10 + k)) l1) (sm S) with ⟨k, hk, -, -, ef⟩ | ⟨-, ef⟩
      · have hkn : ¬ nI k = mN := hq_ne (n := k) (by omega)
        rw [ef, if_neg hkn, if_neg hkn]
        have h3 := au_g (ac_5 h2 (k := 5) (x := nI k) (Or.inr rfl)) (k := 18) (x := nI k) (Or.inr rfl)
        have h4 := ac_I h3 (q := 37) (k := i) (x := nI k) (by decide)
        obtain ⟨m2, u2, κ2, l2, v2, ap2, np2, z3, z4, h5, g2⟩ := at_step hT h4 (Or.inl hN1.1)
        have e18 : u2.1 169 18 = nI k := by rw [g2.2.2.2 18 (by decide) (by decide) (by decide) (by decide) (by decide)]; exact kI_e
        have x1 : (kI m1 1 5 (nI k)).1 1 2 = nI i := by rw [kI_f (by decide)]; exact e1
        have x2 : (kI m1 1 5 (nI k)).1 1 5 = nI k := kI_e
        have h6 := au_I h5 (q := 173) (k := 1 + 4 * i + 1) (x := nI k) (Or.inr rfl)
        simp (disch := omega) only [↓reduceIte, eq_f, x1, x2, row_putE (p := 37) rfl zq_37, Option.bind_some, z3, z4, e18, st_nI]
        obtain ⟨U2, eU2⟩ : ∃ U2, kI u2 173 (1 + 4 * i + 1) (nI k) = U2 := ⟨_, rfl⟩
        rw [eU2] at h6
        simp only [eU2]
        have b7 : (kI a 37 i (nI k)).1 7 = A0.1 7 := (kI_o _ _ _ _ (by decide)).trans a7
        have b9 : (kI a 37 i (nI k)).1 9 = A0.1 9 := (kI_o _ _ _ _ (by decide)).trans a9
        have x12 : m2.1 1 2 = nI i := (h6.1.2.2.1.2.2 2 (by decide)).trans ((congrFun (kI_o _ _ _ _ (by decide)) 2).trans d2)
        obtain ⟨q1, q2, q3, q4, q5, q6⟩ := Db_N (a := kI a 37 i (nI k)) hS hN hA b7 b9 d8 h6
        unfold f_Reader_bookLine_J104 f_Reader_isSecond
        simp (disch := omega) only [fl, mm_lt, Nat.reduceAdd, eq_f, ↓reduceIte]
        have x66 : m2.1 6 6 = nI (pw S) := by
          rw [h6.1.2.2.1.1 6 (by decide) (by decide), kI_o _ _ _ _ (by decide), d6 6 (by decide) (by decide) (by decide)]; exact hP
        rw [q5, ld_nI (by decide) (by decide), x66, hpw.1, nI_sub hpw.2.1, Option.bind_some, nI_sub hpw.2.1, c_isNum h6 (by decide) (show pw S - 1 ≤ 99 by omega), u_takes h6 (by decide) (show pw S - 1 ≤ 99 by omega), Option.bind_some]
        by_cases hK : κ2 = 2
        · rw [if_pos hK, if_pos hK]
          by_cases hR : 0 ≤ v2 ∧ v2 ≤ pw S - 1
          · rw [if_pos hR, if_pos hR]
            have x26 : m2.1 2 6 = nI v2 := h6.2.1.2.2.2.2.1 hK
            have h7 := ac_I (au_g h6 (k := 18) (x := nI v2) (Or.inr rfl)) (q := 39) (k := i) (x := nI v2) (by decide)
            obtain ⟨m3, u3, κ3, l3, v3, ap3, np3, z5, z6, h8, g3⟩ := at_step hT h7 (Or.inr (Or.inl hK))
            have e18' : u3.1 169 18 = nI v2 := by rw [g3.2.2.2 18 (by decide) (by decide) (by decide) (by decide) (by decide)]; exact kI_e
            have h8' := au_I h8 (q := 173) (k := 1 + 4 * i + 2) (x := nI v2) (Or.inr rfl)
            unfold f_Reader_bookLine_J157 f_Mod_bookLine_J255
            simp (disch := omega) only [fl, Nat.reduceAdd, zb_1, Option.bind_some, eq_f, ↓reduceIte, x12, x26, row_putE (p := 39) rfl zq_39, z5, z6, e18', nI_add, zq_173, st_nI]
            unfold f_Reader_bookLine_J167
            have eL : m3.1 1 2 = nI i := (h8'.1.2.2.1.2.2 2 (by decide)).trans (by simp (disch := omega) only [kI_o, kI_f, kI_e]) |>.trans d2
            have eL2 : ∀ w, (kI m3 35 i w).1 1 2 = nI i := fun w => by rw [kI_o _ _ _ _ (by decide)]; exact eL
            simp (disch := omega) only [fl, mm_lt, Nat.reduceAdd, ↓reduceIte, eq_f, eL, row_putE (p := 35) rfl zq_35, Option.bind_some, eL2, nI_add]
            have h9 := ac_I (ac_I h8' (q := 35) (k := i) (x := nI 8) (by decide)) (q := 5) (k := 7) (x := nI (i + 1)) (by decide)
            refine sm_ok rfl rfl ⟨hκ, _, _, _, _, _, _, _, h9, Db_next (w := nI 4) (x := nI k) (y := nI v2) hD (by omega) ?_ (by simp (disch := omega) only [kI_o, kI_f, kI_e]) (by simp (disch := omega) only [kI_o, kI_f, kI_e]) (fun q h1 h2 h3 => (by simp (disch := omega) only [kI_o, kI_f, kI_e])) (fun k hk => (by simp (disch := omega) only [kI_o, kI_f, kI_e])) rfl (by simp (disch := omega) only [kI_o, kI_f, kI_e]) (fun j hj => ⟨(by simp (disch := omega) only [kI_o, kI_f, kI_e]), (by simp (disch := omega) only [kI_o, kI_f, kI_e]), (by simp (disch := omega) only [kI_o, kI_f, kI_e])⟩) (by simp (disch := omega) only [kI_o, kI_f, kI_e]; decide) (fun _ => (by simp (disch := omega) only [kI_o, kI_f, kI_e])) (fun _ _ => (by simp (disch := omega) only [kI_o, kI_f, kI_e])) (by simp (disch := omega) only [kI_o, kI_f, kI_e]) (fun j hj => (by simp (disch := omega) only [kI_o, kI_f, kI_e])) (by simp (disch := omega) only [kI_o, kI_f, kI_e]) (by rw [show 2 + 4 * i = 1 + 4 * i + 1 by omega]; simp (disch := omega) only [kI_o, kI_f, kI_e]) (by rw [show 3 + 4 * i = 1 + 4 * i + 2 by omega]; simp (disch := omega) only [kI_o, kI_f, kI_e]), fun g => ?_⟩
            · exact ⟨⟨4, by decide, rfl⟩, fun _ => ⟨k, hk, rfl⟩, fun g => by rcases g with g | g <;> exact absurd g (by decide), fun g => absurd g (by decide), fun g => absurd g (by decide)⟩
            · have := g1.1 (Or.inl hN1.1); have := g2.1 (Or.inr (Or.inl hK)); have := g3.1 (Or.inr (Or.inr g)); omega
          · rw [if_neg hR, if_neg hR]
            simp only [zb_0, Option.bind_some, ↓reduceIte]
            exact sm_bad h6 (k := 2) (by decide) rfl rfl
        · rw [if_neg hK, if_neg hK]
          simp only [zb_0, Option.bind_some, ↓reduceIte]
          exact sm_bad h6 (k := 1) (by decide) rfl rfl
      · rw [ef, if_pos rfl, if_pos rfl]
        simp only [Option.bind_some, ↓reduceIte]
        exact sm_bad (au_g (ac_5 h2 (k := 5) (x := mN) (Or.inr rfl)) (k := 18) (x := mN) (Or.inr rfl)) (k := 3) (by decide) rfl rfl
    · rw [if_neg hN1, if_neg hN1]
      simp only [Option.bind_some, ↓reduceIte]
      exact sm_bad h2 (k := 1) (by decide) rfl rfl
theorem bk_5 (hT : Tp M0 U0 t sz lim) (hS : U0.1 171 = S) (hv : Inv S) (hN : ∀ k, k < 18 → U0.2 174 k = N k) (hA : NM S N A0) (hP : A0.1 6 6 = nI (pw S)) (h : At M0 U0 sz lim a b m u κ l v ap np) (hκ : κ = 1) (hD : Db A0 S i a b) : Sm M0 U0 (Ln M0 U0 sz lim np κ (fun a b => a.1 1 2 = nI i ∧ b.1 169 29 = nI i ∧ Db A0 S (i + 1) (kI a 1 2 (nI (i + 1))) (kI b 169 29 (nI (i + 1))))) (f_Reader_bookLine_J32 z_Law 1 (nI 16) m) (f_Mod_bookLine_J85 z_Law 169 (nI 5) u) := by
  have n10 := iv_n10 hv
  have m8 := iv_m8 hv
  have hpw := iv_p hv
  obtain ⟨d1, d2, d3, d4, d5, d6, d7, d8, d9, d10, d11⟩ := id hD
  have a7 : a.1 7 = A0.1 7 := d6 7 (by decide) (by decide) (by decide)
  have a9 : a.1 9 = A0.1 9 := d6 9 (by decide) (by decide) (by decide)
  have cl2 : m.1 1 2 = nI i := (h.1.2.2.1.2.2 2 (by decide)).trans d2
  have ul2 : u.1 169 29 = nI i := (h.1.2.2.2.1.2 29 (by decide)).trans d3
  unfold f_Reader_bookLine_J32 f_Mod_bookLine_J85
  simp only [fl, fl64, fmN, mm_lt, Nat.reduceAdd]
  rw [if_pos (show nI 0 ≤ nI 5 by decide), cl2, ul2]
  by_cases hi : i = 30
  · subst hi
    simp (disch := omega) only [lt_f, ↓reduceIte, c_fail h, u_bad h, Option.bind_some, zb_0]
    exact sm_bad h (k := 4) (by decide) rfl rfl
  · obtain ⟨m1, u1, κ1, l1, v1, ap1, np1, z1, z2, h1, g1⟩ := at_step hT h (Or.inl hκ)
    simp (disch := omega) only [lt_t, eq_f, ↓reduceIte, z1, z2, Option.bind_some, nI_mul, nI_add, zq_173, zq_171, st_nI]
    have h2 := au_I (au_I (au_I h1 (q := 173) (k := 1 + 4 * i) (x := nI 5) (Or.inr rfl)) (q := 173) (k := 1 + 4 * i + 1) (x := nI 0) (Or.inr rfl)) (q := 173) (k := 1 + 4 * i + 2) (x := nI 0) (Or.inr rfl)
    have e1 : m1.1 1 2 = nI i := (h2.1.2.2.1.2.2 2 (by decide)).trans d2
    unfold f_Reader_bookLine_J104 f_Reader_bookLine_J167
    have eL : m1.1 1 2 = nI i := (h2.1.2.2.1.2.2 2 (by decide)).trans rfl |>.trans d2
    have eL2 : ∀ w, (kI m1 35 i w).1 1 2 = nI i := fun w => by rw [kI_o _ _ _ _ (by decide)]; exact eL
    simp (disch := omega) only [fl, mm_lt, Nat.reduceAdd, ↓reduceIte, eq_f, eL, row_putE (p := 35) rfl zq_35, Option.bind_some, eL2, nI_add]
    have h9 := ac_I (ac_I h2 (q := 35) (k := i) (x := nI 16) (by decide)) (q := 5) (k := 7) (x := nI (i + 1)) (by decide)
    refine sm_ok rfl rfl ⟨hκ, _, _, _, _, _, _, _, h9, Db_next (w := nI 5) (x := nI 0) (y := nI 0) hD (by omega) ?_ (by simp (disch := omega) only [kI_o, kI_f, kI_e]) (by simp (disch := omega) only [kI_o, kI_f, kI_e]) (fun q h1 h2 h3 => (by simp (disch := omega) only [kI_o, kI_f, kI_e])) (fun k hk => (by simp (disch := omega) only [kI_o, kI_f, kI_e])) rfl (by simp (disch := omega) only [kI_o, kI_f, kI_e]) (fun j hj => ⟨(by simp (disch := omega) only [kI_o, kI_f, kI_e]), (by simp (disch := omega) only [kI_o, kI_f, kI_e]), (by simp (disch := omega) only [kI_o, kI_f, kI_e])⟩) (by simp (disch := omega) only [kI_o, kI_f, kI_e]; decide) (fun g => absurd rfl g) (fun g => absurd rfl g) (by simp (disch := omega) only [kI_o, kI_f, kI_e]) (fun j hj => (by simp (disch := omega) only [kI_o, kI_f, kI_e])) (by simp (disch := omega) only [kI_o, kI_f, kI_e]) (by rw [show 2 + 4 * i = 1 + 4 * i + 1 by omega]; simp (disch := omega) only [kI_o, kI_f, kI_e]) (by rw [show 3 + 4 * i = 1 + 4 * i + 2 by omega]; simp (disch := omega) only [kI_o, kI_f, kI_e]), fun g => ?_⟩
    · exact ⟨⟨5, by decide, rfl⟩, fun g => absurd rfl g, fun g => by rcases g with g | g <;> exact absurd g (by decide), fun g => absurd g (by decide), fun _ => rfl⟩
    · exact g1.1 (Or.inr (Or.inr g))
end BOOK
