/-! a LINE of a ROLL -/
section ROLL
variable {M0 U0 a b m u : Mm} {t : Nat → Nat} {sz lim κ v ap np : Nat} {l : List Nat} {S : Nat → Int32}
def NM (S : Nat → Int32) (N : Nat → Int64) (m : Mm) : Prop := m.1 7 1 = nI (sn S) ∧ m.1 9 1 = nI (sm S) ∧ (∀ x, x < sn S → WR (N x) (m.2 8 x)) ∧ ∀ k, k < sm S → WR (N (10 + k)) (m.2 10 k)
theorem c_one (h : At M0 U0 sz lim a b m u κ l v ap np) {o n r : Nat} {N : Nat → Int64} (ho : z_Law (o + 1) = r) (hr : r ≤ 10) (hn : n ≤ r) (h1 : m.1 o 1 = nI n) (hN : ∀ k, k < n → WR (N k) (m.2 (o + 1) k)) : f_Reader_isOneOf z_Law m 1 o = some (if κ = 1 ∧ rwd l = mN then (if fd (pnm N l) n = mN then (nI 0, cbad (kI m 1 5 mN) 3 ap) else (nI 1, kI m 1 5 (fd (pnm N l) n))) else (nI 0, cbad m 1 ap)) := by
  unfold f_Reader_isOneOf
  rw [c_isN h, Option.bind_some]
  by_cases g : κ = 1 ∧ rwd l = mN
  · rw [if_pos g, if_pos g]
    have e5 : ∀ w, (kI m 1 5 w).1 1 5 = w := fun w => kI_e
    simp (disch := omega) only [fl, fmN, mm_lt, Nat.reduceAdd, eq_f, ↓reduceIte, c_find h g.1 ho hr hn h1 hN, Option.bind_some, e5]
    by_cases g2 : fd (pnm N l) n = mN
    · simp only [g2, ↓reduceIte, c_fail (ac_5 h (k := 5) (x := mN) (Or.inr rfl)), Option.bind_some]
    · simp only [if_neg g2]
  · rw [if_neg g, if_neg g]
    simp only [fl, ↓reduceIte]
theorem u_tnm (hT : Tp M0 U0 t sz lim) (h : At M0 U0 sz lim a b m u κ l v ap np) {f n : Nat} (hf : f + n ≤ 36) : f_Mod_takesName z_Law u 169 (nI f) (nI n) = if κ = 1 ∧ rwd l = mN then (if fd (pnm (fun k => u.2 174 (f + k)) l) n = mN then some (nI 0, ubad (kI u 169 18 mN) 3 ap) else (f_Mod_next z_Law (kI u 169 18 (fd (pnm (fun k => u.2 174 (f + k)) l) n)) 169).bind (fun q => some (nI 1, q))) else some (nI 0, ubad u 1 ap) := by
  unfold f_Mod_takesName
  rw [u_isN hT h, Option.bind_some]
  by_cases g : κ = 1 ∧ rwd l = mN
  · rw [if_pos g, if_pos g]
    have e5 : ∀ w, (kI u 169 18 w).1 169 18 = w := fun w => kI_e
    simp (disch := omega) only [fl, mm_lt, eq_f, ↓reduceIte, u_find h g.1 hf, Option.bind_some, e5]
    rcases fd_cases (pnm (fun k => u.2 174 (f + k)) l) n with ⟨k, hk, h1, h2, ef⟩ | ⟨h1, ef⟩
    · simp (disch := omega) only [ef, le_t, ↓reduceIte, mN_ne]
    · simp (disch := omega) only [ef, mN_nle, ↓reduceIte, u_bad (au_g h (k := 18) (x := mN) (Or.inr rfl)), Option.bind_some, zb_0]
  · rw [if_neg g, if_neg g]
    simp only [fl, ↓reduceIte, u_bad h, Option.bind_some, zb_0]
theorem pnm_c {N N' : Nat → Int64} {n : Nat} (e : ∀ k, k < n → N k = N' k) : fd (pnm N l) n = fd (pnm N' l) n := fd_cong (fun k hk => by unfold pnm; rw [e k hk])
def rli (n c : Nat) (R : Nat → Int32) (j : Nat) : Prop := (∃ k, k < c ∧ R (1 + 3 * j) = nI k) ∧ (R (2 + 3 * j) = nI 0 ∨ R (2 + 3 * j) = nI 1) ∧ ∃ x, x < n ∧ R (3 + 3 * j) = nI x
def RR (R : Nat → Int32) : Nat → Int32 := fun q => R (q - 532)
def Dr (A0 : Mm) (S : Nat → Int32) (i : Nat) (a b : Mm) : Prop := i ≤ 30 ∧ a.1 1 2 = nI i ∧ b.1 169 29 = nI i ∧ a.1 1 3 = nI 0 ∧ b.1 169 15 = nI 0 ∧ (∀ q, 5 ≤ q → q < 40 → q ≠ 33 → q ≠ 5 → a.1 q = A0.1 q) ∧ (∀ k, k ≠ 5 → a.1 5 k = A0.1 5 k) ∧ (∀ q, 5 ≤ q → q < 40 → a.2 q = A0.2 q) ∧ a.1 5 5 = nI i ∧ (∀ j, j < i → rli (sn S) (sm S) (b.1 173) j) ∧ ∀ k, k < sm S → a.1 33 k = rf (RR (b.1 173)) k i
theorem rf_c2 {R R' : Nat → Int32} {i : Nat} (e : ∀ j, j < 1 + 3 * i → R' j = R j) (k : Nat) : ∀ j, j ≤ i → rf (RR R') k j = rf (RR R) k j
  | 0, _ => rfl
  | j + 1, hj => by
    have e1 : RR R' (533 + 3 * j) = RR R (533 + 3 * j) := e _ (by omega)
    have e2 : RR R' (534 + 3 * j) = RR R (534 + 3 * j) := e _ (by omega)
    have e3 : RR R' (535 + 3 * j) = RR R (535 + 3 * j) := e _ (by omega)
    show (if RR R' (533 + 3 * j) = nI k then _ else _) = (if RR R (533 + 3 * j) = nI k then _ else _)
    rw [rf_c2 e k j (by omega), e1, e2, e3]
theorem Dr_next {A0 : Mm} {i h x s : Nat} (hm : sm S ≤ 8) (hD : Dr A0 S i a b) (hi : i < 30) (hh : h < sm S) (hx : x < sn S) (hs : s < 2) {w : Int32} (hw : w = a.1 33 h &&& (if s = 1 then nI 1 <<< (nI x &&& nI 31) else (nI 1 <<< (nI x &&& nI 31)) ^^^ mN)) : Dr A0 S (i + 1) (kI (kI (kI a 33 h w) 5 5 (nI (i + 1))) 1 2 (nI (i + 1))) (kI (kI (kI (kI b 173 (1 + 3 * i) (nI h)) 173 (2 + 3 * i) (nI s)) 173 (3 + 3 * i) (nI x)) 169 29 (nI (i + 1))) := by
  obtain ⟨d1, d2, d3, d4, d5, d6, d7, d8, d9, d10, d11⟩ := hD
  obtain ⟨R', eR⟩ : ∃ R', (kI (kI (kI (kI b 173 (1 + 3 * i) (nI h)) 173 (2 + 3 * i) (nI s)) 173 (3 + 3 * i) (nI x)) 169 29 (nI (i + 1))).1 173 = R' := ⟨_, rfl⟩
  have r1 : R' (1 + 3 * i) = nI h := by rw [← eR, kI_o _ _ _ _ (by decide), kI_f (by omega), kI_f (by omega), kI_e]
  have r2 : R' (2 + 3 * i) = nI s := by rw [← eR, kI_o _ _ _ _ (by decide), kI_f (by omega), kI_e]
  have r3 : R' (3 + 3 * i) = nI x := by rw [← eR, kI_o _ _ _ _ (by decide), kI_e]
  have r4 : ∀ j, j < 1 + 3 * i → R' j = b.1 173 j := fun j hj => by rw [← eR, kI_o _ _ _ _ (by decide), kI_f (by omega), kI_f (by omega), kI_f (by omega)]
  refine ⟨by omega, kI_e, kI_e, ?_, ?_, fun q h1 h2 h3 h4 => ?_, fun k hk => ?_, fun q h1 h2 => d8 q h1 h2, ?_, fun j hj => ?_, fun k hk => ?_⟩
  · rw [kI_f (by decide), kI_o _ _ _ _ (by decide), kI_o _ _ _ _ (by decide)]; exact d4
  · rw [kI_f (by decide), kI_o _ _ _ _ (by decide), kI_o _ _ _ _ (by decide), kI_o _ _ _ _ (by decide)]; exact d5
  · rw [kI_o _ _ _ _ (by omega), kI_o _ _ _ _ h4, kI_o _ _ _ _ h3]; exact d6 q h1 h2 h3 h4
  · rw [kI_o _ _ _ _ (by decide), kI_f hk, kI_o _ _ _ _ (by decide)]; exact d7 k hk
  · rw [kI_o _ _ _ _ (by decide), kI_e]
  · rw [eR]
    by_cases g : j = i
    · subst g
      refine ⟨⟨h, hh, r1⟩, ?_, x, hx, r3⟩
      rw [r2]
      rcases (by omega : s = 0 ∨ s = 1) with e | e
      · rw [e]; exact Or.inl rfl
      · rw [e]; exact Or.inr rfl
    · unfold rli
      rw [r4 _ (by omega), r4 _ (by omega), r4 _ (by omega)]
      exact d10 j (by omega)
  · rw [eR]
    have e0 : rf (RR R') k i = rf (RR (b.1 173)) k i := rf_c2 r4 k i (Nat.le_refl i)
    have e1 : RR R' (533 + 3 * i) = nI h := (congrArg R' (by omega)).trans r1
    have e2 : RR R' (534 + 3 * i) = nI s := (congrArg R' (by omega)).trans r2
    have e3 : RR R' (535 + 3 * i) = nI x := (congrArg R' (by omega)).trans r3
    show _ = (if RR R' (533 + 3 * i) = nI k then rf (RR R') k i &&& (if RR R' (534 + 3 * i) = nI 1 then (1 : Int32) <<< (RR R' (535 + 3 * i) &&& 31) else ((1 : Int32) <<< (RR R' (535 + 3 * i) &&& 31)) ^^^ (-1)) else rf (RR R') k i)
    rw [e0, e1, e2, e3, kI_o _ _ _ _ (by decide), kI_o _ _ _ _ (by decide), kI_at, ← d11 k hk]
    by_cases g : k = h
    · subst g
      rw [if_pos rfl, if_pos rfl, hw]
      simp only [fl, fmN]
      rcases (by omega : s = 0 ∨ s = 1) with e | e
      · subst e; rw [if_neg (by decide), if_neg (by decide)]
      · subst e; rw [if_pos rfl, if_pos rfl]
    · rw [if_neg g, if_neg (fun q => g (nI_inj (by omega) (by omega) q).symm)]
theorem ln_roll {A0 : Mm} {N : Nat → Int64} {i : Nat} (hT : Tp M0 U0 t sz lim) (hS : U0.1 171 = S) (hv : Inv S) (hN : ∀ k, k < 18 → U0.2 174 k = N k) (hA : NM S N A0) (h : At M0 U0 sz lim a b m u κ l v ap np) (hκ0 : κ ≠ 0) (hD : Dr A0 S i a b) : Sm M0 U0 (Ln M0 U0 sz lim np κ (fun a b => a.1 1 2 = nI i ∧ b.1 169 29 = nI i ∧ Dr A0 S (i + 1) (kI a 1 2 (nI (i + 1))) (kI b 169 29 (nI (i + 1))))) (f_Reader_rollLine z_Law m 1) (f_Mod_rollLine z_Law u 169) := by
  have n10 := iv_n10 hv
  have m8 := iv_m8 hv
  obtain ⟨d1, d2, d3, d4, d5, d6, d7, d8, d9, d10, d11⟩ := id hD
  -- what the walk asks of every memory on the way
  have cN : ∀ {m u κ l v ap np}, At M0 U0 sz lim a b m u κ l v ap np → m.1 7 1 = nI (sn S) ∧ m.1 9 1 = nI (sm S) ∧ (∀ x, x < sn S → WR (N x) (m.2 8 x)) ∧ (∀ k, k < sm S → WR (N (10 + k)) (m.2 10 k)) ∧ u.1 171 = S ∧ (∀ k, k < 18 → u.2 174 k = N k) := by
    intro m u κ l v ap np h
    refine ⟨?_, ?_, fun x hx => ?_, fun k hk => ?_, (h.1.2.1.1 171 (by decide) (by decide) (by decide)).trans hS, fun k hk => (h.1.2.1.2.2.2 k hk).trans (hN k hk)⟩
    · rw [h.1.2.2.1.1 7 (by decide) (by decide), d6 7 (by decide) (by decide) (by decide) (by decide)]; exact hA.1
    · rw [h.1.2.2.1.1 9 (by decide) (by decide), d6 9 (by decide) (by decide) (by decide) (by decide)]; exact hA.2.1
    · rw [h.1.2.2.1.2.1 8 (by decide), d8 8 (by decide) (by decide)]; exact hA.2.2.1 x hx
    · rw [h.1.2.2.1.2.1 10 (by decide), d8 10 (by decide) (by decide)]; exact hA.2.2.2 k hk
  obtain ⟨c1, c2, c3, c4, c5, c6⟩ := cN h
  have cl2 : m.1 1 2 = nI i := (h.1.2.2.1.2.2 2 (by decide)).trans d2
  have ul2 : u.1 169 29 = nI i := (h.1.2.2.2.1.2 29 (by decide)).trans d3
  unfold f_Reader_rollLine f_Mod_rollLine
  simp only [fl, fl64, fmN, mm_lt, Nat.reduceAdd]
  rw [c_one h (o := 9) (n := sm S) (r := 8) (N := fun k => N (10 + k)) rfl (by decide) m8 c2 c4, u_isN hT h, Option.bind_some, Option.bind_some]
  by_cases hNm : κ = 1 ∧ rwd l = mN
  · rw [if_pos hNm, if_pos hNm]
    have uf := u_find h hNm.1 (f := 10) (n := sm S) (by omega)
    rw [pnm_c (N' := fun k => N (10 + k)) (fun k hk => c6 _ (by omega))] at uf
    simp (disch := omega) only [eq_f, ↓reduceIte, zq_171, ld_nI, c5, iv_m hv, Option.bind_some, uf]
    rcases fd_cases (pnm (fun k => N (10 + k)) l) (sm S) with ⟨k, hk, -, -, ef⟩ | ⟨-, ef⟩
    · have e5 : ∀ w, (kI m 1 5 w).1 1 5 = w := fun w => kI_e
      have e2 : ∀ w, (kI m 1 5 w).1 1 2 = nI i := fun w => by rw [kI_f (by decide)]; exact cl2
      have h5 := ac_5 h (k := 5) (x := nI k) (Or.inr rfl)
      simp (disch := omega) only [ef, mN_ne, le_t, ↓reduceIte, eq_f, e2, e5, ul2]
      by_cases hi : i = 30
      · subst hi
        simp (disch := omega) only [lt_f, ↓reduceIte, c_fail h5, u_bad h, Option.bind_some, zb_0]
        exact sm_bad h5 (by decide) rfl rfl
      · obtain ⟨m1, u1, κ1, l1, v1, ap1, np1, z1, z2, h1, g1⟩ := at_step hT h5 (Or.inl hNm.1)
        simp (disch := omega) only [lt_t, eq_f, ↓reduceIte, z1, z2, Option.bind_some, nI_mul, nI_add, zq_173, st_nI]
        -- the house is written down
        have h2 := au_I h1 (q := 173) (k := 1 + 3 * i) (x := nI k) (Or.inr rfl)
        have wd : ∀ κ2 l2 v2 ap2 np2 (b2 m2 u2 : Mm) (s : Nat), s < 2 → At M0 U0 sz lim a b2 m2 u2 κ2 l2 v2 ap2 np2 → b2 = kI (kI b 173 (1 + 3 * i) (nI k)) 173 (2 + 3 * i) (nI s) → (κ2 = 1) → np < np2 → Sm M0 U0 (Ln M0 U0 sz lim np κ (fun a b => a.1 1 2 = nI i ∧ b.1 169 29 = nI i ∧ Dr A0 S (i + 1) (kI a 1 2 (nI (i + 1))) (kI b 169 29 (nI (i + 1))))) (f_Reader_rollLine_J78 z_Law 1 (nI k) (nI s) m2) ((f_Mod_next z_Law u2 169).bind (fun q121 => (mm_ldI (q121.1 171) 744 (nI 0)).bind fun x131 => (f_Mod_takesName z_Law q121 169 (nI 0) x131).bind fun q132 => if q132.1 = nI 0 then some (nI 0, q132.2) else (mm_stI q132.2 173 121 (nI (1 + 3 * i + 2)) (q132.2.1 169 18)).bind fun m151 => some (nI 1, m151))) := by
          intro κ2 l2 v2 ap2 np2 b2 m2 u2 s hs h2 hb2 hκ2 hnp2
          obtain ⟨m3, u3, κ3, l3, v3, ap3, np3, z3, z4, h3, g3⟩ := at_step hT h2 (Or.inl hκ2)
          have c1' : m3.1 7 1 = nI (sn S) := by rw [h3.1.2.2.1.1 7 (by decide) (by decide), d6 7 (by decide) (by decide) (by decide) (by decide)]; exact hA.1
          have c3' : ∀ x, x < sn S → WR (N x) (m3.2 8 x) := fun x hx => by rw [h3.1.2.2.1.2.1 8 (by decide), d8 8 (by decide) (by decide)]; exact hA.2.2.1 x hx
          have c5' : u3.1 171 = S := (h3.1.2.1.1 171 (by decide) (by decide) (by decide)).trans hS
          have c6' : ∀ k, k < 18 → u3.2 174 k = N k := fun k hk => (h3.1.2.1.2.2.2 k hk).trans (hN k hk)
          unfold f_Reader_rollLine_J78
          simp only [fl, fmN, mm_lt, Nat.reduceAdd]
          rw [z3, z4, Option.bind_some, Option.bind_some, c_one h3 (o := 7) (n := sn S) (r := 10) (N := N) rfl (by decide) n10 c1' c3', c5', ld_nI (by decide) (by decide), iv_n hv, Option.bind_some, Option.bind_some, u_tnm hT h3 (f := 0) (n := sn S) (by omega), pnm_c (N := fun k => u3.2 174 (0 + k)) (N' := N) (fun k hk => (congrArg (u3.2 174) (Nat.zero_add k)).trans (c6' k (by omega)))]
          by_cases hNm3 : κ3 = 1 ∧ rwd l3 = mN
          · rw [if_pos hNm3, if_pos hNm3]
            rcases fd_cases (pnm N l3) (sn S) with ⟨x, hx, -, -, ef3⟩ | ⟨-, ef3⟩
            · have hxn : ¬ nI x = mN := hq_ne (n := x) (by omega)
              rw [ef3, if_neg hxn, if_neg hxn]
              have h4 := au_g (ac_5 h3 (k := 5) (x := nI x) (Or.inr rfl)) (k := 18) (x := nI x) (Or.inr rfl)
              -- the class writes
              have e33 : (kI m3 1 5 (nI x)).1 33 k = a.1 33 k := by rw [kI_o _ _ _ _ (by decide)]; exact congrFun (h3.1.2.2.1.1 33 (by decide) (by decide)) k
              have e12 : ∀ w, (kI (kI m3 1 5 (nI x)) 33 k w).1 1 2 = nI i := fun w => by
                rw [kI_o _ _ _ _ (by decide), kI_f (by decide)]; exact (h3.1.2.2.1.2.2 2 (by decide)).trans d2
              have e5' : (kI m3 1 5 (nI x)).1 1 5 = nI x := kI_e
              obtain ⟨w, hw⟩ : ∃ w, w = a.1 33 k &&& (if s = 1 then nI 1 <<< (nI x &&& nI 31) else (nI 1 <<< (nI x &&& nI 31)) ^^^ mN) := ⟨_, rfl⟩
              have h6 := ac_I (ac_I h4 (q := 33) (k := k) (x := w) (by decide)) (q := 5) (k := 5) (x := nI (i + 1)) (by decide)
              obtain ⟨m5, u5, κ5, l5, v5, ap5, np5, z5, z6, h7, g7⟩ := at_step hT h6 (Or.inl hNm3.1)
              have hJ : ∀ w0, a.1 33 k &&& w0 = w → f_Reader_rollLine_J125 z_Law 1 (nI k) w0 (kI m3 1 5 (nI x)) = some (nI 1, m5) := by
                intro w0 h0
                unfold f_Reader_rollLine_J125
                simp (disch := omega) only [fl, mm_lt, Nat.reduceAdd, row_atE (p := 33) rfl zq_33, e33, Option.bind_some, h0, row_putE (p := 33) rfl zq_33, e12, nI_add, z5]
              have e18 : u5.1 169 18 = nI x := by
                rw [g7.2.2.2 18 (by decide) (by decide) (by decide) (by decide) (by decide)]; exact kI_e
              have h8 := au_I h7 (q := 173) (k := 3 + 3 * i) (x := nI x) (Or.inr rfl)
              have e5'' : (nI 1, kI m3 1 5 (nI x)).2.1 1 5 = nI x := e5'
              refine sm_ok (m := m5) (u := kI u5 173 (3 + 3 * i) (nI x)) ?_ ?_ ⟨hNm.1, _, _, κ5, l5, v5, ap5, np5, h8, ?_, ?_⟩
              · dsimp only
                rw [if_neg (show ¬ nI 1 = nI 0 by decide), e5']
                by_cases gs : s = 1
                · rw [gs, if_neg (show ¬ nI 1 = nI 0 by decide)]
                  exact hJ _ (by rw [hw, if_pos gs])
                · have gs0 : s = 0 := by omega
                  rw [gs0, if_pos rfl]
                  exact hJ _ (by rw [hw, if_neg gs])
              · rw [z6, Option.bind_some, Option.bind_some]
                dsimp only
                rw [if_neg (show ¬ nI 1 = nI 0 by decide), e18, show 1 + 3 * i + 2 = 3 + 3 * i by omega, st_nI (by omega) (by decide), Option.bind_some]
              · refine ⟨?_, ?_, ?_⟩
                · rw [kI_o _ _ _ _ (by decide), kI_o _ _ _ _ (by decide)]; exact d2
                · rw [kI_o _ _ _ _ (by decide), hb2, kI_o _ _ _ _ (by decide), kI_o _ _ _ _ (by decide)]; exact d3
                · rw [hb2]; exact Dr_next m8 hD (by omega) hk hx hs hw
              · intro g5; have := g3.1 (Or.inl hNm3.1); have := g7.1 (Or.inr (Or.inr g5)); omega
            · rw [ef3, if_pos rfl, if_pos rfl]
              exact sm_bad (au_g (ac_5 h3 (k := 5) (x := mN) (Or.inr rfl)) (k := 18) (x := mN) (Or.inr rfl)) (k := 3) (by decide) rfl rfl
          · rw [if_neg hNm3, if_neg hNm3]
            exact sm_bad h3 (k := 1) (by decide) rfl rfl
        have hJ97 : ∀ s, s < 2 → (if κ1 = 1 ∧ rwd l1 = nI 10 then nI 1 else nI 0) = nI s → f_Mod_rollLine_J97 z_Law 169 (nI (1 + 3 * i)) (kI u1 173 (1 + 3 * i) (nI k)) = (f_Mod_next z_Law (kI (kI u1 173 (1 + 3 * i) (nI k)) 173 (2 + 3 * i) (nI s)) 169).bind (fun q121 => (mm_ldI (q121.1 171) 744 (nI 0)).bind fun x131 => (f_Mod_takesName z_Law q121 169 (nI 0) x131).bind fun q132 => if q132.1 = nI 0 then some (nI 0, q132.2) else (mm_stI q132.2 173 121 (nI (1 + 3 * i + 2)) (q132.2.1 169 18)).bind fun m151 => some (nI 1, m151)) := by
          intro s hs he
          unfold f_Mod_rollLine_J97
          simp only [fl, fl64]
          rw [u_isW h2 (j := 10) (c := 6840691) (by decide) (by decide +kernel), Option.bind_some, he]
          unfold f_Mod_rollLine_J119
          rcases (by omega : s = 0 ∨ s = 1) with e | e
          · subst e
            simp (disch := omega) only [fl, Nat.reduceAdd, zq_171, zq_173, nI_add, ↓reduceIte, st_nI, Option.bind_some]
            rw [show 1 + 3 * i + 1 = 2 + 3 * i by omega]
          · subst e
            simp (disch := omega) only [fl, Nat.reduceAdd, zq_171, zq_173, nI_add, eq_f, ↓reduceIte, st_nI, Option.bind_some]
            rw [show 1 + 3 * i + 1 = 2 + 3 * i by omega]
        rw [c_isW h1, u_isW h2 (j := 10) (c := 6840691) (by decide) (by decide +kernel), Option.bind_some, Option.bind_some]
        have hgo : ∀ s, s < 2 → κ1 = 1 → Sm M0 U0 (Ln M0 U0 sz lim np κ (fun a b => a.1 1 2 = nI i ∧ b.1 169 29 = nI i ∧ Dr A0 S (i + 1) (kI a 1 2 (nI (i + 1))) (kI b 169 29 (nI (i + 1))))) (f_Reader_rollLine_J78 z_Law 1 (nI k) (nI s) m1) ((f_Mod_next z_Law (kI (kI u1 173 (1 + 3 * i) (nI k)) 173 (2 + 3 * i) (nI s)) 169).bind (fun q121 => (mm_ldI (q121.1 171) 744 (nI 0)).bind fun x131 => (f_Mod_takesName z_Law q121 169 (nI 0) x131).bind fun q132 => if q132.1 = nI 0 then some (nI 0, q132.2) else (mm_stI q132.2 173 121 (nI (1 + 3 * i + 2)) (q132.2.1 169 18)).bind fun m151 => some (nI 1, m151))) :=
          fun s hs hk1 => wd _ _ _ _ _ _ _ _ s hs (au_I h2 (q := 173) (k := 2 + 3 * i) (x := nI s) (Or.inr rfl)) rfl hk1 (g1.1 (Or.inl hk1))
        by_cases hH : κ1 = 1 ∧ rwd l1 = nI 10
        · have hj := hJ97 1 (by decide) (by rw [if_pos hH])
          rw [if_pos hH, if_neg (show ¬ nI 1 = nI 0 by decide), if_neg (show ¬ nI 1 = nI 0 by decide), hj]
          exact hgo 1 (by decide) hH.1
        · have hj := hJ97 0 (by decide) (by rw [if_neg hH])
          rw [if_neg hH, if_pos rfl, if_pos rfl, c_isW h1, u_isW h2 (j := 11) (c := 7237492) (by decide) (by decide +kernel), Option.bind_some, Option.bind_some]
          by_cases hO : κ1 = 1 ∧ rwd l1 = nI 11
          · rw [if_pos hO, if_neg (show ¬ nI 1 = nI 0 by decide), if_neg (show ¬ nI 1 = nI 0 by decide), hj]
            exact hgo 0 (by decide) hO.1
          · rw [if_neg hO, if_pos rfl, if_pos rfl, c_fail h2, u_bad h2, Option.bind_some, Option.bind_some]
            exact sm_bad h2 (k := 1) (by decide) rfl rfl
    · have h5 := ac_5 h (k := 5) (x := mN) (Or.inr rfl)
      simp (disch := omega) only [ef, mN_nle, ↓reduceIte, u_bad h, Option.bind_some, zb_0]
      exact sm_bad h5 (k := 3) (by decide) rfl rfl
  · rw [if_neg hNm, if_neg hNm]
    simp (disch := omega) only [↓reduceIte, u_bad h, Option.bind_some, zb_0]
    exact sm_bad h (k := 1) (by decide) rfl rfl
end ROLL
