section OPRB
variable {σ m u w v x : Mm} {S S' : Nat → Int32} {N : Nat → Int64} {sz lim n : Nat}
def stU (w : Mm) (len lim : Nat) : Mm := kI (kI (tkM (kI w 169 0 (nI 0)) len lim) 169 15 (nI 0)) 169 29 (nI 0)
theorem stU_o {len lim q : Nat} (h : q ≠ 169) : (stU w len lim).1 q = w.1 q := by
  unfold stU tkM
  rw [kI_o _ _ _ _ h, kI_o _ _ _ _ h, kI_o _ _ _ _ h, kI_o _ _ _ _ h, kI_o _ _ _ _ h, kI_o _ _ _ _ h, kI_o _ _ _ _ h]
theorem stU_k {len lim k : Nat} (h : k ≠ 0 ∧ k ≠ 2 ∧ k ≠ 3 ∧ k ≠ 4 ∧ k ≠ 5 ∧ k ≠ 15 ∧ k ≠ 29) : (stU w len lim).1 169 k = w.1 169 k := by
  unfold stU tkM
  simp (disch := omega) only [kI_f]
theorem stU_s {len lim : Nat} : (stU w len lim).1 169 2 = nI 0 ∧ (stU w len lim).1 169 3 = nI len ∧ (stU w len lim).1 169 4 = nI 0 ∧ (stU w len lim).1 169 5 = nI lim ∧ (stU w len lim).1 169 15 = nI 0 ∧ (stU w len lim).1 169 29 = nI 0 := by
  unfold stU tkM
  refine ⟨?_, ?_, ?_, ?_, ?_, ?_⟩ <;> simp (disch := omega) only [kI_f, kI_e]
theorem rf_c3 (k i : Nat) (e : ∀ q, 533 ≤ q → q < 533 + 3 * i → S' q = S q) : ∀ j, j ≤ i → rf S' k j = rf S k j
  | 0, _ => rfl
  | j + 1, hj => by
    show (if S' (533 + 3 * j) = nI k then _ else _) = (if S (533 + 3 * j) = nI k then _ else _)
    rw [rf_c3 k i e j (by omega), e _ (by omega) (by omega), e _ (by omega) (by omega), e _ (by omega) (by omega)]
theorem L37_roll {i : Nat} {s m : Mm} (hi : i ≤ 940) (hs : f_Tokens_step z_Law s 2 = some m) : f_Reader_readText_L37 z_Law 1 (nI 1) (nI i, s) = if m.1 2 4 = nI 0 then some (.inr (.inl m)) else (f_Reader_rollLine z_Law m 1).bind (fun q => f_Reader_readText_J90 z_Law 1 (nI 1) (nI i) q.1 q.2) := by
  unfold f_Reader_readText_L37
  simp (disch := omega) only [fl, Nat.reduceAdd, lt_f, ↓reduceIte, hs, Option.bind_some, eq_f]
theorem L26_roll (u : Mm) : f_Mod_roll_L26 z_Law 169 u = if u.1 169 11 = nI 0 then some (.inr (.inr u)) else (f_Mod_rollLine z_Law u 169).bind (fun q => if q.1 = nI 0 then some (.inr (.inl (mN - q.2.1 169 16, q.2))) else (f_Mod_sign z_Law q.2 169 (nI 59)).bind (fun q' => if q'.1 = nI 0 then some (.inr (.inl (mN - q'.2.1 169 16, q'.2))) else some (.inl (kI q'.2 169 29 (q'.2.1 169 29 + nI 1))))) := by
  unfold f_Mod_roll_L26
  simp only [fl, fmN, mm_lt]
theorem L81_roll (hn : n ≤ 30) (h29 : v.1 169 29 = nI n) : ∃ U, mm_lp (f_Mod_roll_L81 z_Law 169) (nI 0, v) = some U ∧ (∀ q, q ≠ 171 → U.1 q = v.1 q) ∧ U.2 = v.2 ∧ ∀ i, U.1 171 i = if 532 ≤ i ∧ i < 532 + (3 * n + 1) then v.1 173 (i - 532) else v.1 171 i := by
  refine lp_ix (fun j s => s.1 = nI j ∧ (∀ q, q ≠ 171 → s.2.1 q = v.1 q) ∧ s.2.2 = v.2 ∧ ∀ i, s.2.1 171 i = if 532 ≤ i ∧ i < 532 + j then v.1 173 (i - 532) else v.1 171 i) (3 * n + 1) (fun j s hj hI => ?_) (fun s hI => ?_) ⟨rfl, fun _ _ => rfl, rfl, fun i => by rw [if_neg (by omega)]⟩
  · obtain ⟨c, q⟩ := s
    obtain ⟨h1, h2, h3, h4⟩ := hI
    dsimp only at h1 h2 h3 h4
    subst h1
    have e29 : q.1 169 29 = nI n := by rw [h2 169 (by decide)]; exact h29
    have e173 : q.1 173 = v.1 173 := h2 173 (by decide)
    refine ⟨(nI (j + 1), kI q 171 (532 + j) (v.1 173 j)), ?_, rfl, fun o ho => (kI_o _ _ _ _ ho).trans (h2 o ho), h3, fun i => ?_⟩
    · unfold f_Mod_roll_L81
      simp (disch := omega) only [fl, mm_lt, Nat.reduceAdd, e29, nI_mul, lt_f, ↓reduceIte, e173, zq_171, zq_173, ld_nI, st_nI, nI_add, Option.bind_some]
    · show (kI q 171 (532 + j) (v.1 173 j)).1 171 i = _
      rw [kI_at]
      by_cases g : i = 532 + j
      · rw [if_pos g, if_pos (by omega), g, Nat.add_sub_cancel_left]
      · rw [if_neg g, h4 i]
        by_cases g2 : 532 ≤ i ∧ i < 532 + j
        · rw [if_pos g2, if_pos (by omega)]
        · rw [if_neg g2, if_neg (by omega)]
  · obtain ⟨c, q⟩ := s
    obtain ⟨h1, h2, h3, h4⟩ := hI
    dsimp only at h1 h2 h3 h4
    subst h1
    have e29 : q.1 169 29 = nI n := by rw [h2 169 (by decide)]; exact h29
    refine ⟨q, ?_, h2, h3, h4⟩
    unfold f_Mod_roll_L81
    simp (disch := omega) only [fl, e29, nI_mul, lt_t, ↓reduceIte]
theorem roll_run (hR : RL σ) (hw : ∀ q, 169 ≤ q → w.1 q = σ.1 q ∧ w.2 q = σ.2 q) : Run2 σ w (f_Hat_roll z_Law σ 0) (f_Mod_roll z_Law w 169) := by
  have hs := rs hR
  have hv := rl_v hs
  have m8 := iv_m8 hv
  obtain ⟨len, hl, t1, t2, t3⟩ := hR.1
  obtain ⟨C, eC⟩ : ∃ C, kF (kI (cpS 5 60 σ) 5 5 (nI 0)) 33 (fun k => if k < 8 then nI 1023 else (kI (cpS 5 60 σ) 5 5 (nI 0)).1 33 k) = C := ⟨_, rfl⟩
  obtain ⟨A, eA⟩ : ∃ A, stC C len 400 = A := ⟨_, rfl⟩
  obtain ⟨B, eB⟩ : ∃ B, stU w len 400 = B := ⟨_, rfl⟩
  have oC : ∀ q, q ≠ 5 → q ≠ 33 → C.1 q = (cpS 5 60 σ).1 q := fun q q1 q2 => by rw [← eC, kF_o _ _ _ (by omega), kI_o _ _ _ _ (by omega)]
  have oC2 : C.2 = (cpS 5 60 σ).2 := by rw [← eC]; rfl
  have oA : ∀ q, q ≠ 1 → q ≠ 2 → A.1 q = C.1 q := fun q q1 q2 => by rw [← eA]; exact stC_o q1 q2
  have oA2 : A.2 = C.2 := by rw [← eA]; rfl
  have c01 : C.1 0 1 = nI len := by rw [oC 0 (by decide) (by decide), (cp_fr 0 (by decide)).1]; exact t1
  have fA : FC σ A := ⟨fun q q1 q2 q3 => by rw [oA q q1 q2, oC q (by omega) (by omega), (cp_fr q (by omega)).1], fun q q2 q3 => by rw [oA2, oC2, (cp_fr q (by omega)).2]⟩
  have fA0 : ∀ k, k ≠ 1 → k ≠ 2 → A.1 0 k = σ.1 0 k := fun k _ _ => by rw [fA.1 0 (by decide) (by decide) (by decide)]
  have oB : ∀ q, q ≠ 169 → B.1 q = w.1 q := fun q q1 => by rw [← eB]; exact stU_o q1
  have oB2 : B.2 = w.2 := by rw [← eB]; rfl
  have sB := stU_s (w := w) (len := len) (lim := 400)
  rw [eB] at sB
  have s1 := stC_1 (c := C) (sz := len) (lim := 400)
  have s2 := stC_2 (c := C) (sz := len) (lim := 400)
  rw [eA] at s1 s2
  have B171 : B.1 171 = σ.1 171 := by rw [oB 171 (by decide), (hw 171 (by decide)).1]
  have hT : Tp A B (fun i => tb σ i) len 400 := by
    refine ⟨fun i hi => ?_, fun i hi => ?_, fun i _ => (tb_eq i).2, hl, by decide, fun k hk => ?_⟩
    · rw [fA.1 4 (by decide) (by decide) (by decide), t3 i hi]; exact (tb_eq i).1
    · rw [oB 170 (by decide), (hw 170 (by decide)).1]; exact (tb_eq i).1
    · rw [oB2, (hw 175 (by decide)).2]; exact hR.2.2.2.2.2.2.2 k hk
  have hW : Wd A B len 400 A B A B := ⟨⟨fun _ _ _ _ => rfl, fun _ _ _ => rfl⟩, ⟨fun _ _ _ _ => rfl, fun _ _ _ => rfl, fun _ _ => rfl, fun _ _ => rfl⟩, ⟨fun _ _ _ => rfl, fun _ _ => rfl, fun _ _ => rfl⟩, ⟨fun _ _ => ⟨rfl, rfl⟩, fun _ _ => rfl⟩, s2.1, s2.2.1, sB.2.1, sB.2.2.2.1⟩
  have h5 : SR (cpS 5 60 σ) 5 (σ.1 171) (σ.2 174) := SR_cp hv (by decide) (rl_S hs)
  have hA5 : ∀ j, j < 35 → j ≠ 0 → j ≠ 28 → A.1 (5 + j) = (cpS 5 60 σ).1 (5 + j) := fun j h1 h2 h3 => by rw [oA _ (by omega) (by omega), oC _ (by omega) (by omega)]
  have hNM : NM (σ.1 171) (σ.2 174) A := by
    refine ⟨?_, ?_, fun x hx => ?_, fun k hk => ?_⟩
    · rw [hA5 2 (by decide) (by decide) (by decide)]; exact h5.1.1.trans (iv_n hv)
    · rw [hA5 4 (by decide) (by decide) (by decide)]; exact h5.1.2.1.trans (iv_m hv)
    · rw [oA2, oC2]; exact h5.2.1.1 x hx
    · rw [oA2, oC2]; exact h5.2.1.2 k hk
  have hN : ∀ k, k < 18 → B.2 174 k = σ.2 174 k := fun k _ => by rw [oB2, (hw 174 (by decide)).2]
  have hP : LPs A B len 400 29 (nI 1) (fun m => f_Reader_rollLine z_Law m 1) (fun u => f_Mod_rollLine z_Law u 169) (f_Reader_readText_L37 z_Law 1 (nI 1)) (f_Mod_roll_L26 z_Law 169) (Dr A (σ.1 171)) :=
    ⟨fun i s m hi hs => L37_roll hi hs, fun u => L26_roll u, fun i a b m u κ l v ap np h hκ hD _ => ln_roll hT B171 hv hN hNM h hκ hD⟩
  have hD0 : Dr A (σ.1 171) 0 A B := by
    refine ⟨by decide, s1.1, sB.2.2.2.2.2, s1.2.1, sB.2.2.2.2.1, fun _ _ _ _ _ => rfl, fun _ _ => rfl, fun _ _ _ => rfl, ?_, fun j hj => absurd hj (by omega), fun k hk => ?_⟩
    · rw [oA 5 (by decide) (by decide), ← eC, kF_o _ _ _ (by decide), kI_e]
    · rw [oA 33 (by decide) (by decide), ← eC, kF_s, if_pos (by omega)]; rfl
  obtain ⟨m', u1, u', g1, g2, g3⟩ := rd_text (Or.inr rfl) hT hP hW s2.2.2 sB.2.2.1 hD0
  have hH : f_Hat_roll z_Law σ 0 = (f_Hat_takeDraft z_Law m' 0).bind (fun q => some (q.1, q.2)) := by
    have hf : f_Row_fill z_Law (kI (cpS 5 60 σ) 5 5 (nI 0)) 32 (nI 1023) = some C := by rw [row_fill (o := 32) (n := 8) rfl (by decide), eC]
    unfold f_Hat_roll f_State_clearRoll
    simp only [fl, Nat.reduceAdd, st_copy SZ_5 SZ_60 (by decide), Option.bind_some, mm_lt, hf, c01, rd_st, eA]
    rw [show (mm_lp (f_Reader_readText_L37 z_Law 1 (nI 1)) (nI 0, A)) = some (.inl m') from g2]
    rfl
  have hM : f_Mod_roll z_Law w 169 = (mm_lp (f_Mod_roll_L26 z_Law 169) u1).bind (Sum.elim (fun r9 => some r9) (fun x26_ => (mm_stI x26_ 173 121 (nI 0) (x26_.1 169 29)).bind fun m78 => (mm_lp (f_Mod_roll_L81 z_Law 169) (nI 0, m78)).bind (fun q81 => some (q81.1 169 29, q81)))) := by
    have t2' : (kI w 169 0 (nI 0)).1 169 2 = nI len := by rw [kI_f (by decide), (hw 169 (by decide)).1]; exact t2
    unfold f_Mod_roll
    simp only [fl, Nat.reduceAdd, mm_lt, md_taken t2', Option.bind_some, zq_173]
    rw [show kI (kI (tkM (kI w 169 0 (nI 0)) len 400) 169 15 (nI 0)) 169 29 (nI 0) = B from eB, g1]
    rfl
  rcases g3 with ⟨g3, hF⟩ | ⟨g3, a', b', n, hn, hW', hD⟩
  · refine run_bad hR hw fA fA0 (fun q q1 _ => oB q q1) oB2 sB.1 (fun k hk => ?_) hF hH ?_
    · rw [← eB]; exact stU_k (by omega)
    · rw [hM, g3]; rfl
  · obtain ⟨d1, d2, d3, d4, d5, d6, d7, d8, d9, d10, d11⟩ := hD
    obtain ⟨fc, fu, ec, eu, -⟩ := hW'
    have u29 : u'.1 169 29 = nI n := (eu.2 29 (by decide)).trans d3
    have v29 : (kI u' 173 0 (nI n)).1 169 29 = nI n := (congrFun (kI_o _ _ _ _ (by decide)) 29).trans u29
    obtain ⟨U, k1, k2, k3, k4⟩ := L81_roll d1 v29
    have u173 : ∀ j, 1 ≤ j → (kI u' 173 0 (nI n)).1 173 j = b'.1 173 j := fun j hj => by rw [kI_f (by omega), (eu.1 173 (by decide)).1]
    have v171 : (kI u' 173 0 (nI n)).1 171 = σ.1 171 := by rw [kI_o _ _ _ _ (by decide), fu.1 171 (by decide) (by decide) (by decide)]; exact B171
    obtain ⟨S', eS⟩ : ∃ S' : Nat → Int32, S' = fun i => if 532 ≤ i ∧ i < 532 + (3 * n + 1) then (kI u' 173 0 (nI n)).1 173 (i - 532) else σ.1 171 i := ⟨_, rfl⟩
    have eS1 : ∀ i, i < 532 → S' i = σ.1 171 i := fun i hi => by rw [eS]; exact if_neg (by omega)
    have eS2 : ∀ i, 623 ≤ i → S' i = σ.1 171 i := fun i hi => by rw [eS]; exact if_neg (by omega)
    have eS3 : S' 532 = nI n := by rw [eS]; exact (if_pos (by omega)).trans kI_e
    have eS4 : ∀ j, 533 ≤ j → j < 533 + 3 * n → S' j = b'.1 173 (j - 532) := fun j h1 h2 => by rw [eS]; exact (if_pos (by omega)).trans (u173 _ (by omega))
    have hsr : sr S' = n := by unfold sr; rw [eS3, nI_clamp (by omega)]
    have hsb : sb S' = sb (σ.1 171) := sb_c (eS2 623 (by decide))
    have hv' : Inv S' := by
      refine Inv_rb hv eS1 ⟨by rw [hsr]; exact eS3, by rw [hsr]; exact d1⟩ (fun i hi => ?_) ⟨by rw [eS2 623 (by decide), hsb]; exact iv_sb hv, by rw [hsb]; exact iv_sb30 hv⟩ (fun i hi => ?_)
      · rw [hsr] at hi
        rw [eS4 _ (by omega) (by omega), eS4 _ (by omega) (by omega), eS4 _ (by omega) (by omega), show 533 + 3 * i - 532 = 1 + 3 * i by omega, show 534 + 3 * i - 532 = 2 + 3 * i by omega, show 535 + 3 * i - 532 = 3 + 3 * i by omega]
        exact d10 i hi
      · rw [hsb] at hi
        rw [eS2 _ (by omega), eS2 _ (by omega), eS2 _ (by omega)]; exact iv_book hv i hi
    have mA : ∀ q, 5 ≤ q → q < 40 → q ≠ 33 → q ≠ 5 → m'.1 q = A.1 q := fun q h1 h2 h3 h4 => (ec.1 q (by omega) (by omega)).trans (d6 q h1 h2 h3 h4)
    have m5 : m'.1 5 = a'.1 5 := ec.1 5 (by decide) (by decide)
    have A5 : ∀ k, k ≠ 5 → A.1 5 k = (cpS 5 60 σ).1 5 k := fun k hk => by rw [oA 5 (by decide) (by decide), ← eC, kF_o _ _ _ (by decide), kI_f hk]
    have hs' : SR m' 5 S' (σ.2 174) := by
      refine SR_rb (c := cpS 5 60 σ) h5 hv eS1 (fun j h1 h2 => ?_) ?_ (fun j hj => ?_) ?_ (fun k hk => ?_) ?_ (fun i hi => ?_)
      · rw [mA _ (by omega) (by omega) (by omega) (by omega)]; exact hA5 j (by omega) h2 (by omega)
      · rw [m5, d7 2 (by decide)]; exact A5 2 (by decide)
      · rw [ec.2.1 _ (by omega), d8 _ (by omega) (by omega), oA2, oC2]
      · rw [m5, d9]; exact eS3.symm
      · rw [ec.1 33 (by decide) (by decide), d11 k hk, hsr]
        exact (rf_c3 k n (fun q h1 h2 => eS4 q h1 h2) n (Nat.le_refl n)).symm
      · rw [m5, d7 7 (by decide), A5 7 (by decide), eS2 623 (by decide)]; exact h5.2.2.2.2.2.2.2.2.1
      · rw [hsb] at hi
        rw [mA 35 (by decide) (by decide) (by decide) (by decide), mA 37 (by decide) (by decide) (by decide) (by decide), mA 39 (by decide) (by decide) (by decide) (by decide), hA5 30 (by decide) (by decide) (by decide), hA5 32 (by decide) (by decide) (by decide), hA5 34 (by decide) (by decide) (by decide), eS2 _ (by omega), eS2 _ (by omega), eS2 _ (by omega)]
        exact h5.2.2.2.2.2.2.2.2.2 i hi
    refine run_ok (U := U) (n := n) (S' := S') (N' := σ.2 174) hR hw fA fA0 (fun q q1 _ => oB q q1) oB2 sB.1 (fun k hk => ?_) fc fu ((ec.2.2 3 (by decide)).trans d4) ((ec.2.2 2 (by decide)).trans d2) ((eu.2 15 (by decide)).trans d5) hH ?_ (fun q q1 q2 => (k2 q q1).trans (kI_o _ _ _ _ q2)) (fun q _ => by rw [k3]; rfl) hv' hs' (fun i hi => ?_) (fun i hi => ?_)
    · rw [← eB]; exact stU_k (by omega)
    · rw [hM, g3]
      simp only [Option.bind_some, Sum.elim_inr, u29]
      rw [st_nI (by decide) (by decide), Option.bind_some, k1, Option.bind_some, k2 169 (by decide), v29]
    · rw [k4 i, v171, eS]
    · rw [k3]
      show u'.2 174 i = _
      rw [fu.2.2.2 i hi, oB2, (hw 174 (by decide)).2]
theorem op_roll (hR : RL σ) : ∃ r m1 m2, f_Hat_roll z_Law σ 0 = some (r, m1) ∧ f_Mod_roll z_Law m1 169 = some (r, m2) ∧ RL m2 :=
  two_run (M := fun w => f_Mod_roll z_Law w 169) (fun w hw => roll_run hR hw)
theorem L37_book {i : Nat} {s m : Mm} (hi : i ≤ 940) (hs : f_Tokens_step z_Law s 2 = some m) : f_Reader_readText_L37 z_Law 1 (nI 2) (nI i, s) = if m.1 2 4 = nI 0 then some (.inr (.inl m)) else (f_Reader_bookLine z_Law m 1).bind (fun q => f_Reader_readText_J90 z_Law 1 (nI 2) (nI i) q.1 q.2) := by
  unfold f_Reader_readText_L37
  simp (disch := omega) only [fl, Nat.reduceAdd, lt_f, ↓reduceIte, hs, Option.bind_some, eq_f]
theorem L26_book (u : Mm) : f_Mod_book_L26 z_Law 169 u = if u.1 169 11 = nI 0 then some (.inr (.inr u)) else (f_Mod_bookLine z_Law u 169).bind (fun q => if q.1 = nI 0 then some (.inr (.inl (mN - q.2.1 169 16, q.2))) else (f_Mod_sign z_Law q.2 169 (nI 59)).bind (fun q' => if q'.1 = nI 0 then some (.inr (.inl (mN - q'.2.1 169 16, q'.2))) else some (.inl (kI q'.2 169 29 (q'.2.1 169 29 + nI 1))))) := by
  unfold f_Mod_book_L26
  simp only [fl, fmN, mm_lt]
theorem L81_book (hn : n ≤ 30) (h29 : v.1 169 29 = nI n) : ∃ U, mm_lp (f_Mod_book_L81 z_Law 169) (nI 0, v) = some U ∧ (∀ q, q ≠ 171 → U.1 q = v.1 q) ∧ U.2 = v.2 ∧ ∀ i, U.1 171 i = if 623 ≤ i ∧ i < 623 + (4 * n + 1) then v.1 173 (i - 623) else v.1 171 i := by
  refine lp_ix (fun j s => s.1 = nI j ∧ (∀ q, q ≠ 171 → s.2.1 q = v.1 q) ∧ s.2.2 = v.2 ∧ ∀ i, s.2.1 171 i = if 623 ≤ i ∧ i < 623 + j then v.1 173 (i - 623) else v.1 171 i) (4 * n + 1) (fun j s hj hI => ?_) (fun s hI => ?_) ⟨rfl, fun _ _ => rfl, rfl, fun i => by rw [if_neg (by omega)]⟩
  · obtain ⟨c, q⟩ := s
    obtain ⟨h1, h2, h3, h4⟩ := hI
    dsimp only at h1 h2 h3 h4
    subst h1
    have e29 : q.1 169 29 = nI n := by rw [h2 169 (by decide)]; exact h29
    have e173 : q.1 173 = v.1 173 := h2 173 (by decide)
    refine ⟨(nI (j + 1), kI q 171 (623 + j) (v.1 173 j)), ?_, rfl, fun o ho => (kI_o _ _ _ _ ho).trans (h2 o ho), h3, fun i => ?_⟩
    · unfold f_Mod_book_L81
      simp (disch := omega) only [fl, mm_lt, Nat.reduceAdd, e29, nI_mul, lt_f, ↓reduceIte, e173, zq_171, zq_173, ld_nI, st_nI, nI_add, Option.bind_some]
    · show (kI q 171 (623 + j) (v.1 173 j)).1 171 i = _
      rw [kI_at]
      by_cases g : i = 623 + j
      · rw [if_pos g, if_pos (by omega), g, Nat.add_sub_cancel_left]
      · rw [if_neg g, h4 i]
        by_cases g2 : 623 ≤ i ∧ i < 623 + j
        · rw [if_pos g2, if_pos (by omega)]
        · rw [if_neg g2, if_neg (by omega)]
  · obtain ⟨c, q⟩ := s
    obtain ⟨h1, h2, h3, h4⟩ := hI
    dsimp only at h1 h2 h3 h4
    subst h1
    have e29 : q.1 169 29 = nI n := by rw [h2 169 (by decide)]; exact h29
    refine ⟨q, ?_, h2, h3, h4⟩
    unfold f_Mod_book_L81
    simp (disch := omega) only [fl, e29, nI_mul, lt_t, ↓reduceIte]
theorem book_run (hR : RL σ) (hw : ∀ q, 169 ≤ q → w.1 q = σ.1 q ∧ w.2 q = σ.2 q) : Run2 σ w (f_Hat_book z_Law σ 0) (f_Mod_book z_Law w 169) := by
  have hs := rs hR
  have hv := rl_v hs
  have m8 := iv_m8 hv
  obtain ⟨len, hl, t1, t2, t3⟩ := hR.1
  obtain ⟨C, eC⟩ : ∃ C, kI (cpS 5 60 σ) 5 7 (nI 0) = C := ⟨_, rfl⟩
  obtain ⟨A, eA⟩ : ∃ A, stC C len 400 = A := ⟨_, rfl⟩
  obtain ⟨B, eB⟩ : ∃ B, stU w len 400 = B := ⟨_, rfl⟩
  have oC : ∀ q, q ≠ 5 → q ≠ 33 → C.1 q = (cpS 5 60 σ).1 q := fun q q1 q2 => by rw [← eC, kI_o _ _ _ _ (by omega)]
  have oC2 : C.2 = (cpS 5 60 σ).2 := by rw [← eC]; rfl
  have oA : ∀ q, q ≠ 1 → q ≠ 2 → A.1 q = C.1 q := fun q q1 q2 => by rw [← eA]; exact stC_o q1 q2
  have oA2 : A.2 = C.2 := by rw [← eA]; rfl
  have c01 : C.1 0 1 = nI len := by rw [oC 0 (by decide) (by decide), (cp_fr 0 (by decide)).1]; exact t1
  have fA : FC σ A := ⟨fun q q1 q2 q3 => by rw [oA q q1 q2, oC q (by omega) (by omega), (cp_fr q (by omega)).1], fun q q2 q3 => by rw [oA2, oC2, (cp_fr q (by omega)).2]⟩
  have fA0 : ∀ k, k ≠ 1 → k ≠ 2 → A.1 0 k = σ.1 0 k := fun k _ _ => by rw [fA.1 0 (by decide) (by decide) (by decide)]
  have oB : ∀ q, q ≠ 169 → B.1 q = w.1 q := fun q q1 => by rw [← eB]; exact stU_o q1
  have oB2 : B.2 = w.2 := by rw [← eB]; rfl
  have sB := stU_s (w := w) (len := len) (lim := 400)
  rw [eB] at sB
  have s1 := stC_1 (c := C) (sz := len) (lim := 400)
  have s2 := stC_2 (c := C) (sz := len) (lim := 400)
  rw [eA] at s1 s2
  have B171 : B.1 171 = σ.1 171 := by rw [oB 171 (by decide), (hw 171 (by decide)).1]
  have hT : Tp A B (fun i => tb σ i) len 400 := by
    refine ⟨fun i hi => ?_, fun i hi => ?_, fun i _ => (tb_eq i).2, hl, by decide, fun k hk => ?_⟩
    · rw [fA.1 4 (by decide) (by decide) (by decide), t3 i hi]; exact (tb_eq i).1
    · rw [oB 170 (by decide), (hw 170 (by decide)).1]; exact (tb_eq i).1
    · rw [oB2, (hw 175 (by decide)).2]; exact hR.2.2.2.2.2.2.2 k hk
  have hW : Wd A B len 400 A B A B := ⟨⟨fun _ _ _ _ => rfl, fun _ _ _ => rfl⟩, ⟨fun _ _ _ _ => rfl, fun _ _ _ => rfl, fun _ _ => rfl, fun _ _ => rfl⟩, ⟨fun _ _ _ => rfl, fun _ _ => rfl, fun _ _ => rfl⟩, ⟨fun _ _ => ⟨rfl, rfl⟩, fun _ _ => rfl⟩, s2.1, s2.2.1, sB.2.1, sB.2.2.2.1⟩
  have h5 : SR (cpS 5 60 σ) 5 (σ.1 171) (σ.2 174) := SR_cp hv (by decide) (rl_S hs)
  have hA5 : ∀ j, j < 35 → j ≠ 0 → j ≠ 28 → A.1 (5 + j) = (cpS 5 60 σ).1 (5 + j) := fun j h1 h2 h3 => by rw [oA _ (by omega) (by omega), oC _ (by omega) (by omega)]
  have hNM : NM (σ.1 171) (σ.2 174) A := by
    refine ⟨?_, ?_, fun x hx => ?_, fun k hk => ?_⟩
    · rw [hA5 2 (by decide) (by decide) (by decide)]; exact h5.1.1.trans (iv_n hv)
    · rw [hA5 4 (by decide) (by decide) (by decide)]; exact h5.1.2.1.trans (iv_m hv)
    · rw [oA2, oC2]; exact h5.2.1.1 x hx
    · rw [oA2, oC2]; exact h5.2.1.2 k hk
  have hN : ∀ k, k < 18 → B.2 174 k = σ.2 174 k := fun k _ => by rw [oB2, (hw 174 (by decide)).2]
  have hPw : A.1 6 6 = nI (pw (σ.1 171)) := by
    rw [hA5 1 (by decide) (by decide) (by decide)]; exact h5.1.2.2.1.trans (iv_p hv).1
  have hP : LPs A B len 400 29 (nI 2) (fun m => f_Reader_bookLine z_Law m 1) (fun u => f_Mod_bookLine z_Law u 169) (f_Reader_readText_L37 z_Law 1 (nI 2)) (f_Mod_book_L26 z_Law 169) (Db A (σ.1 171)) :=
    ⟨fun i s m hi hs => L37_book hi hs, fun u => L26_book u, fun i a b m u κ l v ap np h hκ hD _ => ln_book hT B171 hv hN hNM hPw h hκ hD⟩
  have hD0 : Db A (σ.1 171) 0 A B := by
    refine ⟨by decide, s1.1, sB.2.2.2.2.2, s1.2.1, sB.2.2.2.2.1, fun _ _ _ _ => rfl, fun _ _ => rfl, fun _ _ _ => rfl, ?_, fun j hj => absurd hj (by omega), fun j hj => absurd hj (by omega)⟩
    rw [oA 5 (by decide) (by decide), ← eC, kI_e]
  obtain ⟨m', u1, u', g1, g2, g3⟩ := rd_text (Or.inr rfl) hT hP hW s2.2.2 sB.2.2.1 hD0
  have hH : f_Hat_book z_Law σ 0 = (f_Hat_takeDraft z_Law m' 0).bind (fun q => some (q.1, q.2)) := by
    unfold f_Hat_book
    simp only [fl, Nat.reduceAdd, st_copy SZ_5 SZ_60 (by decide), Option.bind_some, mm_lt, eC, c01, rd_st, eA]
    rw [show (mm_lp (f_Reader_readText_L37 z_Law 1 (nI 2)) (nI 0, A)) = some (.inl m') from g2]
    rfl
  have hM : f_Mod_book z_Law w 169 = (mm_lp (f_Mod_book_L26 z_Law 169) u1).bind (Sum.elim (fun r9 => some r9) (fun x26_ => (mm_stI x26_ 173 121 (nI 0) (x26_.1 169 29)).bind fun m78 => (mm_lp (f_Mod_book_L81 z_Law 169) (nI 0, m78)).bind (fun q81 => some (q81.1 169 29, q81)))) := by
    have t2' : (kI w 169 0 (nI 0)).1 169 2 = nI len := by rw [kI_f (by decide), (hw 169 (by decide)).1]; exact t2
    unfold f_Mod_book
    simp only [fl, Nat.reduceAdd, mm_lt, md_taken t2', Option.bind_some, zq_173]
    rw [show kI (kI (tkM (kI w 169 0 (nI 0)) len 400) 169 15 (nI 0)) 169 29 (nI 0) = B from eB, g1]
    rfl
  rcases g3 with ⟨g3, hF⟩ | ⟨g3, a', b', n, hn, hW', hD⟩
  · refine run_bad hR hw fA fA0 (fun q q1 _ => oB q q1) oB2 sB.1 (fun k hk => ?_) hF hH ?_
    · rw [← eB]; exact stU_k (by omega)
    · rw [hM, g3]; rfl
  · obtain ⟨d1, d2, d3, d4, d5, d6, d7, d8, d9, d10, d11⟩ := hD
    obtain ⟨fc, fu, ec, eu, -⟩ := hW'
    have u29 : u'.1 169 29 = nI n := (eu.2 29 (by decide)).trans d3
    have v29 : (kI u' 173 0 (nI n)).1 169 29 = nI n := (congrFun (kI_o _ _ _ _ (by decide)) 29).trans u29
    obtain ⟨U, k1, k2, k3, k4⟩ := L81_book d1 v29
    have u173 : ∀ j, 1 ≤ j → (kI u' 173 0 (nI n)).1 173 j = b'.1 173 j := fun j hj => by rw [kI_f (by omega), (eu.1 173 (by decide)).1]
    have v171 : (kI u' 173 0 (nI n)).1 171 = σ.1 171 := by rw [kI_o _ _ _ _ (by decide), fu.1 171 (by decide) (by decide) (by decide)]; exact B171
    obtain ⟨S', eS⟩ : ∃ S' : Nat → Int32, S' = fun i => if 623 ≤ i ∧ i < 623 + (4 * n + 1) then (kI u' 173 0 (nI n)).1 173 (i - 623) else σ.1 171 i := ⟨_, rfl⟩
    have eS1 : ∀ i, i < 623 → S' i = σ.1 171 i := fun i hi => by rw [eS]; exact if_neg (by omega)
    have eS3 : S' 623 = nI n := by rw [eS]; exact (if_pos (by omega)).trans kI_e
    have eS4 : ∀ j, 624 ≤ j → j < 624 + 4 * n → S' j = b'.1 173 (j - 623) := fun j h1 h2 => by rw [eS]; exact (if_pos (by omega)).trans (u173 _ (by omega))
    have hsr : sr S' = sr (σ.1 171) := sr_c (eS1 532 (by decide))
    have r30 := iv_sr30 hv
    have hsb : sb S' = n := by unfold sb; rw [eS3, nI_clamp (by omega)]
    have hv' : Inv S' := by
      refine Inv_rb hv (fun i hi => eS1 i (by omega)) ⟨by rw [eS1 532 (by decide), hsr]; exact iv_sr hv, by rw [hsr]; exact r30⟩ (fun i hi => ?_) ⟨by rw [hsb]; exact eS3, by rw [hsb]; exact d1⟩ (fun i hi => ?_)
      · rw [hsr] at hi
        rw [eS1 _ (by omega), eS1 _ (by omega), eS1 _ (by omega)]; exact iv_roll hv i hi
      · rw [hsb] at hi
        rw [eS4 _ (by omega) (by omega), eS4 _ (by omega) (by omega), eS4 _ (by omega) (by omega), show 624 + 4 * i - 623 = 1 + 4 * i by omega, show 625 + 4 * i - 623 = 2 + 4 * i by omega, show 626 + 4 * i - 623 = 3 + 4 * i by omega]
        exact d10 i hi
    have mA : ∀ q, 5 ≤ q → q < 35 → q ≠ 5 → m'.1 q = A.1 q := fun q h1 h2 h4 => (ec.1 q (by omega) (by omega)).trans (d6 q h1 h2 h4)
    have m5 : m'.1 5 = a'.1 5 := ec.1 5 (by decide) (by decide)
    have A5 : ∀ k, k ≠ 7 → A.1 5 k = (cpS 5 60 σ).1 5 k := fun k hk => by rw [oA 5 (by decide) (by decide), ← eC, kI_f hk]
    have A33 : A.1 33 = (cpS 5 60 σ).1 33 := by rw [oA 33 (by decide) (by decide), ← eC, kI_o _ _ _ _ (by decide)]
    have hs' : SR m' 5 S' (σ.2 174) := by
      refine SR_rb (c := cpS 5 60 σ) h5 hv (fun i hi => eS1 i (by omega)) (fun j h1 h2 => ?_) ?_ (fun j hj => ?_) ?_ (fun k hk => ?_) ?_ (fun i hi => ?_)
      · rw [mA _ (by omega) (by omega) (by omega)]; exact hA5 j (by omega) h2 (by omega)
      · rw [m5, d7 2 (by decide)]; exact A5 2 (by decide)
      · rw [ec.2.1 _ (by omega), d8 _ (by omega) (by omega), oA2, oC2]
      · rw [m5, d7 5 (by decide), A5 5 (by decide), eS1 532 (by decide)]; exact h5.2.2.2.2.2.2.1
      · rw [mA 33 (by decide) (by decide) (by decide), A33, hsr, rf_c3 k (sr (σ.1 171)) (fun q h1 h2 => eS1 q (by omega)) _ (Nat.le_refl _)]
        exact h5.2.2.2.2.2.2.2.1 k hk
      · rw [m5, d9]; exact eS3.symm
      · rw [hsb] at hi
        rw [ec.1 35 (by decide) (by decide), ec.1 37 (by decide) (by decide), ec.1 39 (by decide) (by decide), eS4 _ (by omega) (by omega), eS4 _ (by omega) (by omega), eS4 _ (by omega) (by omega), show 624 + 4 * i - 623 = 1 + 4 * i by omega, show 625 + 4 * i - 623 = 2 + 4 * i by omega, show 626 + 4 * i - 623 = 3 + 4 * i by omega]
        exact d11 i hi
    refine run_ok (U := U) (n := n) (S' := S') (N' := σ.2 174) hR hw fA fA0 (fun q q1 _ => oB q q1) oB2 sB.1 (fun k hk => ?_) fc fu ((ec.2.2 3 (by decide)).trans d4) ((ec.2.2 2 (by decide)).trans d2) ((eu.2 15 (by decide)).trans d5) hH ?_ (fun q q1 q2 => (k2 q q1).trans (kI_o _ _ _ _ q2)) (fun q _ => by rw [k3]; rfl) hv' hs' (fun i hi => ?_) (fun i hi => ?_)
    · rw [← eB]; exact stU_k (by omega)
    · rw [hM, g3]
      simp only [Option.bind_some, Sum.elim_inr, u29]
      rw [st_nI (by decide) (by decide), Option.bind_some, k1, Option.bind_some, k2 169 (by decide), v29]
    · rw [k4 i, v171, eS]
    · rw [k3]
      show u'.2 174 i = _
      rw [fu.2.2.2 i hi, oB2, (hw 174 (by decide)).2]
theorem op_book (hR : RL σ) : ∃ r m1 m2, f_Hat_book z_Law σ 0 = some (r, m1) ∧ f_Mod_book z_Law m1 169 = some (r, m2) ∧ RL m2 :=
  two_run (M := fun w => f_Mod_book z_Law w 169) (fun w hw => book_run hR hw)
end OPRB
