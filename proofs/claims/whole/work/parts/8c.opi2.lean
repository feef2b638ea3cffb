section OPI2
variable {σ a b m u w x : Mm}
def stI (w : Mm) (len : Nat) : Mm := kI (kI (kI (kI (kI (tkM (kI w 169 0 (nI 0)) len 900) 169 15 (nI 0)) 169 19 (nI 0)) 169 20 (nI 0)) 169 21 (nI 0)) 169 22 (nI 0)
theorem stI_o {len q : Nat} (h : q ≠ 169) : (stI w len).1 q = w.1 q := by
  unfold stI tkM
  simp (disch := omega) only [kI_o]
theorem stI_k {len k : Nat} (h : k ≠ 0 ∧ k ≠ 2 ∧ k ≠ 3 ∧ k ≠ 4 ∧ k ≠ 5 ∧ k ≠ 15 ∧ k ≠ 19 ∧ k ≠ 20 ∧ k ≠ 21 ∧ k ≠ 22) : (stI w len).1 169 k = w.1 169 k := by
  unfold stI tkM
  simp (disch := omega) only [kI_f]
theorem stI_s {len : Nat} : (stI w len).1 169 2 = nI 0 ∧ (stI w len).1 169 3 = nI len ∧ (stI w len).1 169 4 = nI 0 ∧ (stI w len).1 169 5 = nI 900 ∧ (stI w len).1 169 15 = nI 0 ∧ (stI w len).1 169 19 = nI 0 ∧ (stI w len).1 169 20 = nI 0 ∧ (stI w len).1 169 21 = nI 0 ∧ (stI w len).1 169 22 = nI 0 := by
  unfold stI tkM
  refine ⟨?_, ?_, ?_, ?_, ?_, ?_, ?_, ?_, ?_⟩ <;> simp (disch := omega) only [kI_f, kI_e]
theorem island_run (hR : RL σ) (hw : ∀ q, 169 ≤ q → w.1 q = σ.1 q ∧ w.2 q = σ.2 q) : Run2 σ w (f_Hat_island z_Law σ 0) (f_Mod_island z_Law w 169) := by
  obtain ⟨len, hl, t1, t2, t3⟩ := hR.1
  obtain ⟨C, eC⟩ : ∃ C, clr σ 5 = C := ⟨_, rfl⟩
  obtain ⟨A, eA⟩ : ∃ A, stC C len 900 = A := ⟨_, rfl⟩
  obtain ⟨B0, eB0⟩ : ∃ B, stI w len = B := ⟨_, rfl⟩
  obtain ⟨B1, x1, x2, x3, x4⟩ := L39_isl (u := B0)
  obtain ⟨B, eB⟩ : ∃ B, kI (kI B1 172 2 (nI 1)) 172 3 (nI 8) = B := ⟨_, rfl⟩
  have oA : ∀ q, q ≠ 1 → q ≠ 2 → A.1 q = C.1 q := fun q q1 q2 => by rw [← eA]; exact stC_o q1 q2
  have oA2 : A.2 = C.2 := by rw [← eA]; rfl
  have c01 : C.1 0 1 = nI len := by rw [← eC, clr_o (by decide)]; exact t1
  have fA : FC σ A := ⟨fun q q1 q2 q3 => by rw [oA q q1 q2, ← eC, clr_o (by omega)], fun q q2 q3 => by rw [oA2, ← eC, clr_2]⟩
  have fA0 : ∀ k, k ≠ 1 → k ≠ 2 → A.1 0 k = σ.1 0 k := fun k _ _ => by rw [fA.1 0 (by decide) (by decide) (by decide)]
  have oB : ∀ q, q ≠ 169 → q ≠ 172 → B.1 q = w.1 q := fun q q1 q2 => by rw [← eB, kI_o _ _ _ _ q2, kI_o _ _ _ _ q2, x2 q q2, ← eB0]; exact stI_o q1
  have oB9 : B.1 169 = B0.1 169 := by rw [← eB, kI_o _ _ _ _ (by decide), kI_o _ _ _ _ (by decide), x2 169 (by decide)]
  have oB2 : B.2 = w.2 := by rw [← eB]; show B1.2 = _; rw [x3, ← eB0]; rfl
  have sB := stI_s (w := w) (len := len)
  rw [eB0, ← oB9] at sB
  have s1 := stC_1 (c := C) (sz := len) (lim := 900)
  have s2 := stC_2 (c := C) (sz := len) (lim := 900)
  rw [eA] at s1 s2
  have hB3 : ∀ k, (k = 26 ∨ k = 32 ∨ k = 35) → B.1 169 k = w.1 169 k := fun k hk => by rw [oB9, ← eB0]; exact stI_k (by omega)
  have hT : Tp A B (fun i => tb σ i) len 900 := by
    refine ⟨fun i hi => ?_, fun i hi => ?_, fun i _ => (tb_eq i).2, hl, by decide, fun k hk => ?_⟩
    · rw [fA.1 4 (by decide) (by decide) (by decide), t3 i hi]; exact (tb_eq i).1
    · rw [oB 170 (by decide) (by decide), (hw 170 (by decide)).1]; exact (tb_eq i).1
    · rw [oB2, (hw 175 (by decide)).2]; exact hR.2.2.2.2.2.2.2 k hk
  have hW : Wd A B len 900 A B A B := ⟨⟨fun _ _ _ _ => rfl, fun _ _ _ => rfl⟩, ⟨fun _ _ _ _ => rfl, fun _ _ _ => rfl, fun _ _ => rfl, fun _ _ => rfl⟩, ⟨fun _ _ _ => rfl, fun _ _ => rfl, fun _ _ => rfl⟩, ⟨fun _ _ => ⟨rfl, rfl⟩, fun _ _ => rfl⟩, s2.1, s2.2.1, sB.2.1, sB.2.2.2.1⟩
  have hP : LPs A B len 900 19 (nI 0) (fun m => f_Reader_islandLine z_Law m 1) (fun u => f_Mod_line z_Law u 169) (f_Reader_readText_L37 z_Law 1 (nI 0)) (f_Mod_island_L88 z_Law 169) Di :=
    ⟨fun i s m hi hs => L37_isl hi hs, fun u => L88_isl u, fun i a b m u κ l v ap np h hκ hD _ => ln_isl hT h hκ hD⟩
  have hA5 : ∀ q, 5 ≤ q → q < 40 → A.1 q = (clr σ 5).1 q := fun q q1 q2 => by rw [oA q (by omega) (by omega), eC]
  have hH0 : H0 (B.1 172) := by
    refine ⟨fun k hk k2 k3 => ?_, ?_, ?_, fun k hk => ?_⟩
    · rw [← eB, kI_f k3, kI_f k2, x4 k (by omega), if_pos hk]
    · rw [← eB, kI_f (by decide), kI_e]
    · rw [← eB, kI_e]
    · rw [← eB, kI_f (by omega), kI_f (by omega), x4 _ (by omega), if_neg (by omega)]
  have hD0 : Di 0 A B := by
    refine ⟨s1.1, sB.2.2.2.2.2.1, s1.2.1, sB.2.2.2.2.1, ⟨?_, Or.inl s1.2.2.1⟩, ⟨?_, Or.inl s1.2.2.2.1⟩, ?_, ⟨?_, ?_, ?_⟩, fun k hk => ?_, clr_Co hH0 hA5⟩
    · rw [s1.2.2.1, sB.2.2.2.2.2.2.2.1]
    · rw [s1.2.2.2.1, sB.2.2.2.2.2.2.2.2]
    · rw [s1.2.2.2.2, sB.2.2.2.2.2.2.1]
    · rw [hA5 5 (by decide) (by decide)]; unfold clr; simp (disch := omega) only [kI_o, kI_f, kI_e, fil_o, fil_s]
    · rw [hA5 5 (by decide) (by decide)]; unfold clr; simp (disch := omega) only [kI_o, kI_f, kI_e, fil_o, fil_s]
    · rw [hA5 5 (by decide) (by decide)]; unfold clr; simp (disch := omega) only [kI_o, kI_f, kI_e, fil_o, fil_s]
    · rw [hA5 33 (by decide) (by decide)]; unfold clr; simp (disch := omega) only [kI_o, kI_f, kI_e, fil_o, fil_s]
  obtain ⟨m', u1, u', g1, g2, g3⟩ := rd_text (Or.inl rfl) hT hP hW s2.2.2 sB.2.2.1 hD0
  have hH : f_Hat_island z_Law σ 0 = (f_Hat_takeDraft z_Law m' 0).bind (fun q => some (q.1, q.2)) := by
    unfold f_Hat_island
    simp only [fl, Nat.reduceAdd]
    rw [show f_State_clear z_Law σ 5 = some C from (st_clear SZ_5).trans (congrArg some eC), Option.bind_some, c01, rd_st, eA, g2]
    rfl
  have hM : f_Mod_island z_Law w 169 = (mm_lp (f_Mod_island_L88 z_Law 169) u1).bind (Sum.elim (fun r9 => some r9) (fun x88_ => (mm_lp (f_Mod_island_L133 z_Law 169) (nI 0, x88_)).bind (fun q133 => (mm_lp (f_Mod_island_L171 z_Law 169) (nI 0, q133)).bind (fun q171 => some (q171.1 169 19, q171))))) := by
    have t2' : (kI w 169 0 (nI 0)).1 169 2 = nI len := by rw [kI_f (by decide), (hw 169 (by decide)).1]; exact t2
    unfold f_Mod_island
    simp only [fl, Nat.reduceAdd, mm_lt, md_taken t2', Option.bind_some, zq_172]
    rw [show kI (kI (kI (kI (kI (tkM (kI w 169 0 (nI 0)) len 900) 169 15 (nI 0)) 169 19 (nI 0)) 169 20 (nI 0)) 169 21 (nI 0)) 169 22 (nI 0) = B0 from eB0, x1, Option.bind_some, st_nI (by decide) (by decide), Option.bind_some, st_nI (by decide) (by decide), Option.bind_some, eB, g1]
    rfl
  rcases g3 with ⟨g3, hF⟩ | ⟨g3, a', b', n, hn, hW', hD⟩
  · refine run_bad hR hw fA fA0 oB oB2 sB.1 hB3 hF hH ?_
    rw [hM, g3]; rfl
  · obtain ⟨d1, d2, d3, d4, d5, d6, d7, d8, d9, hC⟩ := hD
    obtain ⟨fc, fu, ec, eu, -⟩ := hW'
    obtain ⟨U1, k1, k2, k3, k4⟩ := L133_isl (u := u')
    obtain ⟨U, j1, j2, j3, j4⟩ := L171_isl (u := U1)
    obtain ⟨S', eS⟩ : ∃ S' : Nat → Int32, S' = fun i => if i < 131 then b'.1 172 i else nI 0 := ⟨_, rfl⟩
    have eS1 : ∀ i, i < 131 → S' i = b'.1 172 i := fun i hi => by rw [eS]; exact if_pos hi
    have eS2 : ∀ i, 131 ≤ i → i < 744 → S' i = nI 0 := fun i hi _ => by rw [eS]; exact if_neg (by omega)
    have hCm : Co m' (b'.1 172) (Nb b') := Co_c hC (fun q q1 q2 => ec.1 q (by omega) (by omega)) (fun q q1 q2 => ec.2.1 q (by omega))
    have m5 : m'.1 5 = a'.1 5 := ec.1 5 (by decide) (by decide)
    have m33 : m'.1 33 = a'.1 33 := ec.1 33 (by decide) (by decide)
    refine run_ok (U := U) (n := n) (S' := S') (N' := Nb b') hR hw fA fA0 oB oB2 sB.1 hB3 fc fu ((ec.2.2 3 (by decide)).trans d3) ((ec.2.2 2 (by decide)).trans d1) ((eu.2 15 (by decide)).trans d4) hH ?_ (fun q q1 q2 => by rw [j2]; exact k2 q q1) (fun q q1 => by rw [j3 q q1, k3]) (Inv_isl hCm.2.2.2.1 eS1 eS2) (SR_isl hCm (by rw [m5]; exact d8) (by rw [m33]; exact d9) eS1 eS2 (fun _ _ => rfl)) (fun i hi => ?_) (fun i hi => ?_)
    · rw [hM, g3]
      simp only [Option.bind_some, Sum.elim_inr, k1, j1]
      rw [j2, k2 169 (by decide), eu.2 19 (by decide), d2]
    · rw [j2, k4 i hi, eS, (eu.1 172 (by decide)).1]
    · rw [j4 i hi, k3, (eu.1 174 (by decide)).2]; rfl
theorem op_island (hR : RL σ) : ∃ r m1 m2, f_Hat_island z_Law σ 0 = some (r, m1) ∧ f_Mod_island z_Law m1 169 = some (r, m2) ∧ RL m2 :=
  two_run (M := fun w => f_Mod_island z_Law w 169) (fun w hw => island_run hR hw)
end OPI2
