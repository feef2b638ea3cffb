/-! a text begun and ended -/
section TXT
variable {σ m u w x c : Mm} {S S' : Nat → Int32} {N N' : Nat → Int64} {sz lim : Nat}
def stC (c : Mm) (sz lim : Nat) : Mm := kI (kI (kI (kI (kI (kI (kI (kI c 2 1 (nI sz)) 2 2 (nI lim)) 2 3 (nI 0)) 1 2 (nI 0)) 1 3 (nI 0)) 1 6 (nI 0)) 1 7 (nI 0)) 1 8 (nI 0)
theorem rd_st {v1 : Int32} : f_Reader_readText z_Law c 1 v1 (nI sz) (nI lim) = (mm_lp (f_Reader_readText_L37 z_Law 1 v1) (nI 0, stC c sz lim)).bind (Sum.elim (fun r9 => some r9) (fun x => some x)) := by
  unfold f_Reader_readText f_Tokens_start
  simp only [fl, mm_lt, Nat.reduceAdd, Option.bind_some]
  rfl
theorem stC_o {q : Nat} (h1 : q ≠ 1) (h2 : q ≠ 2) : (stC c sz lim).1 q = c.1 q := by
  unfold stC; rw [kI_o _ _ _ _ h1, kI_o _ _ _ _ h1, kI_o _ _ _ _ h1, kI_o _ _ _ _ h1, kI_o _ _ _ _ h1, kI_o _ _ _ _ h2, kI_o _ _ _ _ h2, kI_o _ _ _ _ h2]
theorem stC_2 : (stC c sz lim).1 2 1 = nI sz ∧ (stC c sz lim).1 2 2 = nI lim ∧ (stC c sz lim).1 2 3 = nI 0 := by
  unfold stC
  refine ⟨?_, ?_, ?_⟩ <;> simp (disch := omega) only [kI_o, kI_f, kI_e]
theorem stC_1 : (stC c sz lim).1 1 2 = nI 0 ∧ (stC c sz lim).1 1 3 = nI 0 ∧ (stC c sz lim).1 1 6 = nI 0 ∧ (stC c sz lim).1 1 7 = nI 0 ∧ (stC c sz lim).1 1 8 = nI 0 := by
  unfold stC
  refine ⟨?_, ?_, ?_, ?_, ?_⟩ <;> simp (disch := omega) only [kI_o, kI_f, kI_e]
theorem stC_l : (stC c sz lim).2 = c.2 := rfl
theorem td_bad {k a : Nat} (h3 : m.1 1 3 = nI k) (hk : 1 ≤ k ∧ k ≤ 4) (h4 : m.1 1 4 = nI a) : f_Hat_takeDraft z_Law m 0 = some (mN - nI a, kI (kI m 0 1 (nI 0)) 0 2 (nI k)) := by
  have e3 : (kI m 0 1 (nI 0)).1 1 3 = nI k := (congrFun (kI_o _ _ _ _ (by decide)) 3).trans h3
  have e2 : (kI (kI m 0 1 (nI 0)) 0 2 (nI k)).1 0 2 = nI k := kI_e
  have e4 : (kI (kI m 0 1 (nI 0)) 0 2 (nI k)).1 1 4 = nI a := by rw [kI_o _ _ _ _ (by decide), kI_o _ _ _ _ (by decide)]; exact h4
  unfold f_Hat_takeDraft
  simp (disch := omega) only [fl, fmN, mm_lt, Nat.reduceAdd, e3, e2, e4, eq_f, ↓reduceIte]
theorem td_ok (h3 : m.1 1 3 = nI 0) : f_Hat_takeDraft z_Law m 0 = some (m.1 1 2, cpS 60 5 (kI (kI m 0 1 (nI 0)) 0 2 (nI 0))) := by
  have e3 : (kI m 0 1 (nI 0)).1 1 3 = nI 0 := (congrFun (kI_o _ _ _ _ (by decide)) 3).trans h3
  have e2 : (kI (kI m 0 1 (nI 0)) 0 2 (nI 0)).1 0 2 = nI 0 := kI_e
  have e4 : (cpS 60 5 (kI (kI m 0 1 (nI 0)) 0 2 (nI 0))).1 1 2 = m.1 1 2 := by rw [(cp_fr 1 (by decide)).1, kI_o _ _ _ _ (by decide), kI_o _ _ _ _ (by decide)]
  unfold f_Hat_takeDraft
  simp (disch := omega) only [fl, mm_lt, Nat.reduceAdd, e3, e2, ↓reduceIte, st_copy SZ_60 SZ_5 (by decide), Option.bind_some, e4]
theorem RL_txt (hR : RL σ) (a1 : ∀ q, (q = 40 ∨ q = 42 ∨ q = 47 ∨ q = 49 ∨ q = 59 ∨ (95 ≤ q ∧ q < 165)) → x.1 q = σ.1 q ∧ x.2 q = σ.2 q) (a2 : ∀ q, (q = 175 ∨ q = 177 ∨ q = 180 ∨ q = 183 ∨ q = 187 ∨ q = 188 ∨ q = 189) → x.1 q = σ.1 q ∧ x.2 q = σ.2 q) (a3 : ∀ k, (k = 6 ∨ k = 11 ∨ k = 12) → x.1 0 k = σ.1 0 k) (a4 : ∀ k, (k = 26 ∨ k = 32 ∨ k = 35) → x.1 169 k = σ.1 169 k) (b1 : x.1 0 1 = nI 0) (b2 : x.1 169 2 = nI 0) (b3 : x.1 0 2 = x.1 169 15) (hS : RS x) : RL x := by
  refine RL_TN hR ⟨fun q hq hA => ?_, fun k hk hA => ?_, fun _ => ?_, fun _ => ?_, fun k hk hA => ?_⟩ ⟨0, by decide, b1, b2, fun i hi => absurd hi (by omega)⟩ b3 hS
  · simp [rel] at hq
    simp [ATN, AT, AN] at hA
    rcases (by omega : (q = 40 ∨ q = 42 ∨ q = 47 ∨ q = 49 ∨ q = 59 ∨ (95 ≤ q ∧ q < 165)) ∨ (q = 175 ∨ q = 177 ∨ q = 180 ∨ q = 183 ∨ q = 187 ∨ q = 188 ∨ q = 189)) with h | h
    · exact a1 q h
    · exact a2 q h
  · rcases hk with rfl | rfl | rfl | rfl | rfl
    · exact absurd hA (by decide)
    · exact absurd hA (by decide)
    · exact a3 6 (by decide)
    · exact a3 11 (by decide)
    · exact a3 12 (by decide)
  · rw [(a1 40 (by decide)).1]
  · rw [(a1 47 (by decide)).1]
  · rcases hk with rfl | rfl | rfl | rfl | rfl
    · exact absurd hA (by decide)
    · exact absurd hA (by decide)
    · exact a4 26 (by decide)
    · exact a4 32 (by decide)
    · exact a4 35 (by decide)
/-- class and reference run side by side give what one behind the other gives -/
def Run2 (σ w : Mm) (H M : Option (Int32 × Mm)) : Prop := ∃ r m1 m2, H = some (r, m1) ∧ M = some (r, m2) ∧ (∀ q, 169 ≤ q → m1.1 q = σ.1 q ∧ m1.2 q = σ.2 q) ∧ (∀ q, q < 169 → m2.1 q = w.1 q ∧ m2.2 q = w.2 q) ∧ ∀ x : Mm, (∀ q, q < 169 → x.1 q = m1.1 q ∧ x.2 q = m1.2 q) → (∀ q, 169 ≤ q → x.1 q = m2.1 q ∧ x.2 q = m2.2 q) → RL x
theorem two_run {H : Option (Int32 × Mm)} {M : Mm → Option (Int32 × Mm)} (h : ∀ w : Mm, (∀ q, 169 ≤ q → w.1 q = σ.1 q ∧ w.2 q = σ.2 q) → Run2 σ w H (M w)) : ∃ r m1 m2, H = some (r, m1) ∧ M m1 = some (r, m2) ∧ RL m2 := by
  obtain ⟨r, m1, m2, h1, -, h3, -, -⟩ := h σ (fun _ _ => ⟨rfl, rfl⟩)
  obtain ⟨r', m1', m2', g1, g2, g3, g4, g5⟩ := h m1 h3
  rw [h1] at g1
  cases g1
  exact ⟨r, m1, m2', h1, g2, g5 m2' g4 (fun _ _ => ⟨rfl, rfl⟩)⟩
/-- the end of a text with a FAULT -/
theorem run_bad (hR : RL σ) {u' m' : Mm} {H M : Option (Int32 × Mm)} {A B : Mm} (hw : ∀ q, 169 ≤ q → w.1 q = σ.1 q ∧ w.2 q = σ.2 q) (hA : FC σ A) (hA0 : ∀ k, k ≠ 1 → k ≠ 2 → A.1 0 k = σ.1 0 k) (hB : ∀ q, q ≠ 169 → q ≠ 172 → B.1 q = w.1 q) (hB2 : B.2 = w.2) (hB1 : B.1 169 2 = nI 0) (hB3 : ∀ k, (k = 26 ∨ k = 32 ∨ k = 35) → B.1 169 k = w.1 169 k) (hF : FL A B m' u') (h1 : H = (f_Hat_takeDraft z_Law m' 0).bind (fun q => some (q.1, q.2))) (h2 : M = some (mN - u'.1 169 16, u')) : Run2 σ w H M := by
  obtain ⟨k, a, k1, k4, ha, f3, f4, f15, f16, fc, fu⟩ := hF
  have oC : ∀ q, q ≠ 0 → q ≠ 1 → q ≠ 2 → (q < 5 ∨ 40 ≤ q) → (kI (kI m' 0 1 (nI 0)) 0 2 (nI k)).1 q = σ.1 q := fun q q0 q1 q2 q3 => by
    rw [kI_o _ _ _ _ q0, kI_o _ _ _ _ q0, fc.1 q q1 q2 q3]; exact hA.1 q q1 q2 q3
  have oC2 : ∀ q, q ≠ 2 → (q < 5 ∨ 40 ≤ q) → (kI (kI m' 0 1 (nI 0)) 0 2 (nI k)).2 q = σ.2 q := fun q q2 q3 => (fc.2 q q2 q3).trans (hA.2 q q2 q3)
  have oU : ∀ q, q ≠ 169 → q ≠ 172 → q ≠ 173 → u'.1 q = w.1 q := fun q q1 q2 q3 => (fu.1 q q1 q2 q3).trans (hB q q1 q2)
  have oU2 : ∀ q, q ≠ 169 → q ≠ 174 → u'.2 q = w.2 q := fun q q1 q2 => (fu.2.1 q q1 q2).trans (by rw [hB2])
  refine ⟨mN - nI a, _, u', by rw [h1, td_bad f3 ⟨k1, k4⟩ f4]; rfl, by rw [h2, f16], fun q hq => ⟨oC q (by omega) (by omega) (by omega) (by omega), oC2 q (by omega) (by omega)⟩, fun q hq => ⟨oU q (by omega) (by omega) (by omega), oU2 q (by omega) (by omega)⟩, fun x hx hy => ?_⟩
  have xC : ∀ q, q ≠ 0 → q ≠ 1 → q ≠ 2 → 40 ≤ q → q < 169 → x.1 q = σ.1 q ∧ x.2 q = σ.2 q := fun q q0 q1 q2 q3 q4 => ⟨(hx q q4).1.trans (oC q q0 q1 q2 (Or.inr q3)), (hx q q4).2.trans (oC2 q q2 (Or.inr q3))⟩
  have xU : ∀ q, 170 ≤ q → q ≠ 172 → q ≠ 173 → q ≠ 174 → x.1 q = σ.1 q ∧ x.2 q = σ.2 q := fun q q1 q2 q3 q4 => ⟨(hy q (by omega)).1.trans ((oU q (by omega) q2 q3).trans (hw q (by omega)).1), (hy q (by omega)).2.trans ((oU2 q (by omega) q4).trans (hw q (by omega)).2)⟩
  have x0 : x.1 0 = (kI (kI m' 0 1 (nI 0)) 0 2 (nI k)).1 0 := (hx 0 (by decide)).1
  have x169 : x.1 169 = u'.1 169 := (hy 169 (by decide)).1
  have x171 : x.1 171 = σ.1 171 := (xU 171 (by decide) (by decide) (by decide) (by decide)).1
  have xN : ∀ i, i < 18 → x.2 174 i = σ.2 174 i := fun i hi => by rw [(hy 174 (by decide)).2, fu.2.2.2 i hi, hB2, (hw 174 (by decide)).2]
  refine RL_txt hR (fun q h => xC q (by omega) (by omega) (by omega) (by omega) (by omega)) (fun q h => xU q (by omega) (by omega) (by omega) (by omega)) (fun k' hk' => ?_) (fun k' hk' => ?_) ?_ ?_ ?_ ?_
  · rw [x0, kI_f (by omega), kI_f (by omega), fc.1 0 (by decide) (by decide) (by decide)]; exact hA0 k' (by omega) (by omega)
  · rw [x169, fu.2.2.1 k' (by omega), hB3 k' hk', (hw 169 (by decide)).1]
  · rw [x0, kI_f (by decide), kI_e]
  · rw [x169, fu.2.2.1 2 (by decide)]; exact hB1
  · rw [x0, x169, kI_e, f15]
  · unfold RS
    rw [x171]
    have h9 := rs hR
    refine ⟨SR_cong (SR_c h9.1 (fun j hj => (xC _ (by omega) (by omega) (by omega) (by omega) (by omega)).1) (fun j hj => (xC _ (by omega) (by omega) (by omega) (by omega) (by omega)).2)) h9.2 (fun _ _ => rfl) xN, h9.2⟩
/-- .. and without -/
theorem run_ok (hR : RL σ) {u' m' U : Mm} {H M : Option (Int32 × Mm)} {A B : Mm} {n : Nat} (hw : ∀ q, 169 ≤ q → w.1 q = σ.1 q ∧ w.2 q = σ.2 q) (hA : FC σ A) (hA0 : ∀ k, k ≠ 1 → k ≠ 2 → A.1 0 k = σ.1 0 k) (hB : ∀ q, q ≠ 169 → q ≠ 172 → B.1 q = w.1 q) (hB2 : B.2 = w.2) (hB1 : B.1 169 2 = nI 0) (hB3 : ∀ k, (k = 26 ∨ k = 32 ∨ k = 35) → B.1 169 k = w.1 169 k) (fc : FC A m') (fu : FU B u') (f3 : m'.1 1 3 = nI 0) (f2 : m'.1 1 2 = nI n) (f15 : u'.1 169 15 = nI 0) (h1 : H = (f_Hat_takeDraft z_Law m' 0).bind (fun q => some (q.1, q.2))) (h2 : M = some (nI n, U)) (gU : ∀ q, q ≠ 171 → q ≠ 173 → U.1 q = u'.1 q) (gU2 : ∀ q, q ≠ 174 → U.2 q = u'.2 q) (hv : Inv S') (hs : SR m' 5 S' N') (gS : ∀ i, i < 744 → U.1 171 i = S' i) (gN : ∀ i, i < 18 → U.2 174 i = N' i) : Run2 σ w H M := by
  have oC : ∀ q, q ≠ 0 → q ≠ 1 → q ≠ 2 → (q < 5 ∨ 40 ≤ q) → (q < 60 ∨ 95 ≤ q) → (cpS 60 5 (kI (kI m' 0 1 (nI 0)) 0 2 (nI 0))).1 q = σ.1 q := fun q q0 q1 q2 q3 q4 => by
    rw [(cp_fr q (by omega)).1, kI_o _ _ _ _ q0, kI_o _ _ _ _ q0, fc.1 q q1 q2 q3]; exact hA.1 q q1 q2 q3
  have oC2 : ∀ q, q ≠ 2 → (q < 5 ∨ 40 ≤ q) → (q < 60 ∨ 95 ≤ q) → (cpS 60 5 (kI (kI m' 0 1 (nI 0)) 0 2 (nI 0))).2 q = σ.2 q := fun q q2 q3 q4 => by
    rw [(cp_fr q (by omega)).2]; exact (fc.2 q q2 q3).trans (hA.2 q q2 q3)
  have oU : ∀ q, q ≠ 169 → q ≠ 171 → q ≠ 172 → q ≠ 173 → U.1 q = w.1 q := fun q q1 q0 q2 q3 => (gU q q0 q3).trans ((fu.1 q q1 q2 q3).trans (hB q q1 q2))
  have oU2 : ∀ q, q ≠ 169 → q ≠ 174 → U.2 q = w.2 q := fun q q1 q2 => (gU2 q q2).trans ((fu.2.1 q q1 q2).trans (by rw [hB2]))
  refine ⟨nI n, _, U, by rw [h1, td_ok f3, f2]; rfl, h2, fun q hq => ⟨oC q (by omega) (by omega) (by omega) (by omega) (by omega), oC2 q (by omega) (by omega) (by omega)⟩, fun q hq => ⟨oU q (by omega) (by omega) (by omega) (by omega), oU2 q (by omega) (by omega)⟩, fun x hx hy => ?_⟩
  have xC : ∀ q, q ≠ 0 → q ≠ 1 → q ≠ 2 → 40 ≤ q → (q < 60 ∨ 95 ≤ q) → q < 169 → x.1 q = σ.1 q ∧ x.2 q = σ.2 q := fun q q0 q1 q2 q3 q5 q4 => ⟨(hx q q4).1.trans (oC q q0 q1 q2 (Or.inr q3) q5), (hx q q4).2.trans (oC2 q q2 (Or.inr q3) q5)⟩
  have xU : ∀ q, 170 ≤ q → q ≠ 171 → q ≠ 172 → q ≠ 173 → q ≠ 174 → x.1 q = σ.1 q ∧ x.2 q = σ.2 q := fun q q1 q0 q2 q3 q4 => ⟨(hy q (by omega)).1.trans ((oU q (by omega) q0 q2 q3).trans (hw q (by omega)).1), (hy q (by omega)).2.trans ((oU2 q (by omega) q4).trans (hw q (by omega)).2)⟩
  have x0 : x.1 0 = (kI (kI m' 0 1 (nI 0)) 0 2 (nI 0)).1 0 := (hx 0 (by decide)).1.trans (cp_fr 0 (by decide)).1
  have x169 : x.1 169 = u'.1 169 := (hy 169 (by decide)).1.trans (gU 169 (by decide) (by decide))
  have hs5 : SR (kI (kI m' 0 1 (nI 0)) 0 2 (nI 0)) 5 S' N' := SR_c hs (fun j hj => by rw [kI_o _ _ _ _ (by omega), kI_o _ _ _ _ (by omega)]) (fun j hj => rfl)
  have hs60 := SR_cp hv (o := 60) (by decide) hs5
  have hsx : SR x 60 S' N' := SR_c hs60 (fun j hj => (hx _ (by omega)).1) (fun j hj => (hx _ (by omega)).2)
  refine RL_txt hR (fun q h => xC q (by omega) (by omega) (by omega) (by omega) (by omega) (by omega)) (fun q h => xU q (by omega) (by omega) (by omega) (by omega) (by omega)) (fun k' hk' => ?_) (fun k' hk' => ?_) ?_ ?_ ?_ ?_
  · rw [x0, kI_f (by omega), kI_f (by omega), fc.1 0 (by decide) (by decide) (by decide)]; exact hA0 k' (by omega) (by omega)
  · rw [x169, fu.2.2.1 k' (by omega), hB3 k' hk', (hw 169 (by decide)).1]
  · rw [x0, kI_f (by decide), kI_e]
  · rw [x169, fu.2.2.1 2 (by decide)]; exact hB1
  · rw [x0, x169, kI_e, f15]
  · have e171 : ∀ i, i < 744 → x.1 171 i = S' i := fun i hi => by rw [(hy 171 (by decide)).1]; exact gS i hi
    exact ⟨SR_cong hsx hv e171 (fun i hi => by rw [(hy 174 (by decide)).2]; exact gN i hi), Inv_cong hv e171⟩
/-! the rows with another ROLL or BOOK -/
theorem Inv_rb (h : Inv S) (e : ∀ i, i < 532 → S' i = S i) (h1 : S' 532 = nI (sr S') ∧ sr S' ≤ 30) (h2 : ∀ i, i < sr S' → (∃ k, k < sm S ∧ S' (533 + 3 * i) = nI k) ∧ (S' (534 + 3 * i) = nI 0 ∨ S' (534 + 3 * i) = nI 1) ∧ ∃ x, x < sn S ∧ S' (535 + 3 * i) = nI x) (h3 : S' 623 = nI (sb S') ∧ sb S' ≤ 30) (h4 : ∀ i, i < sb S' → bookOK (sn S) (sm S) (S' (624 + 4 * i)) (S' (625 + 4 * i)) (S' (626 + 4 * i))) : Inv S' := by
  have e0 := sn_c (e 0 (by decide))
  have e1 := sm_c (e 1 (by decide))
  have e2 := pw_c (e 2 (by decide))
  have e3 := sc_c (e 3 (by decide))
  have e4 := sp_c (e 131 (by decide))
  have m8 := iv_m8 h
  have h24 := iv_sp24 h
  unfold Inv
  rw [e0, e1, e2, e3, e4, e 0 (by decide), e 1 (by decide), e 2 (by decide), e 3 (by decide), e 131 (by decide)]
  refine ⟨h.1, h.2.1, h.2.2.1, h.2.2.2.1, h.2.2.2.2.1, h1, h3, fun k hk => ?_, fun k h1 h2 => ?_, fun j k h1 h2 => ?_, fun t ht => ⟨fun k hk => ?_, fun j k h1 h2 => ?_⟩, fun t k h1 h2 h3 => ?_, fun x y hx hy => ?_, h2, h4, iv_pos h⟩
  · rw [e _ (by omega)]; exact iv_held h k hk
  · rw [e _ (by omega)]; exact iv_none h k h1 h2
  · rw [e _ (by omega), e _ (by omega)]; exact iv_one h j k h1 h2
  · rw [e _ (by omega)]; exact (iv_kept h t ht).1 k hk
  · rw [e _ (by omega), e _ (by omega)]; exact (iv_kept h t ht).2 j k h1 h2
  · rw [e _ (by omega)]; exact iv_drew h t k h1 h2 h3
  · rw [e _ (by omega), e _ (by omega)]; exact iv_feud h x y hx hy
theorem SR_rb {b : Nat} (h : SR c b S N) (hv : Inv S) (e : ∀ i, i < 532 → S' i = S i) (f1 : ∀ j, j < 28 → j ≠ 0 → m.1 (b + j) = c.1 (b + j)) (f0 : m.1 b 2 = c.1 b 2) (f2 : ∀ j, j < 35 → m.2 (b + j) = c.2 (b + j)) (g1 : m.1 b 5 = S' 532) (g2 : ∀ k, k < sm S → m.1 (b + 28) k = rf S' k (sr S')) (g3 : m.1 b 7 = S' 623) (g4 : ∀ i, i < sb S' → m.1 (b + 30) i = bkw (S' (624 + 4 * i)) ∧ (S' (624 + 4 * i) ≠ nI 5 → m.1 (b + 32) i = S' (625 + 4 * i)) ∧ (S' (624 + 4 * i) ≠ nI 5 → S' (624 + 4 * i) ≠ nI 2 → m.1 (b + 34) i = S' (626 + 4 * i))) : SR m b S' N := by
  have e0 := sn_c (e 0 (by decide))
  have e1 := sm_c (e 1 (by decide))
  have e4 := sp_c (e 131 (by decide))
  have m8 := iv_m8 hv
  have h24 := iv_sp24 hv
  unfold SR
  rw [e1, e4, e 131 (by decide)]
  refine ⟨IR_cong (IR_c h.1 (fun j hj => by rw [Nat.add_assoc]; exact f1 _ (by omega) (by omega))) (fun i hi => e i (by omega)), NR_cong (NR_c h.2.1 (fun j hj => by rw [Nat.add_assoc]; exact f2 _ (by omega))) (iv_n10 hv) m8 (e 0 (by decide)) (e 1 (by decide)) (fun _ _ => rfl), HR_cong (HR_c h.2.2.1 (f1 16 (by decide) (by decide)) (f1 18 (by decide) (by decide))) (fun i hi => e i (by omega)), f0.trans h.2.2.2.1, fun t k ht hk => ?_, fun t k h1 h2 hk => ?_, g1, g2, g3, g4⟩
  · rw [f1 24 (by decide) (by decide), e _ (by omega)]; exact h.2.2.2.2.1 t k ht hk
  · rw [f1 26 (by decide) (by decide), e _ (by omega)]; exact h.2.2.2.2.2.1 t k h1 h2 hk
end TXT
