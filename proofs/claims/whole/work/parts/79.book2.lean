section BOOK2
variable {M0 U0 a b m u : Mm} {t : Nat → Nat} {sz lim κ v ap np : Nat} {l : List Nat} {S : Nat → Int32} {A0 : Mm} {N : Nat → Int64} {i : Nat}
theorem bl_c {j : Nat} (cw : m.1 2 8 = nI j) (hj : j = 8 ∨ 12 ≤ j ∧ j ≤ 16) : f_Reader_bookLine z_Law m 1 = f_Reader_bookLine_J32 z_Law 1 (nI j) m := by
  unfold f_Reader_bookLine
  rcases hj with rfl | hj
  · simp (disch := omega) only [fl, mm_lt, Nat.reduceAdd, cw, ↓reduceIte]
  · simp (disch := omega) only [fl, mm_lt, Nat.reduceAdd, cw, eq_f, lt_f, le_t, ↓reduceIte]
theorem bl_c0 {j : Nat} (cw : m.1 2 8 = nI j) (hj : j < 12 ∧ j ≠ 8) : f_Reader_bookLine z_Law m 1 = f_Reader_bookLine_J26 z_Law 1 m := by
  unfold f_Reader_bookLine
  simp (disch := omega) only [fl, mm_lt, Nat.reduceAdd, cw, eq_f, lt_t, ↓reduceIte]
theorem bl_cN (cw : m.1 2 8 = mN) : f_Reader_bookLine z_Law m 1 = f_Reader_bookLine_J26 z_Law 1 m := by
  unfold f_Reader_bookLine
  simp (disch := omega) only [fl, mm_lt, Nat.reduceAdd, cw, mN_ne', mN_lt, ↓reduceIte]
/-- which of the words it is -/
def wi6 (κ : Nat) (l : List Nat) : Int32 := if κ = 1 ∧ rwd l = nI 12 then nI 0 else if κ = 1 ∧ rwd l = nI 13 then nI 1 else if κ = 1 ∧ rwd l = nI 14 then nI 2 else if κ = 1 ∧ rwd l = nI 15 then nI 3 else if κ = 1 ∧ rwd l = nI 8 then nI 4 else if κ = 1 ∧ rwd l = nI 16 then nI 5 else mN
theorem if10 {α : Type} {P : Prop} [Decidable P] {x y : α} : (if (if P then nI 1 else nI 0) = nI 0 then x else y) = if P then y else x := fl_ite
theorem bl_u (h : At M0 U0 sz lim a b m u κ l v ap np) : f_Mod_bookLine z_Law u 169 = f_Mod_bookLine_J85 z_Law 169 (wi6 κ l) u := by
  have w12 := u_isW h (j := 12) (c := 1937203568) (by decide) (by decide +kernel)
  have w13 := u_isW h (j := 13) (c := 1734964837) (by decide) (by decide +kernel)
  have w14 := u_isW h (j := 14) (c := 1685221232) (by decide) (by decide +kernel)
  have w15 := u_isW h (j := 15) (c := 1952541541) (by decide) (by decide +kernel)
  have w8 := u_isW h (j := 8) (c := 1936290931) (by decide) (by decide +kernel)
  have w16 := u_isW h (j := 16) (c := 500135191653) (by decide) (by decide +kernel)
  unfold f_Mod_bookLine wi6
  simp only [fl, fl64, fmN, w12, w13, w14, w15, w8, w16, Option.bind_some, if10]
  repeat' split
  all_goals rfl
theorem wi_no {κ : Nat} {l : List Nat} (h : κ ≠ 1 ∨ rwd l = mN ∨ ∃ j, j < 12 ∧ j ≠ 8 ∧ rwd l = nI j) : wi6 κ l = mN := by
  unfold wi6
  rcases h with h | h | ⟨j, h1, h2, h⟩
  · simp only [h, false_and, ↓reduceIte]
  · simp (disch := omega) only [h, mN_ne', and_false, ↓reduceIte]
  · simp (disch := omega) only [h, eq_f, and_false, ↓reduceIte]
theorem wi_yes {κ : Nat} {l : List Nat} (hk : κ = 1) : (rwd l = nI 12 → wi6 κ l = nI 0) ∧ (rwd l = nI 13 → wi6 κ l = nI 1) ∧ (rwd l = nI 14 → wi6 κ l = nI 2) ∧ (rwd l = nI 15 → wi6 κ l = nI 3) ∧ (rwd l = nI 8 → wi6 κ l = nI 4) ∧ (rwd l = nI 16 → wi6 κ l = nI 5) := by
  unfold wi6
  refine ⟨fun h => ?_, fun h => ?_, fun h => ?_, fun h => ?_, fun h => ?_, fun h => ?_⟩ <;> simp (disch := omega) only [h, hk, eq_f, and_false, and_self, ↓reduceIte]
theorem ln_book (hT : Tp M0 U0 t sz lim) (hS : U0.1 171 = S) (hv : Inv S) (hN : ∀ k, k < 18 → U0.2 174 k = N k) (hA : NM S N A0) (hP : A0.1 6 6 = nI (pw S)) (h : At M0 U0 sz lim a b m u κ l v ap np) (hκ0 : κ ≠ 0) (hD : Db A0 S i a b) : Sm M0 U0 (Ln M0 U0 sz lim np κ (fun a b => a.1 1 2 = nI i ∧ b.1 169 29 = nI i ∧ Db A0 S (i + 1) (kI a 1 2 (nI (i + 1))) (kI b 169 29 (nI (i + 1))))) (f_Reader_bookLine z_Law m 1) (f_Mod_bookLine z_Law u 169) := by
  have hfail : f_Reader_bookLine z_Law m 1 = f_Reader_bookLine_J26 z_Law 1 m → wi6 κ l = mN → Sm M0 U0 (Ln M0 U0 sz lim np κ (fun a b => a.1 1 2 = nI i ∧ b.1 169 29 = nI i ∧ Db A0 S (i + 1) (kI a 1 2 (nI (i + 1))) (kI b 169 29 (nI (i + 1))))) (f_Reader_bookLine z_Law m 1) (f_Mod_bookLine z_Law u 169) := by
    intro x1 x2
    rw [x1, bl_u h, x2]
    unfold f_Reader_bookLine_J26 f_Mod_bookLine_J85
    simp (disch := omega) only [fl, mN_nle, ↓reduceIte, c_fail h, u_bad h, Option.bind_some, zb_0]
    exact sm_bad h (k := 1) (by decide) rfl rfl
  have cw := c_word h
  by_cases hκ : κ = 1
  · rw [if_pos hκ] at cw
    have hy := wi_yes (l := l) hκ
    rcases rwd_hq l with e | ⟨j, hj, e⟩
    · exact hfail (bl_cN (cw.trans e)) (wi_no (Or.inr (Or.inl e)))
    · by_cases g : j < 12 ∧ j ≠ 8
      · exact hfail (bl_c0 (cw.trans e) g) (wi_no (Or.inr (Or.inr ⟨j, g.1, g.2, e⟩)))
      · rw [bl_c (cw.trans e) (by omega), bl_u h]
        rcases (by omega : j = 12 ∨ j = 13 ∨ j = 14 ∨ j = 15 ∨ j = 8 ∨ j = 16) with rfl | rfl | rfl | rfl | rfl | rfl
        · rw [hy.1 e]; exact bk_0 hT hS hv hN hA hP h hκ hD
        · rw [hy.2.1 e]; exact bk_1 hT hS hv hN hA hP h hκ hD
        · rw [hy.2.2.1 e]; exact bk_2 hT hS hv hN hA hP h hκ hD
        · rw [hy.2.2.2.1 e]; exact bk_3 hT hS hv hN hA hP h hκ hD
        · rw [hy.2.2.2.2.1 e]; exact bk_4 hT hS hv hN hA hP h hκ hD
        · rw [hy.2.2.2.2.2 e]; exact bk_5 hT hS hv hN hA hP h hκ hD
  · rw [if_neg hκ] at cw
    exact hfail (bl_cN cw) (wi_no (Or.inl hκ))
end BOOK2
