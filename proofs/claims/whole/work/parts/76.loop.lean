/-! LINE by LINE -/
section RDL
variable {M0 U0 a b m u : Mm} {t : Nat → Nat} {sz lim κ v ap np : Nat} {l : List Nat}
/-- behind a LINE that both took -/
def Ln (M0 U0 : Mm) (sz lim np κ0 : Nat) (E : Mm → Mm → Prop) (m u : Mm) : Prop := κ0 = 1 ∧ ∃ a b κ l v ap np', At M0 U0 sz lim a b m u κ l v ap np' ∧ E a b ∧ (κ = 3 → np < np')
/-- how the two loops go -/
def LPs (M0 U0 : Mm) (sz lim ls : Nat) (v1 : Int32) (cl ul : Mm → Option (Int32 × Mm)) (bC : Int32 × Mm → Option ((Int32 × Mm) ⊕ (Mm ⊕ Mm))) (bU : Mm → Option (Mm ⊕ ((Int32 × Mm) ⊕ Mm))) (D : Nat → Mm → Mm → Prop) : Prop :=
  (∀ i s m, i ≤ 940 → f_Tokens_step z_Law s 2 = some m → bC (nI i, s) = if m.1 2 4 = nI 0 then some (.inr (.inl m)) else (cl m).bind (fun q => f_Reader_readText_J90 z_Law 1 v1 (nI i) q.1 q.2))
  ∧ (∀ u, bU u = if u.1 169 11 = nI 0 then some (.inr (.inr u)) else (ul u).bind (fun q => if q.1 = nI 0 then some (.inr (.inl (mN - q.2.1 169 16, q.2))) else (f_Mod_sign z_Law q.2 169 (nI 59)).bind (fun q' => if q'.1 = nI 0 then some (.inr (.inl (mN - q'.2.1 169 16, q'.2))) else some (.inl (kI q'.2 169 ls (q'.2.1 169 ls + nI 1))))))
  ∧ (∀ i a b m u κ l v ap np, At M0 U0 sz lim a b m u κ l v ap np → κ ≠ 0 → D i a b → i ≤ 940 → Sm M0 U0 (Ln M0 U0 sz lim np κ (fun a b => a.1 1 2 = nI i ∧ b.1 169 ls = nI i ∧ D (i + 1) (kI a 1 2 (nI (i + 1))) (kI b 169 ls (nI (i + 1))))) (cl m) (ul u))
theorem u_sign (h : At M0 U0 sz lim a b m u κ l v ap np) : f_Mod_sign z_Law u 169 (nI 59) = if κ = 3 then (f_Mod_next z_Law u 169).bind (fun q => some (nI 1, q)) else some (nI 0, ubad u 1 ap) := by
  have h4 := h.2.2.2.1
  unfold f_Mod_sign f_Mod_isSign
  simp only [fl, h.2.2.1.1, u_bad h]
  by_cases g : κ = 3
  · have e14 := h.2.2.1.2.2.2.2.1 g
    subst g
    simp (disch := omega) only [↓reduceIte, e14, Option.bind_some, eq_f]
  · simp (disch := omega) only [eq_f, g, ↓reduceIte, Option.bind_some, zb_0]
theorem c_semi (h : At M0 U0 sz lim a b m u κ l v ap np) : f_Reader_isSemicolon z_Law m 1 = some (if κ = 3 then (nI 1, m) else (nI 0, cbad m 1 ap)) := by
  have h4 := h.2.2.2.1
  unfold f_Reader_isSemicolon
  simp only [fl, Nat.reduceAdd, h.2.1.1, c_fail h]
  by_cases g : κ = 3
  · subst g; simp only [↓reduceIte]
  · simp (disch := omega) only [eq_f, g, ↓reduceIte, Option.bind_some]
theorem rd_loop {ls : Nat} {v1 : Int32} {cl ul : Mm → Option (Int32 × Mm)} {bC : Int32 × Mm → Option ((Int32 × Mm) ⊕ (Mm ⊕ Mm))} {bU : Mm → Option (Mm ⊕ ((Int32 × Mm) ⊕ Mm))} {D : Nat → Mm → Mm → Prop} (hls : ls = 19 ∨ ls = 29) (hT : Tp M0 U0 t sz lim) (hP : LPs M0 U0 sz lim ls v1 cl ul bC bU D) : ∀ r i s a b m u κ l v ap np, i + r = 940 → f_Tokens_step z_Law s 2 = some m → At M0 U0 sz lim a b m u κ l v ap np → D i a b → (κ = 1 ∨ κ = 2 ∨ κ = 3 → i < np) →
    ∃ m' u', mm_lp bC (nI i, s) = some (.inl m') ∧ ((mm_lp bU u = some (.inl (mN - u'.1 169 16, u')) ∧ FL M0 U0 m' u') ∨ (mm_lp bU u = some (.inr u') ∧ ∃ a' b' n, n ≤ 940 ∧ Wd M0 U0 sz lim a' b' m' u' ∧ D n a' b')) := by
  obtain ⟨p1, p2, p3⟩ := hP
  intro r
  induction r with
  | zero =>
    intro i s a b m u κ l v ap np hi hs h hD hnp
    have e1 := p1 i s m (by omega) hs
    have e2 := p2 u
    rw [h.2.1.1] at e1
    rw [h.2.2.1.1] at e2
    by_cases g : κ = 0
    · subst g
      rw [if_pos rfl] at e1 e2
      exact ⟨m, u, mm_lp_done e1, Or.inr ⟨mm_lp_done e2, a, b, i, by omega, h.1, hD⟩⟩
    · have hne : ¬ nI κ = nI 0 := fun q => g (nI_inj (by have := h.2.2.2.1; omega) (by decide) q)
      rw [if_neg hne] at e1 e2
      obtain ⟨rr, m1, u1, x1, x2, x3⟩ := p3 i a b m u κ l v ap np h g hD (by omega)
      rw [x1, Option.bind_some] at e1
      rw [x2, Option.bind_some] at e2
      rcases x3 with ⟨-, ⟨k1, -⟩⟩ | ⟨rfl, x3⟩
      · exfalso
        have := hnp (Or.inl k1)
        have := h.2.2.2.2.2.2.2 (Or.inl k1)
        have := hT.2.2.2.1
        omega
      · unfold f_Reader_readText_J90 at e1
        rw [if_pos (show nI 0 = 0 from rfl)] at e1
        rw [if_pos rfl] at e2
        exact ⟨m1, u1, mm_lp_done e1, Or.inl ⟨mm_lp_done e2, x3⟩⟩
  | succ r ih =>
    intro i s a b m u κ l v ap np hi hs h hD hnp
    have e1 := p1 i s m (by omega) hs
    have e2 := p2 u
    rw [h.2.1.1] at e1
    rw [h.2.2.1.1] at e2
    by_cases g : κ = 0
    · subst g
      rw [if_pos rfl] at e1 e2
      exact ⟨m, u, mm_lp_done e1, Or.inr ⟨mm_lp_done e2, a, b, i, by omega, h.1, hD⟩⟩
    · have hne : ¬ nI κ = nI 0 := fun q => g (nI_inj (by have := h.2.2.2.1; omega) (by decide) q)
      rw [if_neg hne] at e1 e2
      obtain ⟨rr, m1, u1, x1, x2, x3⟩ := p3 i a b m u κ l v ap np h g hD (by omega)
      rw [x1, Option.bind_some] at e1
      rw [x2, Option.bind_some] at e2
      rcases x3 with ⟨rfl, k1, a', b', κ', l', v', ap', np', h', ⟨y1, y2, y3⟩, hpr⟩ | ⟨rfl, x3⟩
      · unfold f_Reader_readText_J90 at e1
        rw [if_neg (show ¬ nI 1 = 0 by decide), c_semi h', Option.bind_some] at e1
        rw [if_neg (show ¬ nI 1 = nI 0 by decide), u_sign h'] at e2
        by_cases g3 : κ' = 3
        · have hm2 : (m1.1 1 2) = nI i := (h'.1.2.2.1.2.2 2 (by decide)).trans y1
          have hW : At M0 U0 sz lim (kI a' 1 2 (nI (i + 1))) b' (kI m1 1 2 (nI (i + 1))) u1 κ' l' v' ap' np' := ac_f h'
          obtain ⟨m3, u3, κ3, l3, v3, ap3, np3, z1, z2, z3, z4⟩ := at_step hT hW (Or.inr (Or.inr g3))
          have z5 : At M0 U0 sz lim (kI a' 1 2 (nI (i + 1))) (kI b' 169 ls (nI (i + 1))) m3 (kI u3 169 ls (nI (i + 1))) κ3 l3 v3 ap3 np3 := au_f z3 (by omega)
          have hu3 : u3.1 169 ls = nI i := (z3.1.2.2.2.1.2 ls (by omega)).trans y2
          rw [if_pos g3] at e1 e2
          rw [z2] at e2
          have e1' : bC (nI i, s) = some (.inl (nI (i + 1), kI m1 1 2 (nI (i + 1)))) := by
            rw [e1]
            dsimp only
            rw [if_neg (show ¬ nI 1 = 0 by decide)]
            simp only [mm_lt, fl, hm2, nI_add]
          have e2' : bU u = some (.inl (kI u3 169 ls (nI (i + 1)))) := by
            rw [e2]
            simp only [Option.bind_some]
            rw [if_neg (show ¬ nI 1 = nI 0 by decide), hu3, nI_add]
          have hk := hnp (Or.inl k1)
          have hp := hpr g3
          obtain ⟨m9, u9, w1, w2⟩ := ih (i + 1) (kI m1 1 2 (nI (i + 1))) _ _ m3 _ κ3 l3 v3 ap3 np3 (by omega) z1 z5 y3 (fun q => by have := z4.1 q; omega)
          refine ⟨m9, u9, by rw [mm_lp_step e1']; exact w1, ?_⟩
          rw [mm_lp_step e2']
          exact w2
        · rw [if_neg g3] at e1 e2
          have e1' : bC (nI i, s) = some (.inr (.inl (cbad m1 1 ap'))) := by
            rw [e1]
            dsimp only
            rw [if_pos (show nI 0 = 0 from rfl)]
          have e2' : bU u = some (.inr (.inl (mN - (ubad u1 1 ap').1 169 16, ubad u1 1 ap'))) := by
            rw [e2]
            simp only [Option.bind_some, ↓reduceIte]
          exact ⟨_, _, mm_lp_done e1', Or.inl ⟨mm_lp_done e2', fl_bad h' (by decide)⟩⟩
      · unfold f_Reader_readText_J90 at e1
        rw [if_pos (show nI 0 = 0 from rfl)] at e1
        rw [if_pos rfl] at e2
        exact ⟨m1, u1, mm_lp_done e1, Or.inl ⟨mm_lp_done e2, x3⟩⟩
/-- a whole text -/
theorem rd_text {ls : Nat} {v1 : Int32} {cl ul : Mm → Option (Int32 × Mm)} {bC : Int32 × Mm → Option ((Int32 × Mm) ⊕ (Mm ⊕ Mm))} {bU : Mm → Option (Mm ⊕ ((Int32 × Mm) ⊕ Mm))} {D : Nat → Mm → Mm → Prop} (hls : ls = 19 ∨ ls = 29) (hT : Tp M0 U0 t sz lim) (hP : LPs M0 U0 sz lim ls v1 cl ul bC bU D) (hW : Wd M0 U0 sz lim a b m u) (h3 : m.1 2 3 = nI 0) (h4 : u.1 169 4 = nI 0) (hD : D 0 a b) :
    ∃ m' u1 u', f_Mod_next z_Law u 169 = some u1 ∧ mm_lp bC (nI 0, m) = some (.inl m') ∧ ((mm_lp bU u1 = some (.inl (mN - u'.1 169 16, u')) ∧ FL M0 U0 m' u') ∨ (mm_lp bU u1 = some (.inr u') ∧ ∃ a' b' n, n ≤ 940 ∧ Wd M0 U0 sz lim a' b' m' u' ∧ D n a' b')) := by
  obtain ⟨m1, u1, κ, l, v, ap, np, z1, z2, z3, z4⟩ := wd_step hT hW h3 h4 (Nat.zero_le sz)
  obtain ⟨m', u', w1, w2⟩ := rd_loop hls hT hP 940 0 m a b m1 u1 κ l v ap np rfl z1 z3 hD z4.1
  exact ⟨m', u1, u', z2, w1, w2⟩
end RDL
