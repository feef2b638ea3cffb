section ISL7
variable {M0 U0 a b m u : Mm} {t : Nat → Nat} {sz lim κ v ap np : Nat} {l : List Nat} {i : Nat}
variable {H : Nat → Int32} {N : Nat → Int64} {n c : Nat}
theorem kL_1 {x : Mm} {o k : Nat} {y : Int64} : (kL x o k y).1 = x.1 := rfl
theorem c_new (h : At M0 U0 sz lim a b m u κ l v ap np) (n10 : n ≤ 10) (c8 : c ≤ 8) (h7 : m.1 7 1 = nI n) (h9 : m.1 9 1 = nI c) (hN : ∀ k, k < n → WR (N k) (m.2 8 k)) (hN2 : ∀ k, k < c → WR (N (10 + k)) (m.2 10 k)) : f_Reader_isNewName z_Law m 1 = some (if κ = 1 ∧ rwd l = mN then (if fd (pnm N l) n = mN ∧ fd (pnm (fun k => N (10 + k)) l) c = mN then (nI 1, m) else (nI 0, cbad m 3 ap)) else (nI 0, cbad m 1 ap)) := by
  unfold f_Reader_isNewName
  rw [c_isN h, Option.bind_some]
  by_cases g : κ = 1 ∧ rwd l = mN
  · rw [if_pos g, if_pos g]
    have J1 : f_Reader_isNewName_J62 z_Law 1 (nI 1) m = some (nI 0, cbad m 3 ap) := by
      unfold f_Reader_isNewName_J62
      simp (disch := omega) only [fl, eq_f, ↓reduceIte, c_fail h, Option.bind_some]
    have J0 : f_Reader_isNewName_J62 z_Law 1 (nI 0) m = some (nI 1, m) := by
      unfold f_Reader_isNewName_J62
      simp only [fl, ↓reduceIte]
    have f1 := c_find h g.1 (o := 7) (r := 10) rfl (by decide) n10 h7 hN
    have f2 := c_find h g.1 (o := 9) (r := 8) (N := fun k => N (10 + k)) rfl (by decide) c8 h9 hN2
    simp (disch := omega) only [fl, fmN, Nat.reduceAdd, eq_f, ↓reduceIte, f1, f2, Option.bind_some, J1, J0]
    by_cases g1 : fd (pnm N l) n = mN
    · rw [if_pos g1]
      by_cases g2 : fd (pnm (fun k => N (10 + k)) l) c = mN
      · rw [if_pos g2, if_pos ⟨g1, g2⟩]
      · rw [if_neg g2, if_neg (fun q => g2 q.2)]
    · rw [if_neg g1, if_neg (fun q => g1 q.1)]
  · rw [if_neg g, if_neg g]
    simp only [fl, ↓reduceIte]
theorem u_fr (hT : Tp M0 U0 t sz lim) (h : At M0 U0 sz lim a b m u κ l v ap np) (n10 : n ≤ 10) (c8 : c ≤ 8) {to : Nat} (hto : to < 36) (hH : u.1 172 = H) (h0 : H 0 = nI n) (h1 : H 1 = nI c) (hN : ∀ k, k < n → u.2 174 (18 + k) = N k) (hN2 : ∀ k, k < c → u.2 174 (28 + k) = N (10 + k)) : f_Mod_fresh z_Law u 169 (nI to) = if κ = 1 ∧ rwd l = mN then (if fd (pnm N l) n = mN ∧ fd (pnm (fun k => N (10 + k)) l) c = mN then (f_Mod_next z_Law (kL u 174 to (lN (e256 l))) 169).bind (fun q => some (nI 1, q)) else some (nI 0, ubad u 3 ap)) else some (nI 0, ubad u 1 ap) := by
  have z174 : z_Law 174 = 36 := rfl
  unfold f_Mod_fresh
  rw [u_isN hT h, Option.bind_some]
  by_cases g : κ = 1 ∧ rwd l = mN
  · rw [if_pos g, if_pos g]
    have J : f_Mod_fresh_J43 z_Law 169 u = some (nI 0, ubad u 3 ap) := by
      unfold f_Mod_fresh_J43
      simp only [fl, u_bad h, Option.bind_some, zb_0]
    have f1 := u_find h g.1 (f := 18) (n := n) (by omega)
    rw [pnm_c (N' := N) (fun k hk => hN k hk)] at f1
    have f2 := u_find h g.1 (f := 28) (n := c) (by omega)
    rw [pnm_c (N' := fun k => N (10 + k)) (fun k hk => hN2 k hk)] at f2
    simp (disch := omega) only [fl, Nat.reduceAdd, eq_f, ↓reduceIte, zq_172, hH, ld_nI, h0, h1, f1, f2, Option.bind_some, J, z174, stL_nI, h.2.2.1.2.2.1 g.1]
    rcases fd_cases (pnm N l) n with ⟨k, hk, -, -, ef⟩ | ⟨-, ef⟩
    · have hkn : ¬ nI k = mN := hq_ne (n := k) (by omega)
      rw [ef, if_pos (nI_le (Nat.zero_le k) (by omega)), if_neg (fun q => hkn q.1)]
    · rw [ef, if_neg (show ¬ nI 0 ≤ mN by decide)]
      rcases fd_cases (pnm (fun k => N (10 + k)) l) c with ⟨k, hk, -, -, ef2⟩ | ⟨-, ef2⟩
      · have hkn : ¬ nI k = mN := hq_ne (n := k) (by omega)
        rw [ef2, if_neg (nI_nlt (Nat.zero_le k) (by omega)), if_neg (fun q => hkn q.2)]
      · rw [ef2, if_pos (show mN < nI 0 by decide), if_pos ⟨rfl, rfl⟩]
  · rw [if_neg g, if_neg g]
    simp only [fl, ↓reduceIte, u_bad h, Option.bind_some, zb_0]
theorem c_add {o r : Nat} {x : Int64} (h1 : m.1 o 1 = nI n) (hz : z_Law (o + 1) = r) (hr : r ≤ 10) (hn : n < r) : f_Names_add z_Law m o x = some (nI n, kI (kL m (o + 1) n x) o 1 (nI (n + 1))) := by
  have e1 : (kL m (o + 1) n x).1 o 1 = nI n := h1
  have e2 : (kI (kL m (o + 1) n x) o 1 (nI (n + 1))).1 o 1 = nI (n + 1) := kI_e
  unfold f_Names_add
  simp (disch := omega) only [fl, mm_lt, h1, lt_f, ↓reduceIte, hz, lt_t, stL_nI, Option.bind_some, e1, nI_add, e2, nI_sub, Nat.add_sub_cancel]
theorem c_full {o r : Nat} (h1 : m.1 o 1 = nI n) (hz : z_Law (o + 1) = r) (hr : r ≤ 10) (hn : n ≤ r) : f_Names_isFull z_Law m o = some (if n = r then nI 1 else nI 0) := by
  unfold f_Names_isFull
  rw [h1, hz]
  by_cases g : n = r
  · rw [if_pos g, if_neg (nI_nlt (by omega) (by omega))]; rfl
  · rw [if_neg g, if_pos (nI_lt (by omega) (by omega))]; rfl
theorem u_L98 (h : At M0 U0 sz lim a b m u κ l v ap np) {x : Nat} (hx : x < 10) (hc : c ≤ 8) (hH : ∀ k, k < c → u.1 172 (123 + k) = H (123 + k)) : mm_lp (f_Mod_readHouse_L98 z_Law 169 (nI c) (nI x)) (nI 0, u) = some (if fd (hp H x) c = mN then .inr u else .inl (nI 0, ubad u 3 ap)) := by
  have key : mm_lp (f_Mod_readHouse_L98 z_Law 169 (nI c) (nI x)) (nI 0, u) = some (if fa_first (hp H x) c < c then .inl (nI 0, ubad u 3 ap) else .inr u) := by
    have hle := fa_first_le (hp H x) c
    have st : ∀ k, k < c → hp H x k = false → f_Mod_readHouse_L98 z_Law 169 (nI c) (nI x) (nI k, u) = some (.inl (nI (k + 1), u)) := by
      intro k hk hf
      have hne : ¬ H (123 + k) = nI x := of_decide_eq_false hf
      unfold f_Mod_readHouse_L98
      simp (disch := omega) only [fl, mm_lt, le_f, ↓reduceIte, Nat.reduceAdd, zq_172, nI_add, ld_nI, hH k hk, Option.bind_some, if_neg hne]
    by_cases hf : fa_first (hp H x) c < c
    · rw [if_pos hf]
      refine lp_go (fun k => (nI k, u)) (fa_first (hp H x) c) rfl (fun k hk => st k (by omega) (fa_first_no (hp H x) c k hk)) ?_
      have he : H (123 + fa_first (hp H x) c) = nI x := of_decide_eq_true (fa_first_yes _ _ hf)
      unfold f_Mod_readHouse_L98
      simp (disch := omega) only [fl, le_f, ↓reduceIte, Nat.reduceAdd, zq_172, nI_add, ld_nI, hH _ hf, Option.bind_some, he, u_bad h, zb_0]
    · rw [if_neg hf]
      refine lp_go (fun k => (nI k, u)) c rfl (fun k hk => st k hk (fa_first_no (hp H x) c k (by omega))) ?_
      unfold f_Mod_readHouse_L98
      simp (disch := omega) only [fl, le_t, ↓reduceIte]
  rw [key]
  unfold fd
  by_cases hf : fa_first (hp H x) c < c
  · rw [if_pos hf, if_pos hf, if_neg (hq_ne (n := fa_first (hp H x) c) (by omega))]
  · rw [if_neg hf, if_neg hf, if_pos rfl]
end ISL7
