section ISL2
noncomputable def uPews (z : Nat → Nat) (σ : Mm) (o : Nat) : Option (Int32 × Mm) :=
  if (σ.1 o 21) = 0 then (
              if (σ.1 o 20) = 0 then (
                mm_lt (kI σ o 21 (1 : Int32)) fun m92 =>
                (f_Mod_next z m92 o).bind fun q96 =>
                (f_Mod_takes z q96 o (1 : Int32) (4 : Int32)).bind fun q102 =>
                if q102.1 = 0 then (
                  some ((0 : Int32), q102.2)
                ) else (
                  (mm_stI q102.2 (o + 3) (z (o + 3)) (2 : Int32) (q102.2.1 o 18)).bind fun m119 =>
                  (f_Mod_takes z m119 o (1 : Int32) (8 : Int32)).bind fun q124 =>
                  if q124.1 = 0 then (
                    some ((0 : Int32), q124.2)
                  ) else (
                    (mm_stI q124.2 (o + 3) (z (o + 3)) (3 : Int32) (q124.2.1 o 18)).bind fun m141 =>
                    some ((1 : Int32), m141)
                  )
                )
              ) else (
                f_Mod_line_J84 z o σ
              )
            ) else (
              f_Mod_line_J84 z o σ
            )
noncomputable def uField (z : Nat → Nat) (σ : Mm) (o : Nat) : Option (Int32 × Mm) :=
  if (σ.1 o 22) = 0 then (
                  mm_lt (kI σ o 22 (1 : Int32)) fun m285 =>
                  (f_Mod_next z m285 o).bind fun q289 =>
                  (f_Mod_takes z q289 o (0 : Int32) (99 : Int32)).bind fun q296 =>
                  if q296.1 = 0 then (
                    some ((0 : Int32), q296.2)
                  ) else (
                    (mm_stI q296.2 (o + 3) (z (o + 3)) (4 : Int32) (q296.2.1 o 18)).bind fun m313 =>
                    some ((1 : Int32), m313)
                  )
                ) else (
                  (f_Mod_bad z σ o (3 : Int32)).bind fun q279 =>
                  (mm_zb q279.1).bind fun y282 =>
                  some (y282, q279.2)
                )
noncomputable def uSits (z : Nat → Nat) (σ : Mm) (o : Nat) : Option (Int32 × Mm) :=
  (f_Mod_next z σ o).bind fun q155 =>
              (f_Mod_isName z q155 o).bind fun q159 =>
              if q159 = 0 then (
                (f_Mod_bad z q155 o (1 : Int32)).bind fun q167 =>
                (mm_zb q167.1).bind fun y170 =>
                some (y170, q167.2)
              ) else (
                (mm_ldI (q155.1 (o + 3)) (z (o + 3)) (1 : Int32)).bind fun x179 =>
                (f_Mod_find z q155 o (28 : Int32) x179).bind fun q180 =>
                if q180 < 0 then (
                  f_Mod_line_J199 z o q155
                ) else (
                  (f_Mod_has z q155 (q155.1 o 20) q180).bind fun q193 =>
                  if q193 = 0 then (
                    mm_lt (kI q155 o 20 ((q155.1 o 20) ||| ((1 : Int32) <<< (q180 &&& 31)))) fun m214 =>
                    (f_Mod_next z m214 o).bind fun q218 =>
                    (mm_ldI (q218.1 (o + 3)) (z (o + 3)) (2 : Int32)).bind fun x228 =>
                    (f_Mod_takes z q218 o (0 : Int32) (x228 - (1 : Int32))).bind fun q231 =>
                    if q231.1 = 0 then (
                      some ((0 : Int32), q231.2)
                    ) else (
                      (mm_stI q231.2 (o + 3) (z (o + 3)) ((115 : Int32) + q180) (q231.2.1 o 18)).bind fun m251 =>
                      some ((1 : Int32), m251)
                    )
                  ) else (
                    f_Mod_line_J199 z o q155
                  )
                )
              )
variable {M0 U0 a b m u : Mm} {t : Nat → Nat} {sz lim κ v ap np : Nat} {l : List Nat} {i : Nat} {H : Nat → Int32} {N : Nat → Int64}
noncomputable def zbw (q : Int32 × Mm) : Option (Int32 × Mm) := (mm_zb q.1).bind fun y => some (y, q.2)
theorem sm_zb {R : Mm → Mm → Prop} {x y : Option (Int32 × Mm)} (h : Sm M0 U0 R x y) : Sm M0 U0 R (x.bind zbw) (y.bind zbw) := by
  obtain ⟨r, m, u, h1, h2, h3⟩ := h
  refine ⟨r, m, u, ?_, ?_, h3⟩
  · rw [h1, Option.bind_some]
    rcases h3 with ⟨e, -⟩ | ⟨e, -⟩
    · rw [e]; rfl
    · rw [e]; rfl
  · rw [h2, Option.bind_some]
    rcases h3 with ⟨e, -⟩ | ⟨e, -⟩
    · rw [e]; rfl
    · rw [e]; rfl
theorem sm_zbC {R : Mm → Mm → Prop} {x y : Option (Int32 × Mm)} (h : Sm M0 U0 R x y) : Sm M0 U0 R (x.bind zbw) y := by
  obtain ⟨r, m, u, h1, h2, h3⟩ := h
  refine ⟨r, m, u, ?_, h2, h3⟩
  rw [h1, Option.bind_some]
  rcases h3 with ⟨e, -⟩ | ⟨e, -⟩
  · rw [e]; rfl
  · rw [e]; rfl
theorem il_u (h : At M0 U0 sz lim a b m u κ l v ap np) : f_Mod_line z_Law u 169 = if κ = 1 ∧ rwd l = nI 0 then (f_Mod_readName z_Law u 169).bind zbw else if κ = 1 ∧ rwd l = nI 3 then (f_Mod_readHouse z_Law u 169).bind zbw else if κ = 1 ∧ rwd l = nI 5 then (f_Mod_readWants z_Law u 169).bind zbw else if κ = 1 ∧ rwd l = nI 6 then (f_Mod_readFeud z_Law u 169).bind zbw else if κ = 1 ∧ rwd l = nI 7 then uPews z_Law u 169 else if κ = 1 ∧ rwd l = nI 8 then uSits z_Law u 169 else if κ = 1 ∧ rwd l = nI 9 then uField z_Law u 169 else some (nI 0, ubad u 1 ap) := by
  have w0 := u_isW h (j := 0) (c := 1851878757) (by decide) (by decide +kernel)
  have w3 := u_isW h (j := 3) (c := 448546567013) (by decide) (by decide +kernel)
  have w5 := u_isW h (j := 5) (c := 512735736947) (by decide) (by decide +kernel)
  have w6 := u_isW h (j := 6) (c := 1717925220) (by decide) (by decide +kernel)
  have w7 := u_isW h (j := 7) (c := 1885697907) (by decide) (by decide +kernel)
  have w8 := u_isW h (j := 8) (c := 1936290931) (by decide) (by decide +kernel)
  have w9 := u_isW h (j := 9) (c := 439854918756) (by decide) (by decide +kernel)
  have wb : (f_Mod_bad z_Law u 169 1).bind (fun q266 => (mm_zb q266.1).bind fun y269 => some (y269, q266.2)) = some (nI 0, ubad u 1 ap) := by
    rw [show (1 : Int32) = nI 1 from fl 1, u_bad h]; rfl
  unfold f_Mod_line
  rw [show (1851878757 : Int64) = lN 1851878757 from fl64 _, show (448546567013 : Int64) = lN 448546567013 from fl64 _, show (512735736947 : Int64) = lN 512735736947 from fl64 _, show (1717925220 : Int64) = lN 1717925220 from fl64 _, show (1885697907 : Int64) = lN 1885697907 from fl64 _, show (1936290931 : Int64) = lN 1936290931 from fl64 _, show (439854918756 : Int64) = lN 439854918756 from fl64 _, w0, w3, w5, w6, w7, w8, w9]
  have i10 : ∀ {P : Prop} [Decidable P] {x y : Option (Int32 × Mm)}, (if (if P then nI 1 else nI 0) = 0 then x else y) = if P then y else x := fun {P} _ {x y} => if10
  simp only [Option.bind_some, i10]
  by_cases g0 : κ = 1 ∧ rwd l = nI 0
  · rw [if_pos g0, if_pos g0]; rfl
  rw [if_neg g0, if_neg g0]
  by_cases g3 : κ = 1 ∧ rwd l = nI 3
  · rw [if_pos g3, if_pos g3]; rfl
  rw [if_neg g3, if_neg g3]
  by_cases g5 : κ = 1 ∧ rwd l = nI 5
  · rw [if_pos g5, if_pos g5]; rfl
  rw [if_neg g5, if_neg g5]
  by_cases g6 : κ = 1 ∧ rwd l = nI 6
  · rw [if_pos g6, if_pos g6]; rfl
  rw [if_neg g6, if_neg g6]
  by_cases g7 : κ = 1 ∧ rwd l = nI 7
  · rw [if_pos g7, if_pos g7]; rfl
  rw [if_neg g7, if_neg g7]
  by_cases g8 : κ = 1 ∧ rwd l = nI 8
  · rw [if_pos g8, if_pos g8]; rfl
  rw [if_neg g8, if_neg g8]
  by_cases g9 : κ = 1 ∧ rwd l = nI 9
  · rw [if_pos g9, if_pos g9]; rfl
  rw [if_neg g9, if_neg g9]
  exact wb
theorem il_c {j : Nat} (cw : m.1 2 8 = nI j) : (j = 0 → f_Reader_islandLine z_Law m 1 = (f_Reader_nameLine z_Law m 1).bind zbw) ∧ (j = 3 → f_Reader_islandLine z_Law m 1 = (f_Reader_houseLine z_Law m 1).bind zbw) ∧ (j = 5 → f_Reader_islandLine z_Law m 1 = (f_Reader_wantsLine z_Law m 1).bind zbw) ∧ (j = 6 → f_Reader_islandLine z_Law m 1 = (f_Reader_feudLine z_Law m 1).bind zbw) ∧ (j = 7 → f_Reader_islandLine z_Law m 1 = (f_Reader_pewsLine z_Law m 1).bind zbw) ∧ (j = 8 → f_Reader_islandLine z_Law m 1 = (f_Reader_sitsLine z_Law m 1).bind zbw) ∧ (j = 9 → f_Reader_islandLine z_Law m 1 = (f_Reader_fieldLine z_Law m 1).bind zbw) := by
  refine ⟨fun g => ?_, fun g => ?_, fun g => ?_, fun g => ?_, fun g => ?_, fun g => ?_, fun g => ?_⟩ <;> (subst g; unfold f_Reader_islandLine; simp (disch := omega) only [fl, mm_lt, Nat.reduceAdd, cw, eq_f, ↓reduceIte]; rfl)
theorem il_cN {j : Nat} (h : At M0 U0 sz lim a b m u κ l v ap np) (hj : j < 17) (cw : m.1 2 8 = nI j) (h0 : j ≠ 0 ∧ j ≠ 3 ∧ j ≠ 5 ∧ j ≠ 6 ∧ j ≠ 7 ∧ j ≠ 8 ∧ j ≠ 9) : f_Reader_islandLine z_Law m 1 = some (nI 0, cbad m 1 ap) := by
  unfold f_Reader_islandLine
  simp only [fl, mm_lt, Nat.reduceAdd, cw, c_fail h, Option.bind_some, zb_0]
  simp (disch := omega) only [eq_f, ↓reduceIte, ite_self]
theorem il_cM (h : At M0 U0 sz lim a b m u κ l v ap np) (cw : m.1 2 8 = mN) : f_Reader_islandLine z_Law m 1 = some (nI 0, cbad m 1 ap) := by
  unfold f_Reader_islandLine
  simp only [fl, mm_lt, Nat.reduceAdd, cw, c_fail h, Option.bind_some, zb_0]
  simp (disch := omega) only [mN_ne', ↓reduceIte]
theorem il_N (h : At M0 U0 sz lim a b m u κ l v ap np) {a0 : Mm} (hC : Co a0 H N) (e7 : a.1 7 = a0.1 7) (e9 : a.1 9 = a0.1 9) (e2 : a.2 = a0.2) (eH : b.1 172 = H) (eN : Nb b = N) : m.1 7 1 = nI (sn H) ∧ m.1 9 1 = nI (sm H) ∧ (∀ x, x < sn H → WR (N x) (m.2 8 x)) ∧ (∀ k, k < sm H → WR (N (10 + k)) (m.2 10 k)) ∧ u.1 172 = H ∧ (∀ k, u.2 174 (18 + k) = N k) ∧ ∀ k, u.2 174 (28 + k) = N (10 + k) := by
  have eu := h.1.2.2.2.1
  have ec := h.1.2.2.1
  have k18 : ∀ k, u.2 174 (18 + k) = N k := fun k => by rw [(eu.1 174 (by decide)).2, ← eN]; rfl
  refine ⟨?_, ?_, fun x hx => ?_, fun k hk => ?_, (eu.1 172 (by decide)).1.trans eH, k18, fun k => (congrArg (u.2 174) (by omega)).trans (k18 (10 + k))⟩
  · rw [ec.1 7 (by decide) (by decide), e7]; exact hC.1.1.trans hC.2.2.2.1.1.1
  · rw [ec.1 9 (by decide) (by decide), e9]; exact hC.1.2.1.trans hC.2.2.2.1.2.1.1
  · rw [ec.2.1 8 (by decide), e2]; exact hC.2.1.1 x hx
  · rw [ec.2.1 10 (by decide), e2]; exact hC.2.1.2 k hk
theorem pw_of {v : Nat} (h : H 2 = nI v) (h1 : 1 ≤ v) (h4 : v ≤ 4) : H 2 = nI (pw H) ∧ 1 ≤ pw H ∧ pw H ≤ 4 := by
  have e : pw H = v := cl_n h (by omega)
  rw [e]; exact ⟨h, h1, h4⟩
theorem sc_of {v : Nat} (h : H 3 = nI v) (h1 : 1 ≤ v) (h4 : v ≤ 8) : H 3 = nI (sc H) ∧ 1 ≤ sc H ∧ sc H ≤ 8 := by
  have e : sc H = v := cl_n h (by omega)
  rw [e]; exact ⟨h, h1, h4⟩
end ISL2
