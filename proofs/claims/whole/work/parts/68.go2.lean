section GO2
variable {σ m u : Mm} {S T T' : Nat → Int32} {w a b : Int32}
theorem pn_iff (hv : Inv T) {k y : Nat} (hk : k < 8) (hy : y < sn T) (e : T (123 + k) = nI y) : (T (123 + k) ≠ mN ∧ T (15 + (T (123 + k)).toNatClampNeg) = nI 2) = (T (15 + y) = nI 2) := by
  have n10 := iv_n10 hv
  rw [e, nI_clamp (by omega)]
  exact propext ⟨fun q => q.2, fun q => ⟨hq_ne (n := y) (by omega), q⟩⟩
theorem md_pawnE (hv : Inv T) (hu : u.1 171 = T) {k y : Nat} (hk : k < 8) (hy : y < sn T) (e : T (123 + k) = nI y) : f_Mod_isPawned z_Law u 169 (nI k) = some (if T (15 + y) = nI 2 then nI 1 else nI 0) := by
  rw [md_pawn hv hu hk]
  simp only [pn_iff hv hk hy e]
theorem step_exch (hv : Inv T) {k j : Nat} (hk : k < sm T) (hj : j < sm T) (h1 : ∀ m f1 f2, IR m 61 T → HR m 19 T → (w ≠ nI 5 → f1 = nI k) → (w ≠ nI 5 → w ≠ nI 2 → f2 = nI j) → f_Hands_doLine z_Law m 19 61 (bkw w) f1 f2 = some (nI 0, kI (kI m 21 k (T (123 + j))) 21 j (T (123 + k)))) (h2 : ∀ u : Mm, u.1 171 = T → f_Mod_does z_Law u 169 w (nI k) (nI j) = some (nI 0, kI (kI u 171 (123 + k) (T (123 + j))) 171 (123 + j) (T (123 + k)))) : ∃ code T', sOK T w (nI k) (nI j) code T' := by
  have m8 := iv_m8 hv
  refine ⟨0, sw T k j, fun m f1 f2 hI hH e1 e2 => ⟨_, h1 m f1 f2 hI hH e1 e2, hr_exch (d := 19) hH, fun q q1 q2 q3 q4 => by rw [kI_o _ _ _ _ q1, kI_o _ _ _ _ q1], rfl⟩, fun u hu => ⟨_, h2 u hu, ms_exch hu, fun q q1 _ _ => by rw [kI_o _ _ _ _ q1, kI_o _ _ _ _ q1], rfl⟩, sw_Inv hv hk hj, fun i h => sw_o (by omega) (by omega), by omega⟩
theorem J308_x (hu : u.1 171 = T) {k j q : Nat} (hk : k < 8) (hj : j < 8) (hq : q < 2) : f_Mod_does_J308 z_Law 169 (nI q) (nI k) (nI j) u = some (nI 0, kI (kI u 171 (123 + k) (T (123 + j))) 171 (123 + j) (T (123 + k))) := by
  unfold f_Mod_does_J308
  simp (disch := omega) only [fl, fmN, mm_lt, Nat.reduceAdd, Option.bind_some, lt_t, lt_f, le_t, le_f, eq_f, eq_self, nI_add, nI_mul, nI_sub, ↓reduceIte, md_exch hu]
theorem J237_s (hu : u.1 171 = T) {k j x y : Nat} (hk : k < 8) (hj : j < 8) (hx : x < 10) (hy : y < 10) (e' : T (123 + j) = nI y) : f_Mod_does_J237 z_Law 169 (nI 0) (nI k) (nI j) (nI x) u = if vw T k y < vw T k x then some (nI 3, u) else if vw T j y ≤ vw T j x then some (nI 0, kI (kI u 171 (123 + k) (T (123 + j))) 171 (123 + j) (T (123 + k))) else some (nI 3, u) := by
  have h1 : f_Mod_does_J291 z_Law 169 (nI 0) (nI k) (nI j) (nI x) u = some (nI 0, kI (kI u 171 (123 + k) (T (123 + j))) 171 (123 + j) (T (123 + k))) := by
    unfold f_Mod_does_J291
    simp (disch := omega) only [fl, eq_f, ↓reduceIte, J308_x hu]
  unfold f_Mod_does_J237
  simp (disch := omega) only [fl, Option.bind_some, ↓reduceIte, Nat.reduceAdd, zq_171, ld_nI, nI_add, hu, md_valueOf hu, e']
  rw [h1, e']
theorem J215_s (hv : Inv T) (hu : u.1 171 = T) {k j x y : Nat} (hk : k < 8) (hj : j < 8) (hx : x < sn T) (hy : y < sn T) (e : T (123 + k) = nI x) (e' : T (123 + j) = nI y) : f_Mod_does_J215 z_Law 169 (nI 0) (nI k) (nI j) (nI x) u = if T (15 + x) = nI 2 then some (nI 2, u) else if T (15 + y) = nI 2 then some (nI 2, u) else f_Mod_does_J237 z_Law 169 (nI 0) (nI k) (nI j) (nI x) u := by
  unfold f_Mod_does_J215
  simp (disch := omega) only [fl, Option.bind_some, ↓reduceIte, md_pawnE hv hu hk hx e, md_pawnE hv hu hj hy e', fl_ite]
theorem J180_s (hu : u.1 171 = T) {k j x y : Nat} (hk : k < 8) (hj : j < 8) (hy : y < 10) (e' : T (123 + j) = nI y) : f_Mod_does_J180 z_Law 169 (nI 0) (nI k) (nI j) (nI x) u = f_Mod_does_J215 z_Law 169 (nI 0) (nI k) (nI j) (nI x) u := by
  have h1 : f_Mod_does_J196 z_Law 169 (nI 0) (nI k) (nI j) (nI x) u = f_Mod_does_J215 z_Law 169 (nI 0) (nI k) (nI j) (nI x) u := by
    unfold f_Mod_does_J196
    simp (disch := omega) only [fl, eq_f, ↓reduceIte]
  unfold f_Mod_does_J180
  simp (disch := omega) only [fl, Option.bind_some, ↓reduceIte, Nat.reduceAdd, zq_171, ld_nI, nI_add, hu, e', lt_f]
  exact h1
theorem does_x (hu : u.1 171 = T) {k j x q : Nat} (hk : k < 8) (hj : j < 8) (hkj : k ≠ j) (hx : x < 10) (hq : q < 2) (e : T (123 + k) = nI x) : f_Mod_does z_Law u 169 (nI q) (nI k) (nI j) = f_Mod_does_J180 z_Law 169 (nI q) (nI k) (nI j) (nI x) u := by
  unfold f_Mod_does
  simp (disch := omega) only [fl, Option.bind_some, ↓reduceIte, Nat.reduceAdd, zq_171, ld_nI, nI_add, hu, e, lt_f, eq_f]
theorem does_0 (hu : u.1 171 = T) {k j q : Nat} (hk : k < 8) (hq : q < 2) (h : k = j ∨ T (123 + k) = mN) : f_Mod_does z_Law u 169 (nI q) (nI k) (nI j) = some (nI 1, u) := by
  unfold f_Mod_does
  rcases h with rfl | e
  · simp (disch := omega) only [fl, Option.bind_some, ↓reduceIte, Nat.reduceAdd, zq_171, ld_nI, nI_add, hu, eq_f, ite_self]
  · simp (disch := omega) only [fl, Option.bind_some, ↓reduceIte, Nat.reduceAdd, zq_171, ld_nI, nI_add, hu, e, eq_f]
    rw [if_pos (by decide)]
theorem c_swap (hI : IR m 61 T) (hH : HR m 19 T) {k j x y : Nat} (hk : k < 8) (hj : j < 8) (hkj : k ≠ j) (hx : x < 10) (hy : y < 10) (e : T (123 + k) = nI x) (e' : T (123 + j) = nI y) : f_Hands_doSwap z_Law m 19 61 (nI k) (nI j) = if T (15 + x) = nI 2 then some (nI 2, m) else if T (15 + y) = nI 2 then some (nI 2, m) else if vw T k y < vw T k x then some (nI 3, m) else if vw T j y ≤ vw T j x then some (nI 0, kI (kI m 21 k (T (123 + j))) 21 j (T (123 + k))) else some (nI 3, m) := by
  have hx2 : f_Hands_exchange z_Law m 19 (nI k) (nI j) = some (kI (kI m 21 k (T (123 + j))) 21 j (T (123 + k))) := hd_exch HZ_19 hH hk hj
  unfold f_Hands_doSwap
  simp (disch := omega) only [fl, fmN, Option.bind_some, ↓reduceIte, Nat.reduceAdd, eq_f, hd_held HZ_19 hH, e, e', mN_ne, is_pawn IZ_61 hI, is_value IZ_61 hI, fl_ite, hx2]
theorem c_give (hI : IR m 61 T) (hH : HR m 19 T) {k j x : Nat} (hk : k < 8) (hj : j < 8) (hkj : k ≠ j) (hx : x < 10) (e : T (123 + k) = nI x) (e' : T (123 + j) = mN) : f_Hands_doGive z_Law m 19 61 (nI k) (nI j) = if T (15 + x) = nI 2 then some (nI 2, m) else if nI 0 ≤ vw T j x then some (nI 0, kI (kI m 21 k (T (123 + j))) 21 j (T (123 + k))) else some (nI 3, m) := by
  have hx2 : f_Hands_exchange z_Law m 19 (nI k) (nI j) = some (kI (kI m 21 k (T (123 + j))) 21 j (T (123 + k))) := hd_exch HZ_19 hH hk hj
  unfold f_Hands_doGive
  simp (disch := omega) only [fl, fmN, Option.bind_some, ↓reduceIte, Nat.reduceAdd, eq_f, hd_held HZ_19 hH, e, e', mN_ne, is_pawn IZ_61 hI, is_value IZ_61 hI, fl_ite, hx2]
theorem u_give (hv : Inv T) (hu : u.1 171 = T) {k j x : Nat} (hk : k < 8) (hj : j < 8) (hx : x < sn T) (e : T (123 + k) = nI x) (e' : T (123 + j) = mN) : f_Mod_does_J180 z_Law 169 (nI 1) (nI k) (nI j) (nI x) u = if T (15 + x) = nI 2 then some (nI 2, u) else if nI 0 ≤ vw T j x then some (nI 0, kI (kI u 171 (123 + k) (T (123 + j))) 171 (123 + j) (T (123 + k))) else some (nI 3, u) := by
  have n10 := iv_n10 hv
  have h1 : f_Mod_does_J291 z_Law 169 (nI 1) (nI k) (nI j) (nI x) u = if nI 0 ≤ vw T j x then some (nI 0, kI (kI u 171 (123 + k) (T (123 + j))) 171 (123 + j) (T (123 + k))) else some (nI 3, u) := by
    unfold f_Mod_does_J291
    simp (disch := omega) only [fl, eq_f, ↓reduceIte, md_valueOf hu, Option.bind_some, J308_x hu]
  have h2 : f_Mod_does_J237 z_Law 169 (nI 1) (nI k) (nI j) (nI x) u = f_Mod_does_J291 z_Law 169 (nI 1) (nI k) (nI j) (nI x) u := by
    unfold f_Mod_does_J237
    simp (disch := omega) only [fl, eq_f, ↓reduceIte]
  have h3 : f_Mod_does_J215 z_Law 169 (nI 1) (nI k) (nI j) (nI x) u = if T (15 + x) = nI 2 then some (nI 2, u) else f_Mod_does_J237 z_Law 169 (nI 1) (nI k) (nI j) (nI x) u := by
    unfold f_Mod_does_J215
    simp (disch := omega) only [fl, Option.bind_some, eq_f, ↓reduceIte, md_pawnE hv hu hk hx e, fl_ite]
  have h4 : f_Mod_does_J196 z_Law 169 (nI 1) (nI k) (nI j) (nI x) u = f_Mod_does_J215 z_Law 169 (nI 1) (nI k) (nI j) (nI x) u := by
    unfold f_Mod_does_J196
    simp (disch := omega) only [fl, Option.bind_some, ↓reduceIte, Nat.reduceAdd, zq_171, ld_nI, nI_add, hu, e']
    rw [if_pos (by decide)]
  unfold f_Mod_does_J180
  simp (disch := omega) only [fl, eq_f, ↓reduceIte]
  rw [h4, h3, h2, h1]
theorem u_give1 (hu : u.1 171 = T) {k j x y : Nat} (hk : k < 8) (hj : j < 8) (hy : y < 10) (e' : T (123 + j) = nI y) : f_Mod_does_J180 z_Law 169 (nI 1) (nI k) (nI j) (nI x) u = some (nI 1, u) := by
  have h4 : f_Mod_does_J196 z_Law 169 (nI 1) (nI k) (nI j) (nI x) u = some (nI 1, u) := by
    unfold f_Mod_does_J196
    simp (disch := omega) only [fl, Option.bind_some, ↓reduceIte, Nat.reduceAdd, zq_171, ld_nI, nI_add, hu, e', lt_f]
  unfold f_Mod_does_J180
  simp (disch := omega) only [fl, eq_f, ↓reduceIte]
  exact h4
theorem ln_0 {f1 f2 : Int32} : f_Hands_doLine z_Law m 19 61 (nI 12) f1 f2 = f_Hands_doSwap z_Law m 19 61 f1 f2 := by
  unfold f_Hands_doLine
  simp (disch := omega) only [fl, eq_f, ↓reduceIte]
  cases f_Hands_doSwap z_Law m 19 61 f1 f2 <;> rfl
theorem ln_1 {f1 f2 : Int32} : f_Hands_doLine z_Law m 19 61 (nI 13) f1 f2 = f_Hands_doGive z_Law m 19 61 f1 f2 := by
  unfold f_Hands_doLine
  simp (disch := omega) only [fl, eq_f, ↓reduceIte]
  cases f_Hands_doGive z_Law m 19 61 f1 f2 <;> rfl
theorem dn_swap (hv : Inv T) {k j code : Nat} (hc : code ≤ 6) (h1 : ∀ m, IR m 61 T → HR m 19 T → f_Hands_doSwap z_Law m 19 61 (nI k) (nI j) = some (nI code, m)) (h2 : ∀ u : Mm, u.1 171 = T → f_Mod_does z_Law u 169 (nI 0) (nI k) (nI j) = some (nI code, u)) : ∃ code T', sOK T (nI 0) (nI k) (nI j) code T' := by
  refine ⟨code, T, so_no hv hc (fun m f1 f2 hI hH e1 e2 => ?_) h2⟩
  rw [bkw_0, ln_0, e1 (by decide), e2 (by decide) (by decide)]; exact h1 m hI hH
theorem dn_give (hv : Inv T) {k j code : Nat} (hc : code ≤ 6) (h1 : ∀ m, IR m 61 T → HR m 19 T → f_Hands_doGive z_Law m 19 61 (nI k) (nI j) = some (nI code, m)) (h2 : ∀ u : Mm, u.1 171 = T → f_Mod_does z_Law u 169 (nI 1) (nI k) (nI j) = some (nI code, u)) : ∃ code T', sOK T (nI 1) (nI k) (nI j) code T' := by
  refine ⟨code, T, so_no hv hc (fun m f1 f2 hI hH e1 e2 => ?_) h2⟩
  rw [bkw_1, ln_1, e1 (by decide), e2 (by decide) (by decide)]; exact h1 m hI hH
theorem sw_a {k : Nat} : f_Hands_doSwap z_Law m 19 61 (nI k) (nI k) = some (nI 1, m) := by
  unfold f_Hands_doSwap
  simp (disch := omega) only [fl, ↓reduceIte]
theorem sw_b (hH : HR m 19 T) {k j : Nat} (hk : k < 8) (hj : j < 8) (hkj : k ≠ j) (e : T (123 + k) = mN) : f_Hands_doSwap z_Law m 19 61 (nI k) (nI j) = some (nI 1, m) := by
  unfold f_Hands_doSwap
  exact (if_neg (fun q => hkj (nI_inj (by omega) (by omega) q))).trans ((bd_of (hd_held HZ_19 hH hk)).trans (if_pos (e.trans (by decide))))
theorem sw_c (hH : HR m 19 T) {k j x : Nat} (hk : k < 8) (hj : j < 8) (hkj : k ≠ j) (hx : x < 10) (e : T (123 + k) = nI x) (e' : T (123 + j) = mN) : f_Hands_doSwap z_Law m 19 61 (nI k) (nI j) = some (nI 1, m) := by
  unfold f_Hands_doSwap
  refine (if_neg (fun q => hkj (nI_inj (by omega) (by omega) q))).trans ((bd_of (hd_held HZ_19 hH hk)).trans ((if_neg (fun q => ?_)).trans ((bd_of (hd_held HZ_19 hH hj)).trans (if_pos (e'.trans (by decide))))))
  exact hq_ne (n := x) (by omega) (e.symm.trans (q.trans (by decide)))
theorem sw_d (hu : u.1 171 = T) {k j x : Nat} (hk : k < 8) (hj : j < 8) (hkj : k ≠ j) (hx : x < 10) (e : T (123 + k) = nI x) (e' : T (123 + j) = mN) : f_Mod_does z_Law u 169 (nI 0) (nI k) (nI j) = some (nI 1, u) := by
  rw [does_x hu hk hj hkj hx (by omega) e]
  unfold f_Mod_does_J180
  simp (disch := omega) only [fl, fmN, mm_lt, Nat.reduceAdd, Option.bind_some, lt_t, lt_f, le_t, le_f, eq_f, eq_self, nI_add, nI_mul, nI_sub, ↓reduceIte, zq_171, ld_nI, hu, e, e']
  rw [if_pos (by decide)]
theorem gv_a {k : Nat} : f_Hands_doGive z_Law m 19 61 (nI k) (nI k) = some (nI 1, m) := by
  unfold f_Hands_doGive
  simp (disch := omega) only [fl, ↓reduceIte]
theorem gv_b (hH : HR m 19 T) {k j : Nat} (hk : k < 8) (hj : j < 8) (hkj : k ≠ j) (e : T (123 + k) = mN) : f_Hands_doGive z_Law m 19 61 (nI k) (nI j) = some (nI 1, m) := by
  unfold f_Hands_doGive
  exact (if_neg (fun q => hkj (nI_inj (by omega) (by omega) q))).trans ((bd_of (hd_held HZ_19 hH hk)).trans (if_pos (e.trans (by decide))))
theorem gv_c (hH : HR m 19 T) {k j x y : Nat} (hk : k < 8) (hj : j < 8) (hkj : k ≠ j) (hx : x < 10) (hy : y < 10) (e : T (123 + k) = nI x) (e' : T (123 + j) = nI y) : f_Hands_doGive z_Law m 19 61 (nI k) (nI j) = some (nI 1, m) := by
  unfold f_Hands_doGive
  simp (disch := omega) only [fl, fmN, mm_lt, Nat.reduceAdd, Option.bind_some, lt_t, lt_f, le_t, le_f, eq_f, eq_self, nI_add, nI_mul, nI_sub, ↓reduceIte, hd_held HZ_19 hH, e, e', mN_ne]
theorem sw_exch (hv : Inv T) {k j : Nat} (hk : k < sm T) (hj : j < sm T) (h1 : ∀ m, IR m 61 T → HR m 19 T → f_Hands_doSwap z_Law m 19 61 (nI k) (nI j) = some (nI 0, kI (kI m 21 k (T (123 + j))) 21 j (T (123 + k)))) (h2 : ∀ u : Mm, u.1 171 = T → f_Mod_does z_Law u 169 (nI 0) (nI k) (nI j) = some (nI 0, kI (kI u 171 (123 + k) (T (123 + j))) 171 (123 + j) (T (123 + k)))) : ∃ code T', sOK T (nI 0) (nI k) (nI j) code T' := by
  refine step_exch hv hk hj (fun m f1 f2 hI hH e1 e2 => ?_) h2
  rw [bkw_0, ln_0, e1 (by decide), e2 (by decide) (by decide)]; exact h1 m hI hH
theorem gv_exch (hv : Inv T) {k j : Nat} (hk : k < sm T) (hj : j < sm T) (h1 : ∀ m, IR m 61 T → HR m 19 T → f_Hands_doGive z_Law m 19 61 (nI k) (nI j) = some (nI 0, kI (kI m 21 k (T (123 + j))) 21 j (T (123 + k)))) (h2 : ∀ u : Mm, u.1 171 = T → f_Mod_does z_Law u 169 (nI 1) (nI k) (nI j) = some (nI 0, kI (kI u 171 (123 + k) (T (123 + j))) 171 (123 + j) (T (123 + k)))) : ∃ code T', sOK T (nI 1) (nI k) (nI j) code T' := by
  refine step_exch hv hk hj (fun m f1 f2 hI hH e1 e2 => ?_) h2
  rw [bkw_1, ln_1, e1 (by decide), e2 (by decide) (by decide)]; exact h1 m hI hH
theorem u_swap (hv : Inv T) (hu : u.1 171 = T) {k j x y : Nat} (hk : k < 8) (hj : j < 8) (hkj : k ≠ j) (hx : x < sn T) (hy : y < sn T) (e : T (123 + k) = nI x) (e' : T (123 + j) = nI y) : f_Mod_does z_Law u 169 (nI 0) (nI k) (nI j) = if T (15 + x) = nI 2 then some (nI 2, u) else if T (15 + y) = nI 2 then some (nI 2, u) else if vw T k y < vw T k x then some (nI 3, u) else if vw T j y ≤ vw T j x then some (nI 0, kI (kI u 171 (123 + k) (T (123 + j))) 171 (123 + j) (T (123 + k))) else some (nI 3, u) := by
  have n10 := iv_n10 hv
  rw [does_x hu hk hj hkj (by omega) (by omega) e, J180_s hu hk hj (show y < 10 by omega) e', J215_s hv hu hk hj hx hy e e', J237_s hu hk hj (by omega) (by omega) e']
theorem step_swap (hv : Inv T) {k j : Nat} (hk : k < sm T) (hj : j < sm T) : ∃ code T', sOK T (nI 0) (nI k) (nI j) code T' := by
  have m8 := iv_m8 hv
  have n10 := iv_n10 hv
  have hk8 : k < 8 := by omega
  have hj8 : j < 8 := by omega
  by_cases hkj : k = j
  · subst hkj
    exact dn_swap hv (show 1 ≤ 6 by omega) (fun m hI hH => sw_a) (fun u hu => does_0 hu hk8 (by omega) (Or.inl rfl))
  · rcases iv_held hv k hk8 with e | ⟨x, hx, e⟩
    · exact dn_swap hv (show 1 ≤ 6 by omega) (fun m hI hH => sw_b hH hk8 hj8 hkj e) (fun u hu => does_0 hu hk8 (by omega) (Or.inr e))
    · have hx10 : x < 10 := by omega
      rcases iv_held hv j hj8 with e' | ⟨y, hy, e'⟩
      · exact dn_swap hv (show 1 ≤ 6 by omega) (fun m hI hH => sw_c hH hk8 hj8 hkj hx10 e e') (fun u hu => sw_d hu hk8 hj8 hkj hx10 e e')
      · have hy10 : y < 10 := by omega
        by_cases p1 : T (15 + x) = nI 2
        · exact dn_swap hv (show 2 ≤ 6 by omega) (fun m hI hH => by rw [c_swap hI hH hk8 hj8 hkj hx10 hy10 e e', if_pos p1]) (fun u hu => by rw [u_swap hv hu hk8 hj8 hkj hx hy e e', if_pos p1])
        · by_cases p2 : T (15 + y) = nI 2
          · exact dn_swap hv (show 2 ≤ 6 by omega) (fun m hI hH => by rw [c_swap hI hH hk8 hj8 hkj hx10 hy10 e e', if_neg p1, if_pos p2]) (fun u hu => by rw [u_swap hv hu hk8 hj8 hkj hx hy e e', if_neg p1, if_pos p2])
          · by_cases c1 : vw T k y < vw T k x
            · exact dn_swap hv (show 3 ≤ 6 by omega) (fun m hI hH => by rw [c_swap hI hH hk8 hj8 hkj hx10 hy10 e e', if_neg p1, if_neg p2, if_pos c1]) (fun u hu => by rw [u_swap hv hu hk8 hj8 hkj hx hy e e', if_neg p1, if_neg p2, if_pos c1])
            · by_cases c2 : vw T j y ≤ vw T j x
              · exact sw_exch hv hk hj (fun m hI hH => by rw [c_swap hI hH hk8 hj8 hkj hx10 hy10 e e', if_neg p1, if_neg p2, if_neg c1, if_pos c2]) (fun u hu => by rw [u_swap hv hu hk8 hj8 hkj hx hy e e', if_neg p1, if_neg p2, if_neg c1, if_pos c2])
              · exact dn_swap hv (show 3 ≤ 6 by omega) (fun m hI hH => by rw [c_swap hI hH hk8 hj8 hkj hx10 hy10 e e', if_neg p1, if_neg p2, if_neg c1, if_neg c2]) (fun u hu => by rw [u_swap hv hu hk8 hj8 hkj hx hy e e', if_neg p1, if_neg p2, if_neg c1, if_neg c2])
theorem step_give (hv : Inv T) {k j : Nat} (hk : k < sm T) (hj : j < sm T) : ∃ code T', sOK T (nI 1) (nI k) (nI j) code T' := by
  have m8 := iv_m8 hv
  have n10 := iv_n10 hv
  have hk8 : k < 8 := by omega
  have hj8 : j < 8 := by omega
  by_cases hkj : k = j
  · subst hkj
    exact dn_give hv (show 1 ≤ 6 by omega) (fun m hI hH => gv_a) (fun u hu => does_0 hu hk8 (by omega) (Or.inl rfl))
  · rcases iv_held hv k hk8 with e | ⟨x, hx, e⟩
    · exact dn_give hv (show 1 ≤ 6 by omega) (fun m hI hH => gv_b hH hk8 hj8 hkj e) (fun u hu => does_0 hu hk8 (by omega) (Or.inr e))
    · have hx10 : x < 10 := by omega
      rcases iv_held hv j hj8 with e' | ⟨y, hy, e'⟩
      · by_cases p1 : T (15 + x) = nI 2
        · exact dn_give hv (show 2 ≤ 6 by omega) (fun m hI hH => by rw [c_give hI hH hk8 hj8 hkj hx10 e e', if_pos p1]) (fun u hu => by rw [does_x hu hk8 hj8 hkj hx10 (by omega) e, u_give hv hu hk8 hj8 hx e e', if_pos p1])
        · by_cases c1 : nI 0 ≤ vw T j x
          · exact gv_exch hv hk hj (fun m hI hH => by rw [c_give hI hH hk8 hj8 hkj hx10 e e', if_neg p1, if_pos c1]) (fun u hu => by rw [does_x hu hk8 hj8 hkj hx10 (by omega) e, u_give hv hu hk8 hj8 hx e e', if_neg p1, if_pos c1])
          · exact dn_give hv (show 3 ≤ 6 by omega) (fun m hI hH => by rw [c_give hI hH hk8 hj8 hkj hx10 e e', if_neg p1, if_neg c1]) (fun u hu => by rw [does_x hu hk8 hj8 hkj hx10 (by omega) e, u_give hv hu hk8 hj8 hx e e', if_neg p1, if_neg c1])
      · have hy10 : y < 10 := by omega
        exact dn_give hv (show 1 ≤ 6 by omega) (fun m hI hH => gv_c hH hk8 hj8 hkj hx10 hy10 e e') (fun u hu => by rw [does_x hu hk8 hj8 hkj hx10 (by omega) e]; exact u_give1 hu hk8 hj8 hy10 e')
theorem step_any (hv : Inv T) (hb : bookOK (sn T) (sm T) w a b) : ∃ code T', sOK T w a b code T' := by
  obtain ⟨⟨q, hq, rfl⟩, h1, h2, h3, h4⟩ := hb
  match q, hq with
  | 0, _ =>
    obtain ⟨k, hk, rfl⟩ := h1 (by decide)
    obtain ⟨j, hj, rfl⟩ := h2 (Or.inl rfl)
    exact step_swap hv hk hj
  | 1, _ =>
    obtain ⟨k, hk, rfl⟩ := h1 (by decide)
    obtain ⟨j, hj, rfl⟩ := h2 (Or.inr rfl)
    exact step_give hv hk hj
  | 2, _ =>
    obtain ⟨k, hk, rfl⟩ := h1 (by decide)
    exact step_drop hv hk
  | 3, _ =>
    obtain ⟨k, hk, rfl⟩ := h1 (by decide)
    obtain ⟨x, hx, rfl⟩ := h3 rfl
    exact step_take hv hk hx
  | 4, _ =>
    obtain ⟨k, hk, rfl⟩ := h1 (by decide)
    exact step_sit hv hk
  | 5, _ => exact step_trade hv (h4 rfl)
end GO2
