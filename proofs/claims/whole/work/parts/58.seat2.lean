section SEAT2
variable {σ m u : Mm} {S : Nat → Int32}
/-- the class's rows while it seats -/
def sg (S : Nat → Int32) (m : Mm) : Prop := m.1 47 6 = nI (sm S) ∧ m.1 47 7 = nI (pw S) ∧ m.1 47 8 = nI (sc S) ∧ (∀ h, h < sm S → m.1 53 h = fw S h) ∧ ∀ h, h < 8 → m.1 57 h = S (115 + h)
def inp (S : Nat → Int32) (m : Mm) (p : Nat → Nat) (h : Nat) : Prop := ∀ v, v < pw S → ∀ i, i < 32 → bt (m.1 55 v) i = (decide (i < h) && decide (p i = v))
theorem sg_c {m' : Mm} (h : sg S m) (e : ∀ q, q ≠ 51 → q ≠ 55 → m'.1 q = m.1 q) : sg S m' := by
  unfold sg
  rw [e 47 (by decide) (by decide), e 53 (by decide) (by decide), e 57 (by decide) (by decide)]
  exact h
theorem inp_sma {v h : Nat} {p : Nat → Nat} (hi : inp S m p h) (hv : v < pw S) (hh : h ≤ 8) : sma (m.1 55 v) := fun i h1 h2 => by rw [hi v hv i h1, decide_eq_false (by omega), Bool.false_and]
theorem inp_ct {v h : Nat} {p : Nat → Nat} (hi : inp S m p h) (hv : v < pw S) (hh : h ≤ 8) : pcI (m.1 55 v) = ctp p h v := by
  unfold pcI
  rw [fb_ct_cong (q := fun i => decide (i < h) && decide (p i = v)) (fun i h1 => hi v hv i (by omega))]
  have := fb_ct_split (fun i => decide (i < h) && decide (p i = v)) h (10 - h)
  rw [show h + (10 - h) = 10 by omega] at this
  have z9 : fb_ct (fun k => decide (h + k < h) && decide (p (h + k) = v)) (10 - h) = 0 := fb_ct_zero.mpr (fun k hk => by rw [decide_eq_false (by omega : ¬ h + k < h), Bool.false_and])
  rw [this, z9, Nat.add_zero]
  exact fb_ct_cong (fun i h1 => by rw [decide_eq_true h1, Bool.true_and])
theorem inp_foe (hv : Inv S) {v h : Nat} {p : Nat → Nat} (hi : inp S m p h) (hvp : v < pw S) (hh : h < sm S) : (m.1 55 v &&& fw S h = nI 0) = ((∀ o, o < h → p o = v → foe S o h = false)) := by
  have m8 := iv_m8 hv
  apply propext
  rw [b_zero]
  constructor
  · intro q o ho e
    have := q o (by omega)
    rw [b_and, hi v hvp o (by omega), decide_eq_true ho, decide_eq_true e, fw_in hv (by omega)] at this
    rw [foe_symm hv (by omega) (by omega)]
    simpa using this
  · intro q o ho
    rw [b_and, hi v hvp o ho]
    by_cases h1 : o < h
    · by_cases h2 : p o = v
      · rw [fw_in hv (by omega), ← foe_symm hv (by omega) (by omega), q o h1 h2, Bool.and_false]
      · rw [decide_eq_false h2, Bool.and_false, Bool.false_and]
    · rw [decide_eq_false h1, Bool.false_and, Bool.false_and]
def sfR (S : Nat → Int32) (h : Nat) (m m' : Mm) (r : Option (Nat → Nat)) (res : Int32) : Prop := (∀ q, q ≠ 51 → q ≠ 55 → m'.1 q = m.1 q) ∧ m'.2 = m.2 ∧ (∀ v, v < pw S → m'.1 55 v = m.1 55 v) ∧ ((∃ p', r = some p' ∧ res = nI 1 ∧ ∀ i, i < sm S → m'.1 51 i = nI (p' i)) ∨ (r = none ∧ res = nI 0 ∧ ∀ i, i < h → m'.1 51 i = m.1 51 i))
theorem hat_seat (hv : Inv S) : ∀ d fuel p h b m, d < fuel → h + d = sm S → b ≤ 100 → sg S m → inp S m p h → (∀ i, i < h → m.1 51 i = nI (p i)) → ∃ res m', f_Seating_seatFrom z_Law fuel m 47 (nI h) (nI b) = some (res, m') ∧ sfR S h m m' (sf S d p h b) res := by
  have m8 := iv_m8 hv
  have hP := iv_p hv
  have hC := iv_c hv
  intro d
  induction d with
  | zero =>
    intro fuel p h b m hf hk hb hs hi hp
    obtain ⟨f, rfl⟩ : ∃ f, fuel = f + 1 := ⟨fuel - 1, by omega⟩
    refine ⟨nI 1, m, ?_, fun _ _ _ => rfl, rfl, fun _ _ => rfl, Or.inl ⟨p, rfl, rfl, fun i hi => hp i (by omega)⟩⟩
    show f_Seating_seatFrom_B z_Law (f_Seating_seatFrom z_Law f) m 47 (nI h) (nI b) = _
    unfold f_Seating_seatFrom_B
    simp (disch := omega) only [fl, fmN, mm_lt, Nat.reduceAdd, Option.bind_some, lt_t, lt_f, le_t, le_f, eq_f, eq_self, nI_add, nI_mul, nI_sub, ↓reduceIte, hs.1]
  | succ d ih =>
    intro fuel p h b m hf hk hb hs hi hp
    obtain ⟨f, rfl⟩ : ∃ f, fuel = f + 1 := ⟨fuel - 1, by omega⟩
    have inner : ∀ r v m, v + r = pw S → sg S m → inp S m p h → (∀ i, i < h → m.1 51 i = nI (p i)) → ∃ x, mm_lp (f_Seating_seatFrom_L18 z_Law (f_Seating_seatFrom z_Law f) 47 (nI h) (nI b)) (nI v, m) = some x ∧ ((∃ p' m', fsome (sfc S d p h b) v (pw S - v) = some p' ∧ x = .inl (nI 1, m') ∧ (∀ q, q ≠ 51 → q ≠ 55 → m'.1 q = m.1 q) ∧ m'.2 = m.2 ∧ (∀ w, w < pw S → m'.1 55 w = m.1 55 w) ∧ ∀ i, i < sm S → m'.1 51 i = nI (p' i)) ∨ (∃ m', fsome (sfc S d p h b) v (pw S - v) = none ∧ x = .inr m' ∧ (∀ q, q ≠ 51 → q ≠ 55 → m'.1 q = m.1 q) ∧ m'.2 = m.2 ∧ (∀ w, w < pw S → m'.1 55 w = m.1 55 w) ∧ ∀ i, i < h → m'.1 51 i = m.1 51 i)) := by
      intro r
      induction r with
      | zero =>
        intro v m hvr hs hi hp
        refine ⟨.inr m, mm_lp_done ?_, Or.inr ⟨m, fs_end (by omega), rfl, fun _ _ _ => rfl, rfl, fun _ _ => rfl, fun _ _ => rfl⟩⟩
        unfold f_Seating_seatFrom_L18
        simp (disch := omega) only [fl, fmN, mm_lt, Nat.reduceAdd, Option.bind_some, lt_t, lt_f, le_t, le_f, eq_f, eq_self, nI_add, nI_mul, nI_sub, ↓reduceIte, hs.2.1]
      | succ r ihr =>
        intro v m hvr hs hi hp
        have hvp : v < pw S := by omega
        have e47 := hs.1
        have e8 := hs.2.2.1
        have e53 := hs.2.2.2.1 h (by omega)
        have e57 := hs.2.2.2.2 h (by omega)
        have hbc := hat_bc (z := z_Law) (σ := m) (inp_sma hi hvp (by omega))
        rw [inp_ct hi hvp (by omega)] at hbc
        have hct : ctp p h v ≤ h := fb_ct_le _ _
        have hfo := inp_foe hv hi hvp (by omega : h < sm S)
        have hcv : cst S h v = 0 ∧ S (115 + h) = nI v ∨ cst S h v = 1 ∧ ¬ S (115 + h) = nI v := by
          unfold cst
          by_cases q : S (115 + h) = nI v
          · exact Or.inl ⟨if_pos q, q⟩
          · exact Or.inr ⟨if_neg q, q⟩
        have hcont : ∀ m1, (∀ q, q ≠ 51 → q ≠ 55 → m1.1 q = m.1 q) → m1.2 = m.2 → (∀ w, w < pw S → m1.1 55 w = m.1 55 w) → (∀ i, i < h → m1.1 51 i = m.1 51 i) → f_Seating_seatFrom_L18 z_Law (f_Seating_seatFrom z_Law f) 47 (nI h) (nI b) (nI v, m) = some (.inl (nI (v + 1), m1)) → sfc S d p h b v = none → ∃ x, mm_lp (f_Seating_seatFrom_L18 z_Law (f_Seating_seatFrom z_Law f) 47 (nI h) (nI b)) (nI v, m) = some x ∧ ((∃ p' m', fsome (sfc S d p h b) v (pw S - v) = some p' ∧ x = .inl (nI 1, m') ∧ (∀ q, q ≠ 51 → q ≠ 55 → m'.1 q = m.1 q) ∧ m'.2 = m.2 ∧ (∀ w, w < pw S → m'.1 55 w = m.1 55 w) ∧ ∀ i, i < sm S → m'.1 51 i = nI (p' i)) ∨ (∃ m', fsome (sfc S d p h b) v (pw S - v) = none ∧ x = .inr m' ∧ (∀ q, q ≠ 51 → q ≠ 55 → m'.1 q = m.1 q) ∧ m'.2 = m.2 ∧ (∀ w, w < pw S → m'.1 55 w = m.1 55 w) ∧ ∀ i, i < h → m'.1 51 i = m.1 51 i)) := by
          intro m1 k1 k2 k3 k4 hb9 hn
          obtain ⟨x, ex, hx⟩ := ihr (v + 1) m1 (by omega) (sg_c hs k1) (fun w hw i hi9 => by rw [k3 w hw]; exact hi w hw i hi9) (fun i hi9 => (k4 i hi9).trans (hp i hi9))
          refine ⟨x, (mm_lp_step hb9).trans ex, ?_⟩
          rw [fs_no hvp hn]
          rcases hx with ⟨p', m', f1, f2, f3, f4, f5, f6⟩ | ⟨m', f1, f2, f3, f4, f5, f6⟩
          · exact Or.inl ⟨p', m', f1, f2, fun q q1 q2 => (f3 q q1 q2).trans (k1 q q1 q2), f4.trans k2, fun w hw => (f5 w hw).trans (k3 w hw), f6⟩
          · exact Or.inr ⟨m', f1, f2, fun q q1 q2 => (f3 q q1 q2).trans (k1 q q1 q2), f4.trans k2, fun w hw => (f5 w hw).trans (k3 w hw), fun i hi9 => (f6 i hi9).trans (k4 i hi9)⟩
        have hskip : sfc S d p h b v = none → f_Seating_seatFrom_L18 z_Law (f_Seating_seatFrom z_Law f) 47 (nI h) (nI b) (nI v, m) = some (.inl (nI (v + 1), m)) → _ := fun hn hb9 => hcont m (fun _ _ _ => rfl) rfl (fun _ _ => rfl) (fun _ _ => rfl) hb9 hn
        by_cases hcb : cst S h v ≤ b
        · have hJ : f_Seating_seatFrom_L18 z_Law (f_Seating_seatFrom z_Law f) 47 (nI h) (nI b) (nI v, m) = f_Seating_seatFrom_J55 z_Law (f_Seating_seatFrom z_Law f) 47 (nI h) (nI b) (nI v) (m.1 55 v) (nI (b - cst S h v)) m := by
            unfold f_Seating_seatFrom_L18
            simp (disch := omega) only [fl, fmN, mm_lt, Nat.reduceAdd, Option.bind_some, lt_t, lt_f, le_t, le_f, eq_f, eq_self, nI_add, nI_mul, nI_sub, ↓reduceIte, hs.2.1, row_atE (p := 55) rfl zq_55, row_atE (p := 57) rfl zq_57, e57]
            rcases hcv with ⟨c1, c2⟩ | ⟨c1, c2⟩
            · rw [if_pos c2, c1, Nat.sub_zero]
            · rw [if_neg c2, c1]
              rw [nI_sub (by omega)]
          by_cases hvl : vld S p h v = true
          · have hv1 := dec_t ((Bool.and_eq_true _ _).mp hvl).1
            have hv2 := dec_t ((Bool.and_eq_true _ _).mp hvl).2
            have hcd : sfc S d p h b v = sf S d (upn p h v) (h + 1) (b - cst S h v) := by
              unfold sfc
              rw [decide_eq_true hcb, hvl]; rfl
            obtain ⟨w, ew⟩ : ∃ w, kI (kI m 55 v (m.1 55 v ||| nI 1 <<< (nI h &&& nI 31))) 51 h (nI v) = w := ⟨_, rfl⟩
            have wq : ∀ q, q ≠ 51 → q ≠ 55 → w.1 q = m.1 q := fun q q1 q2 => by rw [← ew, kI_o _ _ _ _ q1, kI_o _ _ _ _ q2]
            have w55 : ∀ j, w.1 55 j = if j = v then m.1 55 v ||| nI 1 <<< (nI h &&& nI 31) else m.1 55 j := fun j => by rw [← ew, kI_o _ _ _ _ (by decide), kI_at]
            have w51 : ∀ j, w.1 51 j = if j = h then nI v else m.1 51 j := fun j => by rw [← ew, kI_at, kI_o _ _ _ _ (by decide)]
            obtain ⟨res, m1, e1, c1, c2, c3, c4⟩ := ih f (upn p h v) (h + 1) (b - cst S h v) w (by omega) (by omega) (by omega) (sg_c hs wq) (fun w' hw' i hi9 => by
                rw [w55]
                by_cases g : w' = v
                · rw [if_pos g, b_set (by omega) hi9, hi v hvp i hi9, g]
                  by_cases g2 : i = h
                  · rw [g2, upn_s, decide_eq_true (by omega : h < h + 1), decide_eq_true rfl, Bool.or_true]; exact (decide_eq_true rfl).symm
                  · rw [upn_o g2, decide_eq_false g2, Bool.or_false]
                    congr 1
                    exact decide_eq_decide.mpr (by omega)
                · rw [if_neg g, hi w' hw' i hi9]
                  by_cases g2 : i = h
                  · rw [g2, upn_s, decide_eq_false (by omega : ¬ h < h), Bool.false_and, decide_eq_false (show ¬ v = w' from fun q => g q.symm), Bool.and_false]
                  · rw [upn_o g2]
                    congr 1
                    exact decide_eq_decide.mpr (by omega)) (fun i hi9 => by
                rw [w51]
                by_cases g2 : i = h
                · rw [if_pos g2, g2, upn_s]
                · rw [if_neg g2, upn_o g2]; exact hp i (by omega))
            have hm2q : ∀ q, q ≠ 51 → q ≠ 55 → (kI m1 55 v (m.1 55 v)).1 q = m.1 q := fun q q1 q2 => by rw [kI_o _ _ _ _ q2, c1 q q1 q2, wq q q1 q2]
            have hm255 : ∀ w', w' < pw S → (kI m1 55 v (m.1 55 v)).1 55 w' = m.1 55 w' := fun w' hw' => by
              rw [kI_at]
              by_cases g : w' = v
              · rw [if_pos g, g]
              · rw [if_neg g, c3 w' hw', w55, if_neg g]
            have hm22 : (kI m1 55 v (m.1 55 v)).2 = m.2 := by
              show m1.2 = m.2
              rw [c2, ← ew]
              rfl
            have hstep : f_Seating_seatFrom_L18 z_Law (f_Seating_seatFrom z_Law f) 47 (nI h) (nI b) (nI v, m) = if res = nI 0 then some (.inl (nI (v + 1), kI m1 55 v (m.1 55 v))) else some (.inr (.inl (nI 1, kI m1 55 v (m.1 55 v)))) := by
              rw [hJ]
              unfold f_Seating_seatFrom_J55
              simp (disch := omega) only [fl, fmN, mm_lt, Nat.reduceAdd, Option.bind_some, lt_t, lt_f, le_t, le_f, eq_f, eq_self, nI_add, nI_mul, nI_sub, ↓reduceIte, hbc, e8, row_atE (p := 53) rfl zq_53, e53, if_pos (hfo.mpr hv2), row_putE (p := 55) rfl zq_55, row_putE (p := 51) rfl zq_51]
              rw [ew, e1]
              simp (disch := omega) only [fl, fmN, mm_lt, Nat.reduceAdd, Option.bind_some, lt_t, lt_f, le_t, le_f, eq_f, eq_self, nI_add, nI_mul, nI_sub, ↓reduceIte, row_putE (p := 55) rfl zq_55]
            rcases c4 with ⟨p', g1, g2, g3⟩ | ⟨g1, g2, g3⟩
            · refine ⟨.inl (nI 1, kI m1 55 v (m.1 55 v)), mm_lp_done (hstep.trans ?_), Or.inl ⟨p', _, fs_yes hvp (hcd.trans g1), rfl, hm2q, hm22, hm255, fun i hi9 => ?_⟩⟩
              · rw [g2, if_neg (by decide)]
              · rw [kI_o _ _ _ _ (by decide)]; exact g3 i hi9
            · exact hcont _ hm2q hm22 hm255 (fun i hi9 => by rw [kI_o _ _ _ _ (by decide), g3 i (by omega), w51, if_neg (by omega)]) (hstep.trans (by rw [g2, if_pos rfl])) (hcd.trans g1)
          · have hn : sfc S d p h b v = none := by
              unfold sfc
              rw [Bool.eq_false_iff.mpr hvl, Bool.and_false, if_neg (by decide)]
            refine hskip hn (hJ.trans ?_)
            unfold f_Seating_seatFrom_J55
            simp (disch := omega) only [fl, fmN, mm_lt, Nat.reduceAdd, Option.bind_some, lt_t, lt_f, le_t, le_f, eq_f, eq_self, nI_add, nI_mul, nI_sub, ↓reduceIte, hbc, e8]
            by_cases q1 : ctp p h v < sc S
            · have q2 : ¬ ∀ o, o < h → p o = v → foe S o h = false := fun q => hvl (by unfold vld; rw [decide_eq_true q1, decide_eq_true q]; rfl)
              simp (disch := omega) only [fl, fmN, mm_lt, Nat.reduceAdd, Option.bind_some, lt_t, lt_f, le_t, le_f, eq_f, eq_self, nI_add, nI_mul, nI_sub, ↓reduceIte, row_atE (p := 53) rfl zq_53, e53, if_neg (fun q => q2 (hfo.mp q))]
            · simp (disch := omega) only [fl, fmN, mm_lt, Nat.reduceAdd, Option.bind_some, lt_t, lt_f, le_t, le_f, eq_f, eq_self, nI_add, nI_mul, nI_sub, ↓reduceIte]
        · have hb0 : b = 0 := by have := cst_le (S := S) h v; omega
          have hn : sfc S d p h b v = none := by
            unfold sfc
            rw [decide_eq_false hcb, Bool.false_and, if_neg (by decide)]
          refine hskip hn ?_
          have c2 : ¬ S (115 + h) = nI v := by
            rcases hcv with ⟨c1, -⟩ | ⟨-, c2⟩
            · omega
            · exact c2
          unfold f_Seating_seatFrom_L18 f_Seating_seatFrom_J55
          simp (disch := omega) only [fl, fmN, mm_lt, Nat.reduceAdd, Option.bind_some, lt_t, lt_f, le_t, le_f, eq_f, eq_self, nI_add, nI_mul, nI_sub, ↓reduceIte, hs.2.1, row_atE (p := 55) rfl zq_55, row_atE (p := 57) rfl zq_57, e57, if_neg c2, hb0]
          rw [if_pos (by decide)]
    obtain ⟨x, ex, hx⟩ := inner (pw S) 0 m (by omega) hs hi hp
    rw [Nat.sub_zero, ← sf_succ] at hx
    have key : f_Seating_seatFrom z_Law (f + 1) m 47 (nI h) (nI b) = (some x).bind (Sum.elim (fun r9 => some r9) (fun x18_ => some (nI 0, x18_))) := by
      show f_Seating_seatFrom_B z_Law (f_Seating_seatFrom z_Law f) m 47 (nI h) (nI b) = _
      unfold f_Seating_seatFrom_B
      simp (disch := omega) only [fl, fmN, mm_lt, Nat.reduceAdd, Option.bind_some, lt_t, lt_f, le_t, le_f, eq_f, eq_self, nI_add, nI_mul, nI_sub, ↓reduceIte, hs.1, ex]
    rcases hx with ⟨p', m', f1, f2, f3, f4, f5, f6⟩ | ⟨m', f1, f2, f3, f4, f5, f6⟩
    · refine ⟨nI 1, m', ?_, f3, f4, f5, Or.inl ⟨p', f1, rfl, f6⟩⟩
      rw [key, f2]; rfl
    · refine ⟨nI 0, m', ?_, f3, f4, f5, Or.inr ⟨f1, rfl, f6⟩⟩
      rw [key, f2]; rfl
end SEAT2
