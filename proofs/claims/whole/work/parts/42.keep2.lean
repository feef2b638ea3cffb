/-! the relation put together again, where one part of it changed -/
section K2
variable {σ m : Mm}
theorem kp_mono {A B : Nat → Bool} (h : kp A σ m) (hAB : ∀ q, A q = true → B q = true) : kp B σ m := by
  have hf : ∀ q, B q = false → A q = false := fun q hq => by
    cases e : A q
    · rfl
    · rw [hAB q e] at hq; cases hq
  exact ⟨fun q a b => h.1 q a (hf q b), fun k a b => h.2.1 k a (hf _ b), fun b => h.2.2.1 (hf _ b), fun b => h.2.2.2.1 (hf _ b), fun k a b => h.2.2.2.2 k a (hf _ b)⟩
def AT : Nat → Bool := fun q => q == 1001 || q == 4 || q == 2002 || q == 170
def AR : Nat → Bool := fun q => q == 1040 || q == 42 || q == 2026 || q == 177
def AS : Nat → Bool := fun q => q == 1047 || q == 49 || q == 2035 || q == 183
def AW : Nat → Bool := fun q => q == 1006 || q == 59 || q == 2032 || q == 180
def AI : Nat → Bool := fun q => q == 1011 || q == 1012 || q == 187 || q == 188 || q == 189 || (95 ≤ q && q < 165)
def AN : Nat → Bool := fun q => q == 171 || q == 174 || (60 ≤ q && q < 95)
theorem AI_no {q : Nat} (h1 : 95 ≤ q) (h2 : q < 165) : no q = false := rfl
theorem RL_T (hR : RL σ) (hk : kp AT σ m) (hc : cT m) : RL m := by
  obtain ⟨h1, h2, h3, h4, h5, h6, h7, h8⟩ := hR
  exact ⟨hc, kp_F hk h2 ⟨rfl, rfl⟩, RS_kp h3 hk ⟨rfl, rfl, fun q a b => by simp [AT]; omega⟩, kp_R hk h4 ⟨rfl, rfl, rfl, rfl⟩, kp_S hk h5 ⟨rfl, rfl, rfl, rfl⟩, kp_W hk h6 ⟨rfl, rfl, rfl, rfl⟩, kp_I hk h7 ⟨rfl, rfl, rfl, rfl, rfl, fun q a b => by simp [AT]; omega⟩, kp_N hk h8 rfl⟩
theorem RL_R (hR : RL σ) (hk : kp AR σ m) (hc : cR m) : RL m := by
  obtain ⟨h1, h2, h3, h4, h5, h6, h7, h8⟩ := hR
  exact ⟨kp_T hk h1 ⟨rfl, rfl, rfl, rfl⟩, kp_F hk h2 ⟨rfl, rfl⟩, RS_kp h3 hk ⟨rfl, rfl, fun q a b => by simp [AR]; omega⟩, hc, kp_S hk h5 ⟨rfl, rfl, rfl, rfl⟩, kp_W hk h6 ⟨rfl, rfl, rfl, rfl⟩, kp_I hk h7 ⟨rfl, rfl, rfl, rfl, rfl, fun q a b => by simp [AR]; omega⟩, kp_N hk h8 rfl⟩
theorem RL_Se (hR : RL σ) (hk : kp AS σ m) (hc : cS m) : RL m := by
  obtain ⟨h1, h2, h3, h4, h5, h6, h7, h8⟩ := hR
  exact ⟨kp_T hk h1 ⟨rfl, rfl, rfl, rfl⟩, kp_F hk h2 ⟨rfl, rfl⟩, RS_kp h3 hk ⟨rfl, rfl, fun q a b => by simp [AS]; omega⟩, kp_R hk h4 ⟨rfl, rfl, rfl, rfl⟩, hc, kp_W hk h6 ⟨rfl, rfl, rfl, rfl⟩, kp_I hk h7 ⟨rfl, rfl, rfl, rfl, rfl, fun q a b => by simp [AS]; omega⟩, kp_N hk h8 rfl⟩
theorem RL_I (hR : RL σ) (hk : kp AI σ m) (hc : cI m) : RL m := by
  obtain ⟨h1, h2, h3, h4, h5, h6, h7, h8⟩ := hR
  exact ⟨kp_T hk h1 ⟨rfl, rfl, rfl, rfl⟩, kp_F hk h2 ⟨rfl, rfl⟩, RS_kp h3 hk ⟨rfl, rfl, fun q a b => by simp [AI]; omega⟩, kp_R hk h4 ⟨rfl, rfl, rfl, rfl⟩, kp_S hk h5 ⟨rfl, rfl, rfl, rfl⟩, kp_W hk h6 ⟨rfl, rfl, rfl, rfl⟩, hc, kp_N hk h8 rfl⟩
theorem RL_N (hR : RL σ) (hk : kp AN σ m) (hc : RS m) : RL m := by
  obtain ⟨h1, h2, h3, h4, h5, h6, h7, h8⟩ := hR
  exact ⟨kp_T hk h1 ⟨rfl, rfl, rfl, rfl⟩, kp_F hk h2 ⟨rfl, rfl⟩, hc, kp_R hk h4 ⟨rfl, rfl, rfl, rfl⟩, kp_S hk h5 ⟨rfl, rfl, rfl, rfl⟩, kp_W hk h6 ⟨rfl, rfl, rfl, rfl⟩, kp_I hk h7 ⟨rfl, rfl, rfl, rfl, rfl, fun q a b => by simp [AN]; omega⟩, kp_N hk h8 rfl⟩
/-- now and what the latest go() was -/
def ANW : Nat → Bool := fun q => AN q || AW q
theorem RL_NW (hR : RL σ) (hk : kp ANW σ m) (hc : RS m) (hw : cW m) : RL m := by
  obtain ⟨h1, h2, h3, h4, h5, h6, h7, h8⟩ := hR
  exact ⟨kp_T hk h1 ⟨rfl, rfl, rfl, rfl⟩, kp_F hk h2 ⟨rfl, rfl⟩, hc, kp_R hk h4 ⟨rfl, rfl, rfl, rfl⟩, kp_S hk h5 ⟨rfl, rfl, rfl, rfl⟩, hw, kp_I hk h7 ⟨rfl, rfl, rfl, rfl, rfl, fun q a b => by simp [ANW, AN, AW]; omega⟩, kp_N hk h8 rfl⟩
/-- tape, FAULT and now -/
def ATN : Nat → Bool := fun q => AT q || AN q || q == 1002 || q == 2015
theorem RL_TN (hR : RL σ) (hk : kp ATN σ m) (hT : cT m) (hF : m.1 0 2 = m.1 169 15) (hc : RS m) : RL m := by
  obtain ⟨h1, h2, h3, h4, h5, h6, h7, h8⟩ := hR
  exact ⟨hT, hF, hc, kp_R hk h4 ⟨rfl, rfl, rfl, rfl⟩, kp_S hk h5 ⟨rfl, rfl, rfl, rfl⟩, kp_W hk h6 ⟨rfl, rfl, rfl, rfl⟩, kp_I hk h7 ⟨rfl, rfl, rfl, rfl, rfl, fun q a b => by simp [ATN, AT, AN]; omega⟩, kp_N hk h8 rfl⟩
end K2
/-! rows that say the same as far as they are asked -/
section CONG
variable {S S' : Nat → Int32} {N N' : Nat → Int64} {σ : Mm} {b : Nat}
theorem sn_c (e : S' 0 = S 0) : sn S' = sn S := by unfold sn; rw [e]
theorem sm_c (e : S' 1 = S 1) : sm S' = sm S := by unfold sm; rw [e]
theorem pw_c (e : S' 2 = S 2) : pw S' = pw S := by unfold pw; rw [e]
theorem sc_c (e : S' 3 = S 3) : sc S' = sc S := by unfold sc; rw [e]
theorem sp_c (e : S' 131 = S 131) : sp S' = sp S := by unfold sp; rw [e]
theorem sr_c (e : S' 532 = S 532) : sr S' = sr S := by unfold sr; rw [e]
theorem sb_c (e : S' 623 = S 623) : sb S' = sb S := by unfold sb; rw [e]
theorem Inv_cong (h : Inv S) (e : ∀ i, i < 744 → S' i = S i) : Inv S' := by
  have e0 := sn_c (e 0 (by decide))
  have e1 := sm_c (e 1 (by decide))
  have e2 := pw_c (e 2 (by decide))
  have e3 := sc_c (e 3 (by decide))
  have e4 := sp_c (e 131 (by decide))
  have e5 := sr_c (e 532 (by decide))
  have e6 := sb_c (e 623 (by decide))
  have m8 := iv_m8 h
  have h24 := iv_sp24 h
  have r30 := iv_sr30 h
  have b30 := iv_sb30 h
  unfold Inv
  rw [e0, e1, e2, e3, e4, e5, e6, e 0 (by decide), e 1 (by decide), e 2 (by decide), e 3 (by decide), e 131 (by decide), e 532 (by decide), e 623 (by decide)]
  refine ⟨h.1, h.2.1, h.2.2.1, h.2.2.2.1, h.2.2.2.2.1, h.2.2.2.2.2.1, h.2.2.2.2.2.2.1, fun k hk => ?_, fun k h1 h2 => ?_, fun j k h1 h2 => ?_, fun t ht => ⟨fun k hk => ?_, fun j k h1 h2 => ?_⟩, fun t k h1 h2 h3 => ?_, fun x y hx hy => ?_, fun i hi => ?_, fun i hi => ?_, iv_pos h⟩
  · rw [e _ (by omega)]; exact iv_held h k hk
  · rw [e _ (by omega)]; exact iv_none h k h1 h2
  · rw [e _ (by omega), e _ (by omega)]; exact iv_one h j k h1 h2
  · rw [e _ (by omega)]; exact (iv_kept h t ht).1 k hk
  · rw [e _ (by omega), e _ (by omega)]; exact (iv_kept h t ht).2 j k h1 h2
  · rw [e _ (by omega)]; exact iv_drew h t k h1 h2 h3
  · rw [e _ (by omega), e _ (by omega)]; exact iv_feud h x y hx hy
  · rw [e _ (by omega), e _ (by omega), e _ (by omega)]; exact iv_roll h i hi
  · rw [e _ (by omega), e _ (by omega), e _ (by omega)]; exact iv_book h i hi
theorem rf_cong (e : ∀ i, i < 744 → S' i = S i) (k : Nat) : ∀ i, i ≤ 30 → rf S' k i = rf S k i
  | 0, _ => rfl
  | i + 1, hi => by
    show (if S' (533 + 3 * i) = nI k then _ else _) = (if S (533 + 3 * i) = nI k then _ else _)
    rw [rf_cong e k i (by omega), e _ (by omega), e _ (by omega), e _ (by omega)]
theorem IR_cong {i : Nat} (h : IR σ i S) (e : ∀ i, i < 115 → S' i = S i) : IR σ i S' := by
  unfold IR
  rw [e 0 (by decide), e 1 (by decide), e 2 (by decide), e 3 (by decide), e 4 (by decide)]
  refine ⟨h.1, h.2.1, h.2.2.1, h.2.2.2.1, h.2.2.2.2.1, fun x hx => ?_, fun x hx => ?_, fun x hx => ?_, fun k x hk hx => ?_, fun k x hk hx => ?_⟩
  · rw [e _ (by omega)]; exact h.2.2.2.2.2.1 x hx
  · rw [e _ (by omega)]; exact h.2.2.2.2.2.2.1 x hx
  · rw [e _ (by omega)]; exact h.2.2.2.2.2.2.2.1 x hx
  · rw [e _ (by omega)]; exact h.2.2.2.2.2.2.2.2.1 k x hk hx
  · rw [e _ (by omega)]; exact h.2.2.2.2.2.2.2.2.2 k x hk hx
theorem HR_cong {d : Nat} (h : HR σ d S) (e : ∀ i, i < 131 → S' i = S i) : HR σ d S' := ⟨fun k hk => by rw [e _ (by omega)]; exact h.1 k hk, fun k hk => by rw [e _ (by omega)]; exact h.2 k hk⟩
theorem NR_cong {i : Nat} (h : NR σ i S N) (hn : sn S ≤ 10) (hm : sm S ≤ 8) (e0 : S' 0 = S 0) (e1 : S' 1 = S 1) (e : ∀ i, i < 18 → N' i = N i) : NR σ i S' N' := by
  unfold NR
  rw [sn_c e0, sm_c e1]
  exact ⟨fun x hx => by rw [e _ (by omega)]; exact h.1 x hx, fun k hk => by rw [e _ (by omega)]; exact h.2 k hk⟩
theorem SR_cong (h : SR σ b S N) (hv : Inv S) (e : ∀ i, i < 744 → S' i = S i) (en : ∀ i, i < 18 → N' i = N i) : SR σ b S' N' := by
  have e1 := sm_c (e 1 (by decide))
  have e4 := sp_c (e 131 (by decide))
  have e5 := sr_c (e 532 (by decide))
  have e6 := sb_c (e 623 (by decide))
  have m8 := iv_m8 hv
  have h24 := iv_sp24 hv
  have r30 := iv_sr30 hv
  have b30 := iv_sb30 hv
  unfold SR
  rw [e1, e4, e5, e6, e 131 (by decide), e 532 (by decide), e 623 (by decide)]
  refine ⟨IR_cong h.1 (fun i hi => e i (by omega)), NR_cong h.2.1 (iv_n10 hv) m8 (e 0 (by decide)) (e 1 (by decide)) en, HR_cong h.2.2.1 (fun i hi => e i (by omega)), h.2.2.2.1, fun t k ht hk => ?_, fun t k h1 h2 hk => ?_, h.2.2.2.2.2.2.1, fun k hk => ?_, h.2.2.2.2.2.2.2.2.1, fun i hi => ?_⟩
  · rw [e _ (by omega)]; exact h.2.2.2.2.1 t k ht hk
  · rw [e _ (by omega)]; exact h.2.2.2.2.2.1 t k h1 h2 hk
  · rw [rf_cong e k _ r30]; exact h.2.2.2.2.2.2.2.1 k hk
  · rw [e _ (by omega), e _ (by omega), e _ (by omega)]; exact h.2.2.2.2.2.2.2.2.2 i hi
end CONG
/-! a State copied -/
section CP
variable {z : Nat → Nat} {m σ : Mm} {o o1 : Nat}
def cr (o o1 n j : Nat) (m : Mm) : Mm := kF m (o + j) (fun k => if k < n then m.1 (o1 + j) k else m.1 (o + j) k)
def cl (o o1 n j : Nat) (m : Mm) : Mm := kG m (o + j) (fun k => if k < n then m.2 (o1 + j) k else m.2 (o + j) k)
def cf (o o1 j k : Nat) (m : Mm) : Mm := kI m (o + j) k (m.1 (o1 + j) k)
theorem cr_o {n j q : Nat} (h : q ≠ o + j) : (cr o o1 n j m).1 q = m.1 q := kF_o _ _ _ h
theorem cr_s {n j k : Nat} (h : k < n) : (cr o o1 n j m).1 (o + j) k = m.1 (o1 + j) k := by unfold cr; rw [kF_s]; exact if_pos h
theorem cr_2 {n j : Nat} : (cr o o1 n j m).2 = m.2 := rfl
theorem cl_1 {n j : Nat} : (cl o o1 n j m).1 = m.1 := rfl
theorem cl_o {n j q : Nat} (h : q ≠ o + j) : (cl o o1 n j m).2 q = m.2 q := kG_o _ _ _ h
theorem cl_s {n j k : Nat} (h : k < n) : (cl o o1 n j m).2 (o + j) k = m.2 (o1 + j) k := by unfold cl; rw [kG_s]; exact if_pos h
theorem cf_2 {j k : Nat} : (cf o o1 j k m).2 = m.2 := rfl
theorem cf_o {j k q : Nat} (h : q ≠ o + j) : (cf o o1 j k m).1 q = m.1 q := kI_o _ _ _ _ h
theorem cf_s {j k : Nat} : (cf o o1 j k m).1 (o + j) k = m.1 (o1 + j) k := by unfold cf; rw [kI_at, if_pos rfl]
theorem cf_n {j k i : Nat} (h : i ≠ k) : (cf o o1 j k m).1 (o + j) i = m.1 (o + j) i := by unfold cf; rw [kI_at, if_neg h]
theorem row_cp {a a1 n j : Nat} (ha : a + 1 = o + j) (ha1 : a1 + 1 = o1 + j) (hz : z (o + j) = n) (hz1 : z (o1 + j) = n) (hn : n < 2 ^ 31) (ho : o ≠ o1) : f_Row_copyFrom z m a a1 = some (cr o o1 n j m) := by
  rw [row_copy (n := n) (by rw [ha]; exact hz) (by rw [ha1]; exact hz1) hn (by omega), ha, ha1]; rfl
theorem names_copy {a a1 n : Nat} (hz : z (a + 1) = n) (hz1 : z (a1 + 1) = n) (hn : n < 2 ^ 31) (ho : a1 ≠ a) : f_Names_copyFrom z σ a a1 = some (kI (kG σ (a + 1) (fun k => if k < n then σ.2 (a1 + 1) k else σ.2 (a + 1) k)) a 1 (σ.1 a1 1)) := by
  have key : mm_lp (f_Names_copyFrom_L2 z a a1) ((0 : Int32), σ) = some (kG σ (a + 1) (fun k => if k < n then σ.2 (a1 + 1) k else σ.2 (a + 1) k)) := by
    refine lp_go (fun i => (nI i, kG σ (a + 1) (fun k => if k < i then σ.2 (a1 + 1) k else σ.2 (a + 1) k))) n ?_ (fun i hi => ?_) ?_
    · refine Prod.ext rfl ?_
      show σ = kG σ (a + 1) _
      rw [kG_id]
      funext k; rw [if_neg (by omega)]
    · unfold f_Names_copyFrom_L2
      have ho' : a1 + 1 ≠ a + 1 := by omega
      simp (disch := first | omega | assumption) only [hz, hz1, fl, le_f, ↓reduceIte, stL_nI, ldL_nI, Option.bind_some, mm_lt, nI_add, kL_kG, kG_kG, kG_s, kG_o]
      congr 4
      funext b
      by_cases hb : b = i
      · subst hb; rw [if_pos rfl, if_pos (by omega)]
      · rw [if_neg hb]
        by_cases hb2 : b < i
        · rw [if_pos hb2, if_pos (by omega)]
        · rw [if_neg hb2, if_neg (by omega)]
    · unfold f_Names_copyFrom_L2
      simp (disch := omega) only [hz, le_t, ↓reduceIte]
  unfold f_Names_copyFrom
  rw [key]; rfl
theorem names_cp {a a1 n j : Nat} (ha : a = o + j) (ha1 : a1 = o1 + j) (hz : z (o + (j + 1)) = n) (hz1 : z (o1 + (j + 1)) = n) (hn : n < 2 ^ 31) (ho : o ≠ o1) : f_Names_copyFrom z m a a1 = some (cf o o1 j 1 (cl o o1 n (j + 1) m)) := by
  subst ha; subst ha1
  rw [names_copy (a := o + j) (a1 := o1 + j) (n := n) hz hz1 hn (by omega)]
  rfl
def SZ (z : Nat → Nat) (b : Nat) : Prop := z (b + 3) = 10 ∧ z (b + 5) = 8 ∧ z (b + 7) = 10 ∧ z (b + 9) = 10 ∧ z (b + 11) = 10 ∧ z (b + 13) = 80 ∧ z (b + 16) = 8 ∧ z (b + 18) = 8 ∧ z (b + 24) = 200 ∧ z (b + 26) = 200 ∧ z (b + 28) = 8 ∧ z (b + 30) = 30 ∧ z (b + 32) = 30 ∧ z (b + 34) = 30
def cpI (o o1 : Nat) (m : Mm) : Mm := cf o o1 1 8 (cf o o1 1 7 (cf o o1 1 6 (cr o o1 80 13 (cr o o1 10 11 (cr o o1 10 9 (cr o o1 10 7 (cf o o1 4 1 (cl o o1 8 5 (cf o o1 2 1 (cl o o1 10 3 m))))))))))
def cpH (o o1 : Nat) (m : Mm) : Mm := cr o o1 8 18 (cr o o1 8 16 m)
def cpS (o o1 : Nat) (m : Mm) : Mm := cr o o1 30 34 (cr o o1 30 32 (cr o o1 30 30 (cf o o1 0 7 (cr o o1 8 28 (cf o o1 0 5 (cr o o1 200 26 (cr o o1 200 24 (cf o o1 0 2 (cpH o o1 (cpI o o1 m))))))))))
theorem st_copy (hz : SZ z o) (hz1 : SZ z o1) (ho : o ≠ o1) : f_State_copyFrom z m o o1 = some (cpS o o1 m) := by
  obtain ⟨z1, z2, z3, z4, z5, z6, z7, z8, z9, z10, z11, z12, z13, z14⟩ := hz
  obtain ⟨y1, y2, y3, y4, y5, y6, y7, y8, y9, y10, y11, y12, y13, y14⟩ := hz1
  unfold f_State_copyFrom f_Island_copyFrom f_Hands_copyFrom
  rw [names_cp (j := 2) (n := 10) (o := o) (o1 := o1) rfl rfl z1 y1 (by decide) ho, Option.bind_some]
  rw [names_cp (j := 4) (n := 8) (o := o) (o1 := o1) rfl rfl z2 y2 (by decide) ho, Option.bind_some]
  rw [row_cp (j := 7) (o := o) (o1 := o1) rfl rfl z3 y3 (by decide) ho, Option.bind_some]
  rw [row_cp (j := 9) (o := o) (o1 := o1) rfl rfl z4 y4 (by decide) ho, Option.bind_some]
  rw [row_cp (j := 11) (o := o) (o1 := o1) rfl rfl z5 y5 (by decide) ho, Option.bind_some]
  rw [row_cp (j := 13) (o := o) (o1 := o1) rfl rfl z6 y6 (by decide) ho, Option.bind_some]
  simp only [mm_lt, Option.bind_some]
  rw [row_cp (j := 16) (o := o) (o1 := o1) rfl rfl z7 y7 (by decide) ho, Option.bind_some]
  rw [row_cp (j := 18) (o := o) (o1 := o1) rfl rfl z8 y8 (by decide) ho, Option.bind_some]
  simp only [Option.bind_some]
  rw [row_cp (j := 24) (o := o) (o1 := o1) rfl rfl z9 y9 (by decide) ho, Option.bind_some]
  rw [row_cp (j := 26) (o := o) (o1 := o1) rfl rfl z10 y10 (by decide) ho, Option.bind_some]
  rw [row_cp (j := 28) (o := o) (o1 := o1) rfl rfl z11 y11 (by decide) ho, Option.bind_some]
  rw [row_cp (j := 30) (o := o) (o1 := o1) rfl rfl z12 y12 (by decide) ho, Option.bind_some]
  rw [row_cp (j := 32) (o := o) (o1 := o1) rfl rfl z13 y13 (by decide) ho, Option.bind_some]
  rw [row_cp (j := 34) (o := o) (o1 := o1) rfl rfl z14 y14 (by decide) ho, Option.bind_some]
  rfl
end CP
