/-! words, in both codes -/
section WD
variable {z : Nat → Nat} {σ m u : Mm}
def er (B : Nat) : List Nat → Nat
  | [] => 0
  | c :: l => er B l * B + c
theorem er_foldr (B : Nat) : ∀ l, er B l = List.foldr (fun c a => a * B + c) 0 l
  | [] => rfl
  | c :: l => by
    show er B l * B + c = _
    rw [er_foldr B l]
    rfl
theorem e256_er (l : List Nat) : e256 l = er 256 l.reverse := by
  rw [er_foldr, List.foldr_reverse]; rfl
theorem e128_er (l : List Nat) : e128 l = er 128 l.reverse := by
  rw [er_foldr, List.foldr_reverse]; rfl
def okw (l : List Nat) : Prop := ∀ c ∈ l, 97 ≤ c ∧ c ≤ 122
theorem okw_rev {l : List Nat} (h : okw l) : okw l.reverse := fun c hc => h c (List.mem_reverse.mp hc)
theorem er_inj {B : Nat} (hB : 123 ≤ B) : ∀ l l', okw l → okw l' → er B l = er B l' → l = l'
  | [], [], _, _, _ => rfl
  | [], c :: l', _, h', e => by
    have h1 := h' c List.mem_cons_self
    have e2 : 0 = er B l' * B + c := e
    omega
  | c :: l, [], h, _, e => by
    have h1 := h c List.mem_cons_self
    have e2 : er B l * B + c = 0 := e
    omega
  | c :: l, c' :: l', h, h', e => by
    have h1 := h c List.mem_cons_self
    have h2 := h' c' List.mem_cons_self
    have e2 : er B l * B + c = er B l' * B + c' := e
    have k : ∀ a d, d < B → (a * B + d) % B = d ∧ (a * B + d) / B = a := fun a d hd =>
      ⟨by rw [Nat.add_comm, Nat.add_mul_mod_self_right, Nat.mod_eq_of_lt hd], by rw [Nat.add_comm, Nat.add_mul_div_right _ _ (by omega), Nat.div_eq_of_lt hd, Nat.zero_add]⟩
    have e3 : c = c' := by rw [← (k (er B l) c (by omega)).1, e2, (k (er B l') c' (by omega)).1]
    have e4 : er B l = er B l' := by rw [← (k (er B l) c (by omega)).2, e2, (k (er B l') c' (by omega)).2]
    rw [e3, er_inj hB l l' (fun x hx => h x (List.mem_cons_of_mem _ hx)) (fun x hx => h' x (List.mem_cons_of_mem _ hx)) e4]
theorem er_lt {B : Nat} (hB : 123 ≤ B) : ∀ l, okw l → er B l < B ^ l.length
  | [], _ => Nat.one_pos
  | c :: l, h => by
    have h1 := h c List.mem_cons_self
    have h2 := er_lt hB l (fun x hx => h x (List.mem_cons_of_mem _ hx))
    show er B l * B + c < B ^ (l.length + 1)
    rw [Nat.pow_succ]
    have h3 : (er B l + 1) * B ≤ B ^ l.length * B := Nat.mul_le_mul_right B h2
    rw [Nat.add_mul] at h3
    omega
def okl (l : List Nat) : Prop := okw l ∧ l.length ≤ 7
theorem e256_lt {l : List Nat} (h : okl l) : e256 l < 2 ^ 63 := by
  rw [e256_er]
  have h1 := er_lt (B := 256) (by decide) _ (okw_rev h.1)
  rw [List.length_reverse] at h1
  exact Nat.lt_of_lt_of_le h1 (Nat.le_trans (Nat.pow_le_pow_right (by decide) h.2) (by decide))
theorem e128_lt {l : List Nat} (h : okl l) : e128 l < 2 ^ 63 := by
  rw [e128_er]
  have h1 := er_lt (B := 128) (by decide) _ (okw_rev h.1)
  rw [List.length_reverse] at h1
  exact Nat.lt_of_lt_of_le h1 (Nat.le_trans (Nat.pow_le_pow_right (by decide) h.2) (by decide))
theorem rev_inj {l l' : List Nat} (h : l.reverse = l'.reverse) : l = l' := by
  rw [← List.reverse_reverse l, h, List.reverse_reverse]
theorem l256_eq {l l' : List Nat} (h : okl l) (h' : okl l') : (lN (e256 l) = lN (e256 l')) = (l = l') := by
  apply propext
  rw [pk_lEQ (e256_lt h) (e256_lt h')]
  constructor
  · intro e
    rw [e256_er, e256_er] at e
    exact rev_inj (er_inj (by decide) _ _ (okw_rev h.1) (okw_rev h'.1) e)
  · intro e; rw [e]
theorem l128_eq {l l' : List Nat} (h : okl l) (h' : okl l') : (lN (e128 l) = lN (e128 l')) = (l = l') := by
  apply propext
  rw [pk_lEQ (e128_lt h) (e128_lt h')]
  constructor
  · intro e
    rw [e128_er, e128_er] at e
    exact rev_inj (er_inj (by decide) _ _ (okw_rev h.1) (okw_rev h'.1) e)
  · intro e; rw [e]
theorem e256_snoc (l : List Nat) (c : Nat) : e256 (l ++ [c]) = e256 l * 256 + c := by
  unfold e256; rw [List.foldl_append]; rfl
theorem e128_snoc (l : List Nat) (c : Nat) : e128 (l ++ [c]) = e128 l * 128 + c := by
  unfold e128; rw [List.foldl_append]; rfl
/-- the words of the document -/
def wls : List (List Nat) := [[110, 97, 109, 101], [99, 117, 114, 115, 101, 100], [112, 97, 119, 110, 101, 100], [104, 111, 117, 115, 101], [104, 111, 108, 100, 115], [119, 97, 110, 116, 115], [102, 101, 117, 100], [112, 101, 119, 115], [115, 105, 116, 115], [102, 105, 101, 108, 100], [104, 97, 115], [110, 111, 116], [115, 119, 97, 112], [103, 105, 118, 101], [100, 114, 111, 112], [116, 97, 107, 101], [116, 114, 97, 100, 101]]
def wdl (k : Nat) : List Nat := wls.getD k []
theorem wdl_ok : ∀ k, k < 17 → okl (wdl k) := by
  have h : ∀ k, k < 17 → ((wdl k).all (fun c => decide (97 ≤ c ∧ c ≤ 122)) && decide ((wdl k).length ≤ 7)) = true := by decide +kernel
  intro k hk
  have h1 := h k hk
  rw [Bool.and_eq_true] at h1
  refine ⟨fun c hc => ?_, of_decide_eq_true h1.2⟩
  have := List.all_eq_true.mp h1.1 c hc
  exact of_decide_eq_true this
theorem wdl_inj : ∀ j, j < 17 → ∀ k, k < 17 → wdl j = wdl k → j = k := by decide +kernel
theorem resv_e : ∀ k, k < 17 → resv.getD k 0 = e256 (wdl k) := by decide +kernel
/-- the number of a word, NONE of a NAME -/
def rwd (l : List Nat) : Int32 := fd (fun k => decide (l = wdl k)) 17
theorem rwd_eq {l : List Nat} {k : Nat} (hk : k < 17) : (rwd l = nI k) = (l = wdl k) := by
  apply propext
  unfold rwd
  rcases fd_cases (fun k => decide (l = wdl k)) 17 with ⟨j, hj, h1, h2, e⟩ | ⟨h1, e⟩
  · rw [e]
    have h3 : l = wdl j := of_decide_eq_true h1
    constructor
    · intro h4
      have := nI_inj (by omega) (by omega) h4
      rw [← this]; exact h3
    · intro h4
      rw [wdl_inj j hj k hk (h3.symm.trans h4)]
  · rw [e]
    constructor
    · intro h4; rw [mN_ne' k (by omega)] at h4; exact h4.elim
    · intro h4
      have := h1 k hk
      rw [decide_eq_true h4] at this; cases this
theorem rwd_hq (l : List Nat) : hq 17 (rwd l) := by
  unfold rwd
  rcases fd_cases (fun k => decide (l = wdl k)) 17 with ⟨j, hj, h1, h2, e⟩ | ⟨h1, e⟩
  · rw [e]; exact Or.inr ⟨j, hj, rfl⟩
  · rw [e]; exact Or.inl rfl
theorem rwd_no {l : List Nat} : (rwd l = mN) = (∀ k, k < 17 → l ≠ wdl k) := by
  apply propext
  constructor
  · intro h k hk e
    rw [← rwd_eq hk, h, mN_ne' k (by omega)] at e
    exact e
  · intro h
    unfold rwd
    exact fd_none (fun k hk => decide_eq_false (h k hk))
/-! Words.numberOf -/
def chs (i : Nat) : Nat := (wls.flatMap (fun l => l ++ [32])).getD i 0
theorem st_ch_e : ∀ i, i < 92 → st_ch i = nI (chs i) := by decide +kernel
def nwW : Nat → Nat
  | 0 => 0
  | i + 1 => if chs i = 32 then 0 else nwW i * 128 + chs i
def nwK : Nat → Nat
  | 0 => 0
  | i + 1 => if chs i = 32 then nwK i + 1 else nwK i
theorem lp_findS {A R : Type} {body : A → Option (A ⊕ (R ⊕ Unit))} (st : Nat → A) (p : Nat → Bool) (n : Nat) (f : Nat → R) (h : ∀ i, i < n → p i = false → body (st i) = some (.inl (st (i + 1)))) (hp : ∀ i, i < n → p i = true → body (st i) = some (.inr (.inl (f i)))) (he : body (st n) = some (.inr (.inr ()))) : mm_lp body (st 0) = some (if fa_first p n < n then .inl (f (fa_first p n)) else .inr ()) := by
  have hle := fa_first_le p n
  by_cases hf : fa_first p n < n
  · rw [if_pos hf]
    exact lp_go st (fa_first p n) rfl (fun i hi => h i (by omega) (fa_first_no p n i hi)) (hp _ hf (fa_first_yes p n hf))
  · rw [if_neg hf]
    exact lp_go st n rfl (fun i hi => h i hi (fa_first_no p n i (by omega))) he
theorem chs_lt : ∀ i, i < 92 → chs i < 128 := by decide +kernel
theorem nwK_lt : ∀ i, i < 93 → nwK i ≤ 17 := by decide +kernel
theorem nw_blank : ∀ i, i < 92 → chs i = 32 → nwK i < 17 ∧ nwW i = e128 (wdl (nwK i)) := by decide +kernel
def bps : List Nat := [4, 11, 18, 24, 30, 36, 41, 46, 51, 57, 61, 65, 70, 75, 80, 85, 91]
theorem bps_e : ∀ k, k < 17 → bps.getD k 0 < 92 ∧ chs (bps.getD k 0) = 32 ∧ nwW (bps.getD k 0) = e128 (wdl k) := by decide +kernel
theorem fl64 (n : Nat) : (OfNat.ofNat n : Int64) = lN n := Int64.toBitVec_inj.mp rfl
theorem nI_64 {a : Nat} (h : a < 2 ^ 31) : (nI a).toInt64 = lN a := by
  apply Int64.toInt_inj.mp
  rw [Int32.toInt_toInt64, nI_toInt h, pk_lT (by omega)]
theorem hat_num {l : List Nat} (hl : okl l) : f_Words_numberOf z σ (lN (e128 l)) = some (rwd l) := by
  obtain ⟨p, hp⟩ : ∃ p : Nat → Bool, p = fun i => decide (chs i = 32) && decide (lN (nwW i) = lN (e128 l)) := ⟨_, rfl⟩
  have hpe : ∀ i, p i = (decide (chs i = 32) && decide (lN (nwW i) = lN (e128 l))) := fun i => by rw [hp]
  have key : mm_lp (f_Words_numberOf_L8 z σ (lN (e128 l))) (lN 0, nI 0, nI 0) = some (if fa_first p 92 < 92 then .inl (nI (nwK (fa_first p 92))) else .inr ()) := by
    refine lp_findS (fun i => (lN (nwW i), nI (nwK i), nI i)) p 92 (fun i => nI (nwK i)) (fun i hi h => ?_) (fun i hi h => ?_) ?_
    · have hc := chs_lt i hi
      have hk := nwK_lt i (by omega)
      unfold f_Words_numberOf_L8
      simp (disch := omega) only [fl, fmN, mm_lt, Nat.reduceAdd, Option.bind_some, lt_t, lt_f, le_t, le_f, eq_f, eq_self, nI_add, nI_mul, nI_sub, ↓reduceIte, ld_nI, st_ch_e i hi, fl64, lN_mul, nI_64, lN_add]
      by_cases g : chs i = 32
      · have g2 : ¬ lN (nwW i) = lN (e128 l) := fun q => by
          rw [hpe, decide_eq_true g, decide_eq_true q] at h; cases h
        simp (disch := omega) only [g, eq_self, ↓reduceIte, lg_eq0, if_neg g2]
        show _ = some (Sum.inl (lN (if chs i = 32 then 0 else nwW i * 128 + chs i), nI (if chs i = 32 then nwK i + 1 else nwK i), nI (i + 1)))
        rw [if_pos g, if_pos g]
      · simp (disch := omega) only [eq_f, ↓reduceIte]
        show _ = some (Sum.inl (lN (if chs i = 32 then 0 else nwW i * 128 + chs i), nI (if chs i = 32 then nwK i + 1 else nwK i), nI (i + 1)))
        rw [if_neg g, if_neg g]
    · have hc := chs_lt i hi
      rw [hpe, Bool.and_eq_true] at h
      have g := of_decide_eq_true h.1
      have g2 := of_decide_eq_true h.2
      unfold f_Words_numberOf_L8
      simp (disch := omega) only [fl, fmN, mm_lt, Nat.reduceAdd, Option.bind_some, lt_t, lt_f, le_t, le_f, eq_f, eq_self, nI_add, nI_mul, nI_sub, ↓reduceIte, ld_nI, st_ch_e i hi, g, lg_eq0, if_pos g2]
    · unfold f_Words_numberOf_L8
      simp (disch := omega) only [fl, fmN, mm_lt, Nat.reduceAdd, Option.bind_some, lt_t, lt_f, le_t, le_f, eq_f, eq_self, nI_add, nI_mul, nI_sub, ↓reduceIte]
  unfold f_Words_numberOf
  simp only [fl, fl64, fmN]
  rw [key, Option.bind_some]
  unfold rwd
  by_cases hf : fa_first p 92 < 92
  · rw [if_pos hf]
    have h1 := fa_first_yes p 92 hf
    rw [hpe, Bool.and_eq_true] at h1
    have g := of_decide_eq_true h1.1
    have g2 := of_decide_eq_true h1.2
    obtain ⟨b1, b2⟩ := nw_blank _ hf g
    rw [b2, l128_eq (wdl_ok _ b1) hl] at g2
    show some (nI (nwK (fa_first p 92))) = _
    have e9 : fd (fun k => decide (l = wdl k)) 17 = nI (nwK (fa_first p 92)) := by
      refine fd_at (p := fun k => decide (l = wdl k)) (n := 17) b1 (decide_eq_true g2.symm) (fun j hj => decide_eq_false (fun q => ?_))
      have := wdl_inj j (by omega) _ b1 (q.symm.trans g2.symm)
      omega
    rw [e9]
  · rw [if_neg hf]
    have h1 : ∀ i, i < 92 → p i = false := fun i hi => fa_first_no p 92 i (by have := fa_first_le p 92; omega)
    show some mN = _
    have e9 : fd (fun k => decide (l = wdl k)) 17 = mN := by
      refine fd_none (p := fun k => decide (l = wdl k)) (n := 17) (fun k hk => decide_eq_false (fun q => ?_))
      obtain ⟨b1, b2, b3⟩ := bps_e k hk
      have h9 := h1 _ b1
      rw [hpe, b3, q, decide_eq_true b2, decide_eq_true rfl] at h9
      cases h9
    rw [e9]
/-! .. and the reference's words -/
theorem shl8_or {w c : Nat} (hw : w < 2 ^ 48) (hc : c < 256) : (lN w <<< (Int32.toInt64 (nI 8) &&& 63)) ||| (nI c).toInt64 = lN (w * 256 + c) := by
  rw [nI_64 (a := c) (by omega)]
  apply Int64.toBitVec_inj.mp
  rw [Int64.toBitVec_or, Int64.toBitVec_shiftLeft]
  have e : ((Int32.toInt64 (nI 8) &&& 63).toBitVec.smod 64) = 8#64 := by decide +kernel
  rw [e]
  apply BitVec.eq_of_toNat_eq
  have t : ∀ n : Nat, (lN n).toBitVec.toNat = n % 2 ^ 64 := fun n => by
    show (BitVec.ofNat 64 n).toNat = _
    rw [BitVec.toNat_ofNat]
  rw [BitVec.toNat_or, t, t, BitVec.shiftLeft_eq', BitVec.toNat_shiftLeft, t]
  rw [Nat.mod_eq_of_lt (show w < 2 ^ 64 by omega), Nat.mod_eq_of_lt (show c < 2 ^ 64 by omega), Nat.mod_eq_of_lt (show w * 256 + c < 2 ^ 64 by omega)]
  show w <<< 8 % 2 ^ 64 ||| c = _
  rw [Nat.mod_eq_of_lt (by rw [Nat.shiftLeft_eq]; omega), ← Nat.shiftLeft_add_eq_or_of_lt (show c < 2 ^ 8 by omega), Nat.shiftLeft_eq]
theorem md_isW {k κ : Nat} {l : List Nat} {c : Nat} (hκ : κ < 5) (h1 : u.1 169 11 = nI κ) (hk : k < 17) (hc : c = e256 (wdl k)) (h2 : κ = 1 → okl l ∧ u.2 169 17 = lN (e256 l)) : f_Mod_isWord z u 169 (lN c) = some (if κ = 1 ∧ rwd l = nI k then nI 1 else nI 0) := by
  unfold f_Mod_isWord
  subst hc
  simp only [fl, h1]
  by_cases g : κ = 1
  · obtain ⟨hl, hw⟩ := h2 g
    subst g
    simp only [↓reduceIte, hw, lg_eq0, l256_eq hl (wdl_ok k hk), rwd_eq hk, true_and]
    split <;> rfl
  · simp (disch := omega) only [eq_f, g, false_and, ↓reduceIte]
theorem md_isN {κ : Nat} {l : List Nat} (hκ : κ < 5) (hN : ∀ k, k < 17 → u.2 175 k = lN (resv.getD k 0)) (h1 : u.1 169 11 = nI κ) (h2 : κ = 1 → okl l ∧ u.2 169 17 = lN (e256 l)) : f_Mod_isName z_Law u 169 = some (if κ = 1 ∧ rwd l = mN then nI 1 else nI 0) := by
  have key : ∀ b0 : Bool, (b0 = true → κ = 1) → f_Mod_isName_J13 z_Law u 169 (bI b0) = some (bI (fo (fun k b => b && !decide (l = wdl k)) 17 b0)) := by
    intro b0 hb0
    unfold f_Mod_isName_J13
    have e9 : ∀ b : Bool, mm_zb (bI b) = some (bI b) := fun b => by cases b <;> rfl
    have lp : mm_lp (f_Mod_isName_L16 z_Law u 169) (bI b0, nI 0) = some (bI (fo (fun k b => b && !decide (l = wdl k)) 17 b0)) := by
      refine lp_go (fun i => (bI (fo (fun k b => b && !decide (l = wdl k)) i b0), nI i)) 17 rfl (fun i hi => ?_) ?_
      · have z175 : z_Law 175 = 17 := rfl
        obtain ⟨b, hb⟩ : ∃ b, fo (fun k b => b && !decide (l = wdl k)) i b0 = b := ⟨_, rfl⟩
        have hbb : b = true → b0 = true := fun h => by
          rw [← hb] at h
          exact fo_inv (g := fun k b => b && !decide (l = wdl k)) (fun _ b => b = true → b0 = true) id (fun i x _ hx h => hx (by cases x; cases h; rfl)) h
        show _ = some (Sum.inl (bI (fo (fun k b => b && !decide (l = wdl k)) i b0 && !decide (l = wdl i)), nI (i + 1)))
        rw [hb]
        unfold f_Mod_isName_L16
        simp (disch := omega) only [fl, fmN, mm_lt, Nat.reduceAdd, Option.bind_some, lt_t, lt_f, le_t, le_f, eq_f, eq_self, nI_add, nI_mul, nI_sub, ↓reduceIte, bI_0, z175, ldL_nI, hN i hi, resv_e i hi]
        cases b with
        | false => simp only [↓reduceIte, Bool.false_and]; rfl
        | true =>
          obtain ⟨hl, hw⟩ := h2 (hb0 (hbb rfl))
          simp only [hw, lg_eq0, l256_eq hl (wdl_ok i hi), Bool.true_and, Bool.true_eq_false, ↓reduceIte]
          by_cases g : l = wdl i
          · rw [if_pos g, decide_eq_true g]; rfl
          · rw [if_neg g, decide_eq_false g]; rfl
      · unfold f_Mod_isName_L16
        simp (disch := omega) only [fl, fmN, mm_lt, Nat.reduceAdd, Option.bind_some, lt_t, lt_f, le_t, le_f, eq_f, eq_self, nI_add, nI_mul, nI_sub, ↓reduceIte]
    rw [show (0 : Int32) = nI 0 from fl 0, lp, Option.bind_some, e9]
    rfl
  have hall : ∀ b0 : Bool, fo (fun k b => b && !decide (l = wdl k)) 17 b0 = (b0 && decide (rwd l = mN)) := by
    intro b0
    have h3 : ∀ n, (fo (fun k b => b && !decide (l = wdl k)) n b0 = true) ↔ (b0 = true ∧ ∀ k, k < n → l ≠ wdl k) := by
      intro n
      induction n with
      | zero => exact ⟨fun h => ⟨h, fun k hk => absurd hk (by omega)⟩, fun h => h.1⟩
      | succ n ih =>
        show (fo (fun k b => b && !decide (l = wdl k)) n b0 && !decide (l = wdl n)) = true ↔ _
        rw [Bool.and_eq_true, ih, Bool.not_eq_true', decide_eq_false_iff_not]
        constructor
        · rintro ⟨⟨h1, h2⟩, h3⟩
          refine ⟨h1, fun k hk => ?_⟩
          by_cases g2 : k = n
          · rw [g2]; exact h3
          · exact h2 k (by omega)
        · rintro ⟨h1, h2⟩
          exact ⟨⟨h1, fun k hk => h2 k (by omega)⟩, h2 n (by omega)⟩
    rw [Bool.eq_iff_iff, h3 17, Bool.and_eq_true, decide_eq_true_iff, rwd_no]
  unfold f_Mod_isName
  simp only [fl, h1]
  by_cases g : κ = 1
  · subst g
    simp only [↓reduceIte]
    have := key true (fun _ => rfl)
    rw [hall true, Bool.true_and] at this
    rw [show (nI 1 : Int32) = bI true from rfl, this]
    simp only [true_and]
    by_cases g2 : rwd l = mN
    · rw [decide_eq_true g2, if_pos g2]
    · rw [decide_eq_false g2, if_neg g2]; rfl
  · simp (disch := omega) only [eq_f, g, false_and, ↓reduceIte]
    have := key false (fun h => by cases h)
    rw [hall false, Bool.false_and] at this
    exact this
end WD
