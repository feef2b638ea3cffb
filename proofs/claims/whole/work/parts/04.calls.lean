/-! the models' words: loops without a bound, loads, stores, divisions that may fail -/
def mm_it {S R : Type} (body : S → Option (S ⊕ R)) : Nat → S → Option R
  | 0, _ => none
  | n + 1, s => match body s with
    | none => none
    | some (.inl s') => mm_it body n s'
    | some (.inr r) => some r
noncomputable def mm_lp {S R : Type} (body : S → Option (S ⊕ R)) (s : S) : Option R := @dite _ (∃ r n, mm_it body n s = some r) (Classical.propDecidable _) (fun h => some (Classical.choose h)) (fun _ => none)
theorem mm_it_det {S R : Type} {body : S → Option (S ⊕ R)} : ∀ (n m : Nat) (s : S) (r r' : R), mm_it body n s = some r → mm_it body m s = some r' → r = r' := by
  intro n
  induction n with
  | zero => intro m s r r' h; cases h
  | succ n ih =>
    intro m s r r' h h'
    cases m with
    | zero => cases h'
    | succ m =>
      unfold mm_it at h h'
      cases hb : body s with
      | none => rw [hb] at h; cases h
      | some q =>
        rw [hb] at h h'
        cases q with
        | inl s' => exact ih m s' r r' h h'
        | inr x => cases h; cases h'; rfl
theorem mm_lp_iff {S R : Type} {body : S → Option (S ⊕ R)} {s : S} {r : R} : mm_lp body s = some r ↔ ∃ n, mm_it body n s = some r := by
  unfold mm_lp
  by_cases h : ∃ r n, mm_it body n s = some r
  · rw [dif_pos h]
    obtain ⟨n, hn⟩ := Classical.choose_spec h
    constructor
    · intro e; cases e; exact ⟨n, hn⟩
    · rintro ⟨m, hm⟩; rw [mm_it_det n m s _ _ hn hm]
  · rw [dif_neg h]
    constructor
    · intro e; cases e
    · rintro ⟨m, hm⟩; exact absurd ⟨r, m, hm⟩ h
theorem mm_lp_step {S R : Type} {body : S → Option (S ⊕ R)} {s s' : S} (h : body s = some (.inl s')) : mm_lp body s = mm_lp body s' := by
  apply Option.ext
  intro r
  show mm_lp body s = some r ↔ mm_lp body s' = some r
  rw [mm_lp_iff, mm_lp_iff]
  constructor
  · rintro ⟨n, hn⟩
    cases n with
    | zero => cases hn
    | succ n => unfold mm_it at hn; rw [h] at hn; exact ⟨n, hn⟩
  · rintro ⟨n, hn⟩
    refine ⟨n + 1, ?_⟩
    unfold mm_it; rw [h]; exact hn
theorem mm_lp_done {S R : Type} {body : S → Option (S ⊕ R)} {s : S} {r : R} (h : body s = some (.inr r)) : mm_lp body s = some r := by
  rw [mm_lp_iff]
  refine ⟨1, ?_⟩
  unfold mm_it; rw [h]
theorem mm_lp_none {S R : Type} {body : S → Option (S ⊕ R)} {s : S} (h : body s = none) : mm_lp body s = none := by
  cases hr : mm_lp body s with
  | none => rfl
  | some r =>
    obtain ⟨n, hn⟩ := mm_lp_iff.mp hr
    cases n with
    | zero => cases hn
    | succ n => unfold mm_it at hn; rw [h] at hn; cases hn
theorem mm_rule {S R : Type} {body : S → Option (S ⊕ R)} {s : S} {r : R} (h : mm_lp body s = some r) {P : S → Prop} (step : ∀ s, (∀ s', body s = some (.inl s') → P s') → (∀ r', body s = some (.inr r') → r' = r) → (∃ q, body s = some q) → P s) : P s := by
  obtain ⟨n, hn⟩ := mm_lp_iff.mp h
  clear h
  induction n generalizing s with
  | zero => cases hn
  | succ n ih =>
    unfold mm_it at hn
    cases hb : body s with
    | none => rw [hb] at hn; cases hn
    | some q =>
      rw [hb] at hn
      refine step s (fun s' h' => ?_) (fun r' h' => ?_) ⟨q, hb⟩
      · rw [hb] at h'; cases h'; exact ih hn
      · rw [hb] at h'; cases h'; exact Option.some.inj hn
def mm_lt {α β : Type} (x : α) (f : α → β) : β := f x
def mm_ldI (f : Nat → Int32) (n : Nat) (i : Int32) : Option Int32 := if i < 0 ∨ n ≤ i.toNatClampNeg then none else some (f i.toNatClampNeg)
def mm_ldL (f : Nat → Int64) (n : Nat) (i : Int32) : Option Int64 := if i < 0 ∨ n ≤ i.toNatClampNeg then none else some (f i.toNatClampNeg)
def mm_stI (σ : Mm) (o n : Nat) (i v : Int32) : Option Mm := if i < 0 ∨ n ≤ i.toNatClampNeg then none else some (kI σ o i.toNatClampNeg v)
def mm_stL (σ : Mm) (o n : Nat) (i : Int32) (v : Int64) : Option Mm := if i < 0 ∨ n ≤ i.toNatClampNeg then none else some (kL σ o i.toNatClampNeg v)
def mm_idiv (x y : Int32) : Option Int32 := if y = 0 then none else some (x / y)
def mm_irem (x y : Int32) : Option Int32 := if y = 0 then none else some (x - x / y * y)
def mm_ldiv (x y : Int64) : Option Int64 := if y = 0 then none else some (x / y)
def mm_lrem (x y : Int64) : Option Int64 := if y = 0 then none else some (x - x / y * y)
def mm_zb (v : Int32) : Option Int32 := if v = 0 ∨ v = 1 then some v else none
theorem mx_bd {α β : Type} {x : Option α} {f : α → Option β} {r : β} (h : x.bind f = some r) : ∃ y, x = some y ∧ f y = some r := by
  cases x with
  | none => cases h
  | some y => exact ⟨y, rfl, h⟩
theorem mx_lt {α β : Type} {x : α} {f : α → Option β} {r : β} (h : mm_lt x f = some r) : ∃ y, y = x ∧ f y = some r := ⟨x, rfl, h⟩
theorem mx_sl {α β γ : Type} {f : α → γ} {g : β → γ} {a : α} {r : γ} (h : Sum.elim f g (.inl a) = r) : f a = r := h
theorem mx_sr {α β γ : Type} {f : α → γ} {g : β → γ} {b : β} {r : γ} (h : Sum.elim f g (.inr b) = r) : g b = r := h
theorem mx_t {α : Type} {c : Prop} [Decidable c] {x y : Option α} {r : α} (hc : c) (h : (if c then x else y) = some r) : x = some r := by rw [if_pos hc] at h; exact h
theorem mx_f {α : Type} {c : Prop} [Decidable c] {x y : Option α} {r : α} (hc : ¬ c) (h : (if c then x else y) = some r) : y = some r := by rw [if_neg hc] at h; exact h
theorem mx_ldI {f : Nat → Int32} {n : Nat} {i x : Int32} (h : mm_ldI f n i = some x) : vp_in i n ∧ x = f i.toNatClampNeg := by
  unfold mm_ldI at h
  by_cases hc : i < 0 ∨ n ≤ i.toNatClampNeg
  · rw [if_pos hc] at h; cases h
  · rw [if_neg hc] at h; exact ⟨hc, (Option.some.inj h).symm⟩
theorem mx_ldL {f : Nat → Int64} {n : Nat} {i : Int32} {x : Int64} (h : mm_ldL f n i = some x) : vp_in i n ∧ x = f i.toNatClampNeg := by
  unfold mm_ldL at h
  by_cases hc : i < 0 ∨ n ≤ i.toNatClampNeg
  · rw [if_pos hc] at h; cases h
  · rw [if_neg hc] at h; exact ⟨hc, (Option.some.inj h).symm⟩
theorem mx_stI {σ σ' : Mm} {o n : Nat} {i v : Int32} (h : mm_stI σ o n i v = some σ') : vp_in i n ∧ σ' = kI σ o i.toNatClampNeg v := by
  unfold mm_stI at h
  by_cases hc : i < 0 ∨ n ≤ i.toNatClampNeg
  · rw [if_pos hc] at h; cases h
  · rw [if_neg hc] at h; exact ⟨hc, (Option.some.inj h).symm⟩
theorem mx_stL {σ σ' : Mm} {o n : Nat} {i : Int32} {v : Int64} (h : mm_stL σ o n i v = some σ') : vp_in i n ∧ σ' = kL σ o i.toNatClampNeg v := by
  unfold mm_stL at h
  by_cases hc : i < 0 ∨ n ≤ i.toNatClampNeg
  · rw [if_pos hc] at h; cases h
  · rw [if_neg hc] at h; exact ⟨hc, (Option.some.inj h).symm⟩
theorem mx_idiv {x y r : Int32} (h : mm_idiv x y = some r) : ¬ y = 0 ∧ r = x / y := by
  unfold mm_idiv at h
  by_cases hc : y = 0
  · rw [if_pos hc] at h; cases h
  · rw [if_neg hc] at h; exact ⟨hc, (Option.some.inj h).symm⟩
theorem mx_irem {x y r : Int32} (h : mm_irem x y = some r) : ¬ y = 0 ∧ r = x - x / y * y := by
  unfold mm_irem at h
  by_cases hc : y = 0
  · rw [if_pos hc] at h; cases h
  · rw [if_neg hc] at h; exact ⟨hc, (Option.some.inj h).symm⟩
theorem mx_ldiv {x y r : Int64} (h : mm_ldiv x y = some r) : ¬ y = 0 ∧ r = x / y := by
  unfold mm_ldiv at h
  by_cases hc : y = 0
  · rw [if_pos hc] at h; cases h
  · rw [if_neg hc] at h; exact ⟨hc, (Option.some.inj h).symm⟩
theorem mx_lrem {x y r : Int64} (h : mm_lrem x y = some r) : ¬ y = 0 ∧ r = x - x / y * y := by
  unfold mm_lrem at h
  by_cases hc : y = 0
  · rw [if_pos hc] at h; cases h
  · rw [if_neg hc] at h; exact ⟨hc, (Option.some.inj h).symm⟩
theorem mx_zb {v r : Int32} (h : mm_zb v = some r) : (r = 0 ∨ r = 1) ∧ r = v := by
  unfold mm_zb at h
  by_cases hc : v = 0 ∨ v = 1
  · rw [if_pos hc] at h; have e := Option.some.inj h; exact ⟨by rw [← e]; exact hc, e.symm⟩
  · rw [if_neg hc] at h; cases h
/-! contracts: from any heap that holds σ the method returns its model's answer, and the heap holds its model's memory -/
def WP (L : Ly) (σ : Mm) (U : State) : Prop := va_P L.1 cl_all (wl L σ) U.heap ∧ va_K L.1 cl_all (ly_t L) U ∧ va_D (fun _ => True) (wl L σ) ∧ tb_ok U ∧ st_ok L (va_A (wl L σ) U.heap.size) U U.heap
def ct_P (L : Ly) (As : List Value) (σ : Mm) (sz : Nat) : Array Value → State → Prop := va_Pc As (fun U => U.heap.size = sz ∧ WP L σ U)
def CtI (l : Launch) (y : MethodName) (cc : ByteArray) (nL : Nat) (ret : Option FieldType) (rm : Room) (L : Ly) (As : List Value) (σ : Mm) (r : Int32) (σ' : Mm) : Prop :=
  ∀ sz, Met l y (Cond.code y cc nL ret :: tb_G) rm (ct_P L As σ sz) (va_Qi (fun r' (_ : Unit) => r' = r) (fun _ t => va_P L.1 cl_all (wl L σ') t.heap) (va_A (wl L σ) sz)) 0 0 (va_A (wl L σ) sz)
def CtL (l : Launch) (y : MethodName) (cc : ByteArray) (nL : Nat) (ret : Option FieldType) (rm : Room) (L : Ly) (As : List Value) (σ : Mm) (r : Int64) (σ' : Mm) : Prop :=
  ∀ sz, Met l y (Cond.code y cc nL ret :: tb_G) rm (ct_P L As σ sz) (va_Ql (fun r' (_ : Unit) => r' = r) (fun _ t => va_P L.1 cl_all (wl L σ') t.heap) (va_A (wl L σ) sz)) 0 0 (va_A (wl L σ) sz)
def CtV (l : Launch) (y : MethodName) (cc : ByteArray) (nL : Nat) (ret : Option FieldType) (rm : Room) (L : Ly) (As : List Value) (σ : Mm) (σ' : Mm) : Prop :=
  ∀ sz, Met l y (Cond.code y cc nL ret :: tb_G) rm (ct_P L As σ sz) (va_Qv (fun (_ : Unit) => True) (fun _ t => va_P L.1 cl_all (wl L σ') t.heap) (va_A (wl L σ) sz)) 0 0 (va_A (wl L σ) sz)
def EnI (E : Fx) (L : Ly) (A : Nat → Prop) (cc : ByteArray) (nL : Nat) (Q : State → Prop) (r : Int32) (σ' : Mm) : Prop := ∀ pc lv, decode cc pc = .ok (.ireturn, 1) → GW E L A nL 0 0 Q σ' pc lv [.int r]
def EnZ (E : Fx) (L : Ly) (A : Nat → Prop) (cc : ByteArray) (nL : Nat) (Q : State → Prop) (r : Int32) (σ' : Mm) : Prop := ∀ pc lv, (r = 0 ∨ r = 1) → decode cc pc = .ok (.ireturn, 1) → GW E L A nL 0 0 Q σ' pc lv [.int r]
def EnL (E : Fx) (L : Ly) (A : Nat → Prop) (cc : ByteArray) (nL : Nat) (Q : State → Prop) (r : Int64) (σ' : Mm) : Prop := ∀ pc lv, decode cc pc = .ok (.lreturn, 1) → GW E L A nL 0 0 Q σ' pc lv [.long r]
def EnV (E : Fx) (L : Ly) (A : Nat → Prop) (cc : ByteArray) (nL : Nat) (Q : State → Prop) (σ' : Mm) : Prop := ∀ pc lv, decode cc pc = .ok (.return_, 1) → GW E L A nL 0 0 Q σ' pc lv []
theorem wl_inj {L : Ly} {σ : Mm} {A : Nat → Prop} (h : va_D A (wl L σ)) : ∀ i j, i < ly_n L → j < ly_n L → ly_a L i = ly_a L j → i = j := fun i j hi hj e => h.1 i j _ _ (wl_at L σ hi) (wl_at L σ hj) e
theorem wl_D {L : Ly} {σ σ' : Mm} (h : va_D (fun _ => True) (wl L σ)) : va_D (fun _ => True) (wl L σ') := by
  have hi := wl_inj h
  refine ⟨fun i j p q h1 h2 e => ?_, fun _ _ _ => trivial⟩
  have li : i < ly_n L := by have := (List.getElem?_eq_some_iff.mp h1).1; simpa [wl] using this
  have lj : j < ly_n L := by have := (List.getElem?_eq_some_iff.mp h2).1; simpa [wl] using this
  rw [wl_at L _ li] at h1
  rw [wl_at L _ lj] at h2
  cases h1; cases h2
  exact hi i j li lj e

theorem ct_i {l : Launch} {y : MethodName} {cc : ByteArray} {nL : Nat} {rm : Room} {L : Ly} {As : List Value} {σ σ' : Mm} {r : Int32} (hg : gd_ok L) (hy : plainName y.cls = true) (hlen : (lg_sl As).length ≤ nL) (body : ∀ (E : Fx) (A : Nat → Prop) (Q : State → Prop), fx_l E = l → Cx E L A cc nL y.cls (some .int) rm → EnI E L A cc nL Q r σ' → GW E L A nL 0 0 Q σ 0 (lv_args 0 As) []) : CtI l y cc nL (some .int) rm L As σ r σ' := by
  intro sz
  refine Met.ofW (cc := cc) (maxL := nL) (ret := some .int) hy rfl ?_
  intro p e s m args below meth c s₁ B hml hv
  obtain ⟨rfl, hsz, hP, hK, hD0, hN, hT0⟩ := hv
  have hts := atoms_spec (ws := Cond.code y cc nL (some .int) :: tb_G) B.pre
  subst hsz
  rw [lg_entry_eq]
  have hl := lv_entry As (n := nL) hlen
  let E : Fx := (p, l, e, (headSpec (Cond.code y cc nL (some .int) :: tb_G) rm).room, s, m, As.toArray, below, meth, c)
  have C : Cx E L (va_A (wl L σ) s.heap.size) cc nL y.cls (some .int) rm := ⟨B.exec, B.bytes, hml, findClass_of_methodNamed B.named, fun w hw => hts w (List.mem_cons_of_mem _ hw), hN, hK, hg, wl_inj hD0, fun o ho => va_A.in (wl_at L σ ho), fun q hq => Or.inr hq, rfl, B.notSynchronized, B.returns, hT0⟩
  refine body E (va_A (wl L σ) s.heap.size) (MQ below _ As.toArray s 0 0 _) rfl C ?_ s.heap [] _ hP va_S.rf hl
  intro pc lv  d H locs ls hP9 hS9 hl9
  exact W.iret (cx_x C) (cx_c C) (cx_r C) (fun t ht hW => ⟨⟨_, (), rfl, rfl, by subst ht; exact hP9⟩, hS9.F ht⟩) hS9.2.2 d B.notSynchronized

theorem ct_z {l : Launch} {y : MethodName} {cc : ByteArray} {nL : Nat} {rm : Room} {L : Ly} {As : List Value} {σ σ' : Mm} {r : Int32} (hg : gd_ok L) (hy : plainName y.cls = true) (hlen : (lg_sl As).length ≤ nL) (body : ∀ (E : Fx) (A : Nat → Prop) (Q : State → Prop), fx_l E = l → Cx E L A cc nL y.cls (some .boolean) rm → EnZ E L A cc nL Q r σ' → GW E L A nL 0 0 Q σ 0 (lv_args 0 As) []) : CtI l y cc nL (some .boolean) rm L As σ r σ' := by
  intro sz
  refine Met.ofW (cc := cc) (maxL := nL) (ret := some .boolean) hy rfl ?_
  intro p e s m args below meth c s₁ B hml hv
  obtain ⟨rfl, hsz, hP, hK, hD0, hN, hT0⟩ := hv
  have hts := atoms_spec (ws := Cond.code y cc nL (some .boolean) :: tb_G) B.pre
  subst hsz
  rw [lg_entry_eq]
  have hl := lv_entry As (n := nL) hlen
  let E : Fx := (p, l, e, (headSpec (Cond.code y cc nL (some .boolean) :: tb_G) rm).room, s, m, As.toArray, below, meth, c)
  have C : Cx E L (va_A (wl L σ) s.heap.size) cc nL y.cls (some .boolean) rm := ⟨B.exec, B.bytes, hml, findClass_of_methodNamed B.named, fun w hw => hts w (List.mem_cons_of_mem _ hw), hN, hK, hg, wl_inj hD0, fun o ho => va_A.in (wl_at L σ ho), fun q hq => Or.inr hq, rfl, B.notSynchronized, B.returns, hT0⟩
  refine body E (va_A (wl L σ) s.heap.size) (MQ below _ As.toArray s 0 0 _) rfl C ?_ s.heap [] _ hP va_S.rf hl
  intro pc lv hz d H locs ls hP9 hS9 hl9
  exact W.zret (cx_x C) (cx_c C) (cx_r C) (by rcases hz with rfl | rfl <;> rfl) (fun t ht hW => ⟨⟨_, (), rfl, rfl, by subst ht; exact hP9⟩, hS9.F ht⟩) hS9.2.2 d B.notSynchronized

theorem ct_l {l : Launch} {y : MethodName} {cc : ByteArray} {nL : Nat} {rm : Room} {L : Ly} {As : List Value} {σ σ' : Mm} {r : Int64} (hg : gd_ok L) (hy : plainName y.cls = true) (hlen : (lg_sl As).length ≤ nL) (body : ∀ (E : Fx) (A : Nat → Prop) (Q : State → Prop), fx_l E = l → Cx E L A cc nL y.cls (some .long) rm → EnL E L A cc nL Q r σ' → GW E L A nL 0 0 Q σ 0 (lv_args 0 As) []) : CtL l y cc nL (some .long) rm L As σ r σ' := by
  intro sz
  refine Met.ofW (cc := cc) (maxL := nL) (ret := some .long) hy rfl ?_
  intro p e s m args below meth c s₁ B hml hv
  obtain ⟨rfl, hsz, hP, hK, hD0, hN, hT0⟩ := hv
  have hts := atoms_spec (ws := Cond.code y cc nL (some .long) :: tb_G) B.pre
  subst hsz
  rw [lg_entry_eq]
  have hl := lv_entry As (n := nL) hlen
  let E : Fx := (p, l, e, (headSpec (Cond.code y cc nL (some .long) :: tb_G) rm).room, s, m, As.toArray, below, meth, c)
  have C : Cx E L (va_A (wl L σ) s.heap.size) cc nL y.cls (some .long) rm := ⟨B.exec, B.bytes, hml, findClass_of_methodNamed B.named, fun w hw => hts w (List.mem_cons_of_mem _ hw), hN, hK, hg, wl_inj hD0, fun o ho => va_A.in (wl_at L σ ho), fun q hq => Or.inr hq, rfl, B.notSynchronized, B.returns, hT0⟩
  refine body E (va_A (wl L σ) s.heap.size) (MQ below _ As.toArray s 0 0 _) rfl C ?_ s.heap [] _ hP va_S.rf hl
  intro pc lv  d H locs ls hP9 hS9 hl9
  exact W.lret (cx_x C) (cx_c C) (cx_r C) (fun t ht hW => ⟨⟨_, (), rfl, rfl, by subst ht; exact hP9⟩, hS9.F ht⟩) hS9.2.2 d B.notSynchronized

theorem ct_v {l : Launch} {y : MethodName} {cc : ByteArray} {nL : Nat} {rm : Room} {L : Ly} {As : List Value} {σ σ' : Mm}  (hg : gd_ok L) (hy : plainName y.cls = true) (hlen : (lg_sl As).length ≤ nL) (body : ∀ (E : Fx) (A : Nat → Prop) (Q : State → Prop), fx_l E = l → Cx E L A cc nL y.cls (none) rm → EnV E L A cc nL Q  σ' → GW E L A nL 0 0 Q σ 0 (lv_args 0 As) []) : CtV l y cc nL (none) rm L As σ  σ' := by
  intro sz
  refine Met.ofW (cc := cc) (maxL := nL) (ret := none) hy rfl ?_
  intro p e s m args below meth c s₁ B hml hv
  obtain ⟨rfl, hsz, hP, hK, hD0, hN, hT0⟩ := hv
  have hts := atoms_spec (ws := Cond.code y cc nL (none) :: tb_G) B.pre
  subst hsz
  rw [lg_entry_eq]
  have hl := lv_entry As (n := nL) hlen
  let E : Fx := (p, l, e, (headSpec (Cond.code y cc nL (none) :: tb_G) rm).room, s, m, As.toArray, below, meth, c)
  have C : Cx E L (va_A (wl L σ) s.heap.size) cc nL y.cls (none) rm := ⟨B.exec, B.bytes, hml, findClass_of_methodNamed B.named, fun w hw => hts w (List.mem_cons_of_mem _ hw), hN, hK, hg, wl_inj hD0, fun o ho => va_A.in (wl_at L σ ho), fun q hq => Or.inr hq, rfl, B.notSynchronized, B.returns, hT0⟩
  refine body E (va_A (wl L σ) s.heap.size) (MQ below _ As.toArray s 0 0 _) rfl C ?_ s.heap [] _ hP va_S.rf hl
  intro pc lv  d H locs ls hP9 hS9 hl9
  exact W.vret (cx_x C) (cx_c C) (cx_r C) (fun t ht hW => ⟨⟨(), rfl, trivial, by subst ht; exact hP9⟩, hS9.F ht⟩) hS9.2.2 d B.notSynchronized

section EN
variable {E : Fx} {L : Ly} {A : Nat → Prop} {cc : ByteArray} {nL : Nat} {Q : State → Prop} {σ σ0 : Mm} {pc : Nat} {lv : List (Nat × Value)}
theorem en_i {r0 : Int32} {res : Int32 × Mm} (h : EnI E L A cc nL Q res.1 res.2) (hf : some (r0, σ0) = some res) (d : decode cc pc = .ok (.ireturn, 1)) : GW E L A nL 0 0 Q σ0 pc lv [.int r0] := by cases hf; exact h pc lv d
theorem en_ip {r0 res : Int32} (h : EnI E L A cc nL Q res σ) (hf : some r0 = some res) (d : decode cc pc = .ok (.ireturn, 1)) : GW E L A nL 0 0 Q σ pc lv [.int r0] := by cases hf; exact h pc lv d
theorem en_z {r0 : Int32} {res : Int32 × Mm} (h : EnZ E L A cc nL Q res.1 res.2) (hz : r0 = 0 ∨ r0 = 1) (hf : some (r0, σ0) = some res) (d : decode cc pc = .ok (.ireturn, 1)) : GW E L A nL 0 0 Q σ0 pc lv [.int r0] := by cases hf; exact h pc lv hz d
theorem en_zp {r0 res : Int32} (h : EnZ E L A cc nL Q res σ) (hz : r0 = 0 ∨ r0 = 1) (hf : some r0 = some res) (d : decode cc pc = .ok (.ireturn, 1)) : GW E L A nL 0 0 Q σ pc lv [.int r0] := by cases hf; exact h pc lv hz d
theorem en_l {r0 : Int64} {res : Int64 × Mm} (h : EnL E L A cc nL Q res.1 res.2) (hf : some (r0, σ0) = some res) (d : decode cc pc = .ok (.lreturn, 1)) : GW E L A nL 0 0 Q σ0 pc lv [.long r0] := by cases hf; exact h pc lv d
theorem en_lp {r0 res : Int64} (h : EnL E L A cc nL Q res σ) (hf : some r0 = some res) (d : decode cc pc = .ok (.lreturn, 1)) : GW E L A nL 0 0 Q σ pc lv [.long r0] := by cases hf; exact h pc lv d
theorem en_v {res : Mm} (h : EnV E L A cc nL Q res) (hf : some σ0 = some res) (d : decode cc pc = .ok (.return_, 1)) : GW E L A nL 0 0 Q σ0 pc lv [] := by cases hf; exact h pc lv d
end EN
theorem tb_good {ws : List Cond} (h : ∀ w ∈ ws, w ∈ tb_G) : GoodIn tb_G ws := fun w hw => ⟨h w hw, good_of_word (List.mem_filter.mp (h w hw)).2⟩
theorem ct_blind {L : Ly} {As : List Value} {σ : Mm} {sz : Nat} : FrameBlind (ct_P L As σ sz) := fun x U g mk q => ⟨q.1, q.2.1, q.2.2.1, va_K.moved (u := U) (U := U.calling g mk x) (Vm.Alike.refl U.vm) q.2.2.2.1, q.2.2.2.2.1, tb_ok_vm (s := U) (U := U.calling g mk x) rfl q.2.2.2.2.2.1, st_same (s := U) (U := U.calling g mk x) rfl q.2.2.2.2.2.2⟩
section CALLS
variable {E : Fx} {L : Ly} {A : Nat → Prop} {cc : ByteArray} {nL cs sl : Nat} {own : String} {ret : Option FieldType} {rm : Room} {Q : State → Prop} {σ σ' : Mm} {pc : Nat} {lv : List (Nat × Value)} {st st0 : List Value}
theorem gw_frA (C : Cx E L A cc nL own ret rm) {H : Heap} {locs : List Loc} (hS : va_S A (fx_s E).heap H locs) : ∀ q, va_A (wl L σ) H.size q → A q := by
  intro q h
  rcases h with ⟨k, e, h⟩ | h
  · exact (cx_D C σ).2 k (q, e) h
  · exact cx_B C q (Nat.le_trans hS.1 h)
theorem gw_pre (C : Cx E L A cc nL own ret rm) {H : Heap} {locs : List Loc} {As : List Value} (hP : va_P L.1 cl_all (wl L σ) H) (hS : va_S A (fx_s E).heap H locs) : ∀ U : State, U.heap = H → (fx_s E).WarmedH U.vm → ct_P L As σ H.size As.toArray U := by
  intro U hU hW
  subst hU
  exact ⟨rfl, rfl, hP, va_K.moved hW.alike (cx_K C), (cx_D C σ).weaken (fun _ _ _ _ => trivial), tb_ok_warm hW (cx_N C), st_warm hW (st_narrow (st_kept (cx_S C) hS.2.1) (gw_frA (σ := σ) C hS))⟩

theorem gw_callI {y : MethodName} {cy : ByteArray} {ny i o K N : Nat} {ry : Option FieldType} {rmy : Room} {As : List Value} {T : u_T} {r : Int32} (C : Cx E L A cc nL own ret rm) (hM : CtI (fx_l E) y cy ny ry rmy L (.ref (ly_a L o) :: As) σ r σ') (d : decode cc pc = .ok (.invokevirtual i, 3)) (n : Nat) (hw1 : Cond.methodLink own i y ∈ tb_G) (hw2 : Cond.instanceMethod y ∈ tb_G) (hw3 : Cond.selects y.cls y y ∈ tb_G) (hw4 : Cond.initialized y.cls ∈ tb_G) (hw5 : Cond.code y cy ny ry ∈ tb_G) (hk : ly_k L o = K) (hK : K < 20) (hc : cl_all[K]? = some (y.cls, T, N)) (hd : y.cls ≠ "java/lang/invoke/MethodHandle" ∧ y.cls ≠ "java/lang/invoke/VarHandle" ∧ (parseMethodDescriptor y.desc).map (fun d => d.parameters.length) = some n) (hn : As.length = n) (hst : st0 = As.reverse ++ .ref (ly_a L o) :: st) (hsm : (st.map fun v => v.category).sum ≤ 8) (hrm : rmy.cells = 0 ∧ rmy.slots = 0 ∧ rmy.frames + 1 ≤ rm.frames ∧ 8 + (ny + 11) + rmy.locals ≤ rm.locals) (hcs : cs ≤ rm.cells ∧ sl ≤ rm.slots) (k : GW E L A nL cs sl Q σ' (pc + 3) lv (.int r :: st)) : GW E L A nL cs sl Q σ pc lv st0 := by
  intro H locs ls hP hS hl
  subst hst
  have hF := gw_frA (σ := σ) C hS
  have hG : GoodIn tb_G (Cond.code y cy ny ry :: tb_G) := tb_good (fun w hw => by rcases List.mem_cons.mp hw with rfl | h; exact hw5; exact h)
  have he := wl_at L σ (gd_lt (cx_g C) hk (by omega))
  rw [hk, cl_obj hK] at he
  refine va_calli (va_runV (As := As) (rest := st) ⟨cx_x C, cx_c C, cx_n C, cx_o C, cx_w C⟩ (hM H.size) ⟨callB_of n (cx_w C) hG rfl hrm.1 hrm.2.1 (cx_w C _ hw4) (cx_w C _ hw1) hd (by rw [cx_R C]; exact hrm.2.2), cx_w C _ hw2, cx_w C _ hw3⟩ ⟨ct_blind, va_recv (cx_K C) hP hc he, gw_pre C hP hS⟩ rfl hn hl.1 rfl (lv_room hsm) d (by rw [cx_R C]; exact hcs)) hS (fun q _ h => hF q h) hF (fun r1 u t H1 l1 ht hvm hp hB hz hkk hS1 => ?_)
  subst hp
  exact k H1 l1 ls (by rw [← ht]; exact hB) hS1 hl
theorem gw_callIS {y : MethodName} {cy : ByteArray} {ny i : Nat} {ry : Option FieldType} {rmy : Room} {As : List Value} {r : Int32} (C : Cx E L A cc nL own ret rm) (hM : CtI (fx_l E) y cy ny ry rmy L As σ r σ') (d : decode cc pc = .ok (.invokestatic i, 3)) (n : Nat) (hw1 : Cond.methodLink own i y ∈ tb_G) (hw2 : Cond.static y ∈ tb_G) (hw4 : Cond.initialized y.cls ∈ tb_G) (hw5 : Cond.code y cy ny ry ∈ tb_G) (hd : y.cls ≠ "java/lang/invoke/MethodHandle" ∧ y.cls ≠ "java/lang/invoke/VarHandle" ∧ (parseMethodDescriptor y.desc).map (fun d => d.parameters.length) = some n) (hn : As.length = n) (hst : st0 = As.reverse ++ st) (hsm : (st.map fun v => v.category).sum ≤ 8) (hrm : rmy.cells = 0 ∧ rmy.slots = 0 ∧ rmy.frames + 1 ≤ rm.frames ∧ 8 + (ny + 11) + rmy.locals ≤ rm.locals) (hcs : cs ≤ rm.cells ∧ sl ≤ rm.slots) (k : GW E L A nL cs sl Q σ' (pc + 3) lv (.int r :: st)) : GW E L A nL cs sl Q σ pc lv st0 := by
  intro H locs ls hP hS hl
  subst hst
  have hF := gw_frA (σ := σ) C hS
  have hG : GoodIn tb_G (Cond.code y cy ny ry :: tb_G) := tb_good (fun w hw => by rcases List.mem_cons.mp hw with rfl | h; exact hw5; exact h)
  refine va_calli (va_runS (As := As) (rest := st) ⟨cx_x C, cx_c C, cx_n C, cx_o C, cx_w C⟩ (hM H.size) ⟨callB_of n (cx_w C) hG rfl hrm.1 hrm.2.1 (cx_w C _ hw4) (cx_w C _ hw1) hd (by rw [cx_R C]; exact hrm.2.2), cx_w C _ hw2⟩ ⟨ct_blind, gw_pre C hP hS⟩ rfl hn hl.1 rfl (lv_room hsm) d (by rw [cx_R C]; exact hcs)) hS (fun q _ h => hF q h) hF (fun r1 u t H1 l1 ht hvm hp hB hz hkk hS1 => ?_)
  subst hp
  exact k H1 l1 ls (by rw [← ht]; exact hB) hS1 hl
theorem gw_callL {y : MethodName} {cy : ByteArray} {ny i o K N : Nat} {ry : Option FieldType} {rmy : Room} {As : List Value} {T : u_T} {r : Int64} (C : Cx E L A cc nL own ret rm) (hM : CtL (fx_l E) y cy ny ry rmy L (.ref (ly_a L o) :: As) σ r σ') (d : decode cc pc = .ok (.invokevirtual i, 3)) (n : Nat) (hw1 : Cond.methodLink own i y ∈ tb_G) (hw2 : Cond.instanceMethod y ∈ tb_G) (hw3 : Cond.selects y.cls y y ∈ tb_G) (hw4 : Cond.initialized y.cls ∈ tb_G) (hw5 : Cond.code y cy ny ry ∈ tb_G) (hk : ly_k L o = K) (hK : K < 20) (hc : cl_all[K]? = some (y.cls, T, N)) (hd : y.cls ≠ "java/lang/invoke/MethodHandle" ∧ y.cls ≠ "java/lang/invoke/VarHandle" ∧ (parseMethodDescriptor y.desc).map (fun d => d.parameters.length) = some n) (hn : As.length = n) (hst : st0 = As.reverse ++ .ref (ly_a L o) :: st) (hsm : (st.map fun v => v.category).sum ≤ 8) (hrm : rmy.cells = 0 ∧ rmy.slots = 0 ∧ rmy.frames + 1 ≤ rm.frames ∧ 8 + (ny + 11) + rmy.locals ≤ rm.locals) (hcs : cs ≤ rm.cells ∧ sl ≤ rm.slots) (k : GW E L A nL cs sl Q σ' (pc + 3) lv (.long r :: st)) : GW E L A nL cs sl Q σ pc lv st0 := by
  intro H locs ls hP hS hl
  subst hst
  have hF := gw_frA (σ := σ) C hS
  have hG : GoodIn tb_G (Cond.code y cy ny ry :: tb_G) := tb_good (fun w hw => by rcases List.mem_cons.mp hw with rfl | h; exact hw5; exact h)
  have he := wl_at L σ (gd_lt (cx_g C) hk (by omega))
  rw [hk, cl_obj hK] at he
  refine va_calll (va_runV (As := As) (rest := st) ⟨cx_x C, cx_c C, cx_n C, cx_o C, cx_w C⟩ (hM H.size) ⟨callB_of n (cx_w C) hG rfl hrm.1 hrm.2.1 (cx_w C _ hw4) (cx_w C _ hw1) hd (by rw [cx_R C]; exact hrm.2.2), cx_w C _ hw2, cx_w C _ hw3⟩ ⟨ct_blind, va_recv (cx_K C) hP hc he, gw_pre C hP hS⟩ rfl hn hl.1 rfl (lv_room hsm) d (by rw [cx_R C]; exact hcs)) hS (fun q _ h => hF q h) hF (fun r1 u t H1 l1 ht hvm hp hB hz hkk hS1 => ?_)
  subst hp
  exact k H1 l1 ls (by rw [← ht]; exact hB) hS1 hl
theorem gw_callLS {y : MethodName} {cy : ByteArray} {ny i : Nat} {ry : Option FieldType} {rmy : Room} {As : List Value} {r : Int64} (C : Cx E L A cc nL own ret rm) (hM : CtL (fx_l E) y cy ny ry rmy L As σ r σ') (d : decode cc pc = .ok (.invokestatic i, 3)) (n : Nat) (hw1 : Cond.methodLink own i y ∈ tb_G) (hw2 : Cond.static y ∈ tb_G) (hw4 : Cond.initialized y.cls ∈ tb_G) (hw5 : Cond.code y cy ny ry ∈ tb_G) (hd : y.cls ≠ "java/lang/invoke/MethodHandle" ∧ y.cls ≠ "java/lang/invoke/VarHandle" ∧ (parseMethodDescriptor y.desc).map (fun d => d.parameters.length) = some n) (hn : As.length = n) (hst : st0 = As.reverse ++ st) (hsm : (st.map fun v => v.category).sum ≤ 8) (hrm : rmy.cells = 0 ∧ rmy.slots = 0 ∧ rmy.frames + 1 ≤ rm.frames ∧ 8 + (ny + 11) + rmy.locals ≤ rm.locals) (hcs : cs ≤ rm.cells ∧ sl ≤ rm.slots) (k : GW E L A nL cs sl Q σ' (pc + 3) lv (.long r :: st)) : GW E L A nL cs sl Q σ pc lv st0 := by
  intro H locs ls hP hS hl
  subst hst
  have hF := gw_frA (σ := σ) C hS
  have hG : GoodIn tb_G (Cond.code y cy ny ry :: tb_G) := tb_good (fun w hw => by rcases List.mem_cons.mp hw with rfl | h; exact hw5; exact h)
  refine va_calll (va_runS (As := As) (rest := st) ⟨cx_x C, cx_c C, cx_n C, cx_o C, cx_w C⟩ (hM H.size) ⟨callB_of n (cx_w C) hG rfl hrm.1 hrm.2.1 (cx_w C _ hw4) (cx_w C _ hw1) hd (by rw [cx_R C]; exact hrm.2.2), cx_w C _ hw2⟩ ⟨ct_blind, gw_pre C hP hS⟩ rfl hn hl.1 rfl (lv_room hsm) d (by rw [cx_R C]; exact hcs)) hS (fun q _ h => hF q h) hF (fun r1 u t H1 l1 ht hvm hp hB hz hkk hS1 => ?_)
  subst hp
  exact k H1 l1 ls (by rw [← ht]; exact hB) hS1 hl
theorem gw_callV {y : MethodName} {cy : ByteArray} {ny i o K N : Nat} {ry : Option FieldType} {rmy : Room} {As : List Value} {T : u_T}  (C : Cx E L A cc nL own ret rm) (hM : CtV (fx_l E) y cy ny ry rmy L (.ref (ly_a L o) :: As) σ  σ') (d : decode cc pc = .ok (.invokevirtual i, 3)) (n : Nat) (hw1 : Cond.methodLink own i y ∈ tb_G) (hw2 : Cond.instanceMethod y ∈ tb_G) (hw3 : Cond.selects y.cls y y ∈ tb_G) (hw4 : Cond.initialized y.cls ∈ tb_G) (hw5 : Cond.code y cy ny ry ∈ tb_G) (hk : ly_k L o = K) (hK : K < 20) (hc : cl_all[K]? = some (y.cls, T, N)) (hd : y.cls ≠ "java/lang/invoke/MethodHandle" ∧ y.cls ≠ "java/lang/invoke/VarHandle" ∧ (parseMethodDescriptor y.desc).map (fun d => d.parameters.length) = some n) (hn : As.length = n) (hst : st0 = As.reverse ++ .ref (ly_a L o) :: st) (hsm : (st.map fun v => v.category).sum ≤ 8) (hrm : rmy.cells = 0 ∧ rmy.slots = 0 ∧ rmy.frames + 1 ≤ rm.frames ∧ 8 + (ny + 11) + rmy.locals ≤ rm.locals) (hcs : cs ≤ rm.cells ∧ sl ≤ rm.slots) (k : GW E L A nL cs sl Q σ' (pc + 3) lv (st)) : GW E L A nL cs sl Q σ pc lv st0 := by
  intro H locs ls hP hS hl
  subst hst
  have hF := gw_frA (σ := σ) C hS
  have hG : GoodIn tb_G (Cond.code y cy ny ry :: tb_G) := tb_good (fun w hw => by rcases List.mem_cons.mp hw with rfl | h; exact hw5; exact h)
  have he := wl_at L σ (gd_lt (cx_g C) hk (by omega))
  rw [hk, cl_obj hK] at he
  refine va_callv (va_runV (As := As) (rest := st) ⟨cx_x C, cx_c C, cx_n C, cx_o C, cx_w C⟩ (hM H.size) ⟨callB_of n (cx_w C) hG rfl hrm.1 hrm.2.1 (cx_w C _ hw4) (cx_w C _ hw1) hd (by rw [cx_R C]; exact hrm.2.2), cx_w C _ hw2, cx_w C _ hw3⟩ ⟨ct_blind, va_recv (cx_K C) hP hc he, gw_pre C hP hS⟩ rfl hn hl.1 rfl (lv_room hsm) d (by rw [cx_R C]; exact hcs)) hS (fun q _ h => hF q h) hF (fun u t H1 l1 ht hvm hp hB hz hkk hS1 => ?_)
  exact k H1 l1 ls (by rw [← ht]; exact hB) hS1 hl
theorem gw_callVS {y : MethodName} {cy : ByteArray} {ny i : Nat} {ry : Option FieldType} {rmy : Room} {As : List Value}  (C : Cx E L A cc nL own ret rm) (hM : CtV (fx_l E) y cy ny ry rmy L As σ  σ') (d : decode cc pc = .ok (.invokestatic i, 3)) (n : Nat) (hw1 : Cond.methodLink own i y ∈ tb_G) (hw2 : Cond.static y ∈ tb_G) (hw4 : Cond.initialized y.cls ∈ tb_G) (hw5 : Cond.code y cy ny ry ∈ tb_G) (hd : y.cls ≠ "java/lang/invoke/MethodHandle" ∧ y.cls ≠ "java/lang/invoke/VarHandle" ∧ (parseMethodDescriptor y.desc).map (fun d => d.parameters.length) = some n) (hn : As.length = n) (hst : st0 = As.reverse ++ st) (hsm : (st.map fun v => v.category).sum ≤ 8) (hrm : rmy.cells = 0 ∧ rmy.slots = 0 ∧ rmy.frames + 1 ≤ rm.frames ∧ 8 + (ny + 11) + rmy.locals ≤ rm.locals) (hcs : cs ≤ rm.cells ∧ sl ≤ rm.slots) (k : GW E L A nL cs sl Q σ' (pc + 3) lv (st)) : GW E L A nL cs sl Q σ pc lv st0 := by
  intro H locs ls hP hS hl
  subst hst
  have hF := gw_frA (σ := σ) C hS
  have hG : GoodIn tb_G (Cond.code y cy ny ry :: tb_G) := tb_good (fun w hw => by rcases List.mem_cons.mp hw with rfl | h; exact hw5; exact h)
  refine va_callv (va_runS (As := As) (rest := st) ⟨cx_x C, cx_c C, cx_n C, cx_o C, cx_w C⟩ (hM H.size) ⟨callB_of n (cx_w C) hG rfl hrm.1 hrm.2.1 (cx_w C _ hw4) (cx_w C _ hw1) hd (by rw [cx_R C]; exact hrm.2.2), cx_w C _ hw2⟩ ⟨ct_blind, gw_pre C hP hS⟩ rfl hn hl.1 rfl (lv_room hsm) d (by rw [cx_R C]; exact hcs)) hS (fun q _ h => hF q h) hF (fun u t H1 l1 ht hvm hp hB hz hkk hS1 => ?_)
  exact k H1 l1 ls (by rw [← ht]; exact hB) hS1 hl
end CALLS
