theorem W1_push {L : Ly} {σ : Mm} {h n K : Nat} {fs : List Value} {e : va_E} (hn : 1 ≤ n) (he : e = cl_e L (ly_k L n) n (σ.1 n) (σ.2 n)) : W1 L σ h n K fs ++ [(h + n, e)] = W1 L σ h (n + 1) K fs := by
  apply List.ext_getElem?
  intro k
  by_cases hk : k < n
  · rw [List.getElem?_append_left (by rw [W1_len hn]; exact hk)]
    by_cases h0 : k = 0
    · subst h0; rfl
    · rw [W1_at (by omega) hk, W1_at (by omega) (by omega)]
  · rw [List.getElem?_append_right (by rw [W1_len hn]; omega), W1_len hn]
    by_cases hk2 : k = n
    · subst hk2
      rw [Nat.sub_self, W1_at (by omega) (by omega), he]; rfl
    · rw [List.getElem?_eq_none (by simp; omega), List.getElem?_eq_none (by rw [W1_len (by omega)]; omega)]
theorem gc_ws {E : Fx} {L : Ly} {A : Nat → Prop} {nL cs sl : Nat} {Q : State → Prop} {ws ws' : va_W} {pc : Nat} {lv : List (Nat × Value)} {st : List Value} (h : ws = ws') (k : GC E L A nL cs sl Q ws' pc lv st) : GC E L A nL cs sl Q ws pc lv st := h ▸ k
theorem gc_gw {E : Fx} {L : Ly} {A : Nat → Prop} {nL cs sl : Nat} {Q : State → Prop} {σ : Mm} {pc : Nat} {lv : List (Nat × Value)} {st : List Value} (k : GW E L A nL cs sl Q σ pc lv st) : GC E L A nL cs sl Q (wl L σ) pc lv st := k
theorem en_c {E : Fx} {L : Ly} {h : Nat} {cc : ByteArray} {nL : Nat} {rm : Room} {Q : State → Prop} {σ0 res : Mm} {pc : Nat} {lv : List (Nat × Value)} (he : EnC E L h cc nL rm Q res) (hf : some σ0 = some res) (d : decode cc pc = .ok (.return_, 1)) : GW E L (fun q => h ≤ q) nL rm.cells rm.slots Q σ0 pc lv [] := by cases hf; exact he pc lv d
/-- a memory with another one laid into it -/
def mm_pl (σ : Mm) (n size : Nat) (σc : Mm) : Mm := (fun o => if n ≤ o ∧ o < n + size then σc.1 (o - n) else σ.1 o, fun o => if n ≤ o ∧ o < n + size then σc.2 (o - n) else σ.2 o)
theorem pl_in1 {σ σc : Mm} {n size o : Nat} (h : o < size) : (mm_pl σ n size σc).1 (n + o) = σc.1 o := by
  show (if n ≤ n + o ∧ n + o < n + size then σc.1 (n + o - n) else σ.1 (n + o)) = _
  rw [if_pos ⟨by omega, by omega⟩, Nat.add_sub_cancel_left]
theorem pl_in2 {σ σc : Mm} {n size o : Nat} (h : o < size) : (mm_pl σ n size σc).2 (n + o) = σc.2 o := by
  show (if n ≤ n + o ∧ n + o < n + size then σc.2 (n + o - n) else σ.2 (n + o)) = _
  rw [if_pos ⟨by omega, by omega⟩, Nat.add_sub_cancel_left]
theorem pl_out1 {σ σc : Mm} {n size o : Nat} (h : o < n ∨ n + size ≤ o) : (mm_pl σ n size σc).1 o = σ.1 o := if_neg (by omega)
theorem pl_out2 {σ σc : Mm} {n size o : Nat} (h : o < n ∨ n + size ≤ o) : (mm_pl σ n size σc).2 o = σ.2 o := if_neg (by omega)

abbrev b_Row_init : ByteArray := prog_8_method_1_code
def y_Row_init : MethodName := ⟨"NameHat$Row", "<init>", "(I)V"⟩
theorem hd_Row_init : y_Row_init.cls ≠ "java/lang/invoke/MethodHandle" ∧ y_Row_init.cls ≠ "java/lang/invoke/VarHandle" ∧ (parseMethodDescriptor y_Row_init.desc).map (fun d => d.parameters.length) = some 1 := by decide +kernel
theorem d_Row_init_0 : decode b_Row_init 0 = .ok (.aload_n 0, 1) := by decide +kernel
theorem d_Row_init_1 : decode b_Row_init 1 = .ok (.invokespecial 3, 3) := by decide +kernel
theorem d_Row_init_4 : decode b_Row_init 4 = .ok (.aload_n 0, 1) := by decide +kernel
theorem d_Row_init_5 : decode b_Row_init 5 = .ok (.iload_n 1, 1) := by decide +kernel
theorem d_Row_init_6 : decode b_Row_init 6 = .ok (.ifCond .ge 7, 3) := by decide +kernel
theorem d_Row_init_9 : decode b_Row_init 9 = .ok (.iconst 0, 1) := by decide +kernel
theorem d_Row_init_10 : decode b_Row_init 10 = .ok (.goto 4, 3) := by decide +kernel
theorem d_Row_init_13 : decode b_Row_init 13 = .ok (.iload_n 1, 1) := by decide +kernel
theorem d_Row_init_14 : decode b_Row_init 14 = .ok (.newarray .int, 2) := by decide +kernel
theorem d_Row_init_16 : decode b_Row_init 16 = .ok (.putfield 9, 3) := by decide +kernel
theorem d_Row_init_19 : decode b_Row_init 19 = .ok (.return_, 1) := by decide +kernel
def kl_Row : List Nat := [0, 20]
abbrev kd_Row : Nat → Nat := fun o => kl_Row.getD o 99
abbrev z_Row (N : Nat) : Nat → Nat := fun o => [0, N].getD o 0
abbrev rm_Row_init (N : Nat) : Room := { frames := 1, cells := 1, slots := N, locals := 20 }
set_option maxHeartbeats 4000000 in
set_option maxRecDepth 100000 in
theorem c_Row_init (l : Launch) {N : Nat} {x : Int32} (hx0 : ¬ x < 0) (hxN : x.toNatClampNeg = N) (hN : N * 8 ≤ 536870912) : CtC l y_Row_init b_Row_init 2 (rm_Row_init N) 0 kd_Row (z_Row N) 2 [.int x] [.null] mm_0 := by
  refine ct_c (fun D ca sp h => gd_list (kl := kl_Row) (by decide +kernel) (by decide +kernel)) (by decide) rfl (fun h => Nat.le_of_ble_eq_true rfl) ?_
  intro E L h Q hE ha hk hz hn C hs hnm hN9
  subst hE
  show GC E L _ 2 0 0 Q (W1 L mm_0 h 1 0 [.null]) 0 [(0, .ref h), (1, .int x)] []
  refine gc_aload_n C 0 d_Row_init_0 rfl rfl ?_
  refine gc_obj C d_Row_init_1 qw_49 qw_30 qw_31 (Nat.le_of_ble_eq_true rfl) ⟨Nat.le_of_ble_eq_true rfl, Nat.le_of_ble_eq_true rfl⟩ ?_
  refine gc_aload_n C 0 d_Row_init_4 rfl rfl ?_
  refine gc_iload_n C 1 d_Row_init_5 rfl rfl ?_
  refine gc_if_ge C 13 d_Row_init_6 (by decide) (fun _ => ?_) (fun hc => absurd (Int32.not_lt.mp hx0) hc)
  refine gc_iload_n C 1 d_Row_init_13 rfl rfl ?_
  refine gc_newa (n := 1) (ty := .int) 0 (N, .inl (fun _ => 0)) C hs (W1_c (Nat.le_refl 1)) rfl rfl d_Row_init_14 rfl rfl (fun _ _ q => q) qw_54 (fun _ => rfl) hx0 hxN (by show N * 4 ≤ _; omega) (Nat.le_refl _) (by show 0 + N ≤ N; omega) ?_
  refine gc_ws (W1_push (Nat.le_refl 1) (by rw [hk]; show _ = Sum.inl (_, ly_z L 1, _); rw [hz]; rfl)) ?_
  refine gc_putF t_Row C hnm 0 (W1_c (Nat.le_of_ble_eq_true rfl)) W1_0 d_Row_init_16 i_Row rfl (by decide) qw_50 rfl rfl t_Row_ok n_Row rfl (t_Row_ok 0 (by decide)) rfl rfl (Nat.le_of_ble_eq_true rfl) ?_
  have e9 : W1 L mm_0 h 2 0 [.ref (h + 1)] = wl L mm_0 := by
    have := W1_full (L := L) (σ := mm_0) (h := h) (K := 0) (fs := [.ref (h + 1)]) ha (by rw [hn]; decide) (by rw [hk]; rfl) (by decide) rfl
    rw [hn] at this; exact this
  show GC E L _ 2 _ _ Q (W1 L mm_0 h 2 0 [.ref (h + 1)]) _ _ _
  rw [e9]
  have h9 := hN9 19 [(0, .ref h), (1, .int x)] d_Row_init_19
  rw [show (rm_Row_init N).cells = 0 + 1 from rfl, show (rm_Row_init N).slots = 0 + N from (Nat.zero_add N).symm] at h9
  exact h9

abbrev b_Names_init : ByteArray := prog_5_method_1_code
def y_Names_init : MethodName := ⟨"NameHat$Names", "<init>", "(I)V"⟩
theorem hd_Names_init : y_Names_init.cls ≠ "java/lang/invoke/MethodHandle" ∧ y_Names_init.cls ≠ "java/lang/invoke/VarHandle" ∧ (parseMethodDescriptor y_Names_init.desc).map (fun d => d.parameters.length) = some 1 := by decide +kernel
theorem d_Names_init_0 : decode b_Names_init 0 = .ok (.aload_n 0, 1) := by decide +kernel
theorem d_Names_init_1 : decode b_Names_init 1 = .ok (.invokespecial 3, 3) := by decide +kernel
theorem d_Names_init_4 : decode b_Names_init 4 = .ok (.aload_n 0, 1) := by decide +kernel
theorem d_Names_init_5 : decode b_Names_init 5 = .ok (.iload_n 1, 1) := by decide +kernel
theorem d_Names_init_6 : decode b_Names_init 6 = .ok (.ifCond .ge 7, 3) := by decide +kernel
theorem d_Names_init_9 : decode b_Names_init 9 = .ok (.iconst 0, 1) := by decide +kernel
theorem d_Names_init_10 : decode b_Names_init 10 = .ok (.goto 4, 3) := by decide +kernel
theorem d_Names_init_13 : decode b_Names_init 13 = .ok (.iload_n 1, 1) := by decide +kernel
theorem d_Names_init_14 : decode b_Names_init 14 = .ok (.newarray .long, 2) := by decide +kernel
theorem d_Names_init_16 : decode b_Names_init 16 = .ok (.putfield 9, 3) := by decide +kernel
theorem d_Names_init_19 : decode b_Names_init 19 = .ok (.return_, 1) := by decide +kernel
def kl_Names : List Nat := [1, 21]
abbrev kd_Names : Nat → Nat := fun o => kl_Names.getD o 99
abbrev z_Names (N : Nat) : Nat → Nat := fun o => [0, N].getD o 0
abbrev rm_Names_init (N : Nat) : Room := { frames := 1, cells := 1, slots := N, locals := 20 }
set_option maxHeartbeats 4000000 in
set_option maxRecDepth 100000 in
theorem c_Names_init (l : Launch) {N : Nat} {x : Int32} (hx0 : ¬ x < 0) (hxN : x.toNatClampNeg = N) (hN : N * 8 ≤ 536870912) : CtC l y_Names_init b_Names_init 2 (rm_Names_init N) 1 kd_Names (z_Names N) 2 [.int x] [.null, .int 0] mm_0 := by
  refine ct_c (fun D ca sp h => gd_list (kl := kl_Names) (by decide +kernel) (by decide +kernel)) (by decide) rfl (fun h => Nat.le_of_ble_eq_true rfl) ?_
  intro E L h Q hE ha hk hz hn C hs hnm hN9
  subst hE
  show GC E L _ 2 0 0 Q (W1 L mm_0 h 1 1 [.null, .int 0]) 0 [(0, .ref h), (1, .int x)] []
  refine gc_aload_n C 0 d_Names_init_0 rfl rfl ?_
  refine gc_obj C d_Names_init_1 qw_106 qw_30 qw_31 (Nat.le_of_ble_eq_true rfl) ⟨Nat.le_of_ble_eq_true rfl, Nat.le_of_ble_eq_true rfl⟩ ?_
  refine gc_aload_n C 0 d_Names_init_4 rfl rfl ?_
  refine gc_iload_n C 1 d_Names_init_5 rfl rfl ?_
  refine gc_if_ge C 13 d_Names_init_6 (by decide) (fun _ => ?_) (fun hc => absurd (Int32.not_lt.mp hx0) hc)
  refine gc_iload_n C 1 d_Names_init_13 rfl rfl ?_
  refine gc_newa (n := 1) (ty := .long) 1 (N, .inr (.inl (fun _ => 0))) C hs (W1_c (Nat.le_refl 1)) rfl rfl d_Names_init_14 rfl rfl (fun _ _ q => q) qw_121 (fun _ => rfl) hx0 hxN (by show N * 8 ≤ _; omega) (Nat.le_refl _) (by show 0 + N ≤ N; omega) ?_
  refine gc_ws (W1_push (Nat.le_refl 1) (by rw [hk]; show _ = Sum.inl (_, ly_z L 1, _); rw [hz]; rfl)) ?_
  refine gc_putF t_Names C hnm 0 (W1_c (Nat.le_of_ble_eq_true rfl)) W1_0 d_Names_init_16 i_Names rfl (by decide) qw_107 rfl rfl t_Names_ok n_Names rfl (t_Names_ok 0 (by decide)) rfl rfl (Nat.le_of_ble_eq_true rfl) ?_
  have e9 : W1 L mm_0 h 2 1 [.ref (h + 1), .int 0] = wl L mm_0 := by
    have := W1_full (L := L) (σ := mm_0) (h := h) (K := 1) (fs := [.ref (h + 1), .int 0]) ha (by rw [hn]; decide) (by rw [hk]; rfl) (by decide) rfl
    rw [hn] at this; exact this
  show GC E L _ 2 _ _ Q (W1 L mm_0 h 2 1 [.ref (h + 1), .int 0]) _ _ _
  rw [e9]
  have h9 := hN9 19 [(0, .ref h), (1, .int x)] d_Names_init_19
  rw [show (rm_Names_init N).cells = 0 + 1 from rfl, show (rm_Names_init N).slots = 0 + N from (Nat.zero_add N).symm] at h9
  exact h9

abbrev b_Island_init : ByteArray := prog_4_method_1_code
def y_Island_init : MethodName := ⟨"NameHat$Island", "<init>", "()V"⟩
theorem hd_Island_init : y_Island_init.cls ≠ "java/lang/invoke/MethodHandle" ∧ y_Island_init.cls ≠ "java/lang/invoke/VarHandle" ∧ (parseMethodDescriptor y_Island_init.desc).map (fun d => d.parameters.length) = some 0 := by decide +kernel
theorem d_Island_init_0 : decode b_Island_init 0 = .ok (.aload_n 0, 1) := by decide +kernel
theorem d_Island_init_1 : decode b_Island_init 1 = .ok (.invokespecial 3, 3) := by decide +kernel
theorem d_Island_init_4 : decode b_Island_init 4 = .ok (.aload_n 0, 1) := by decide +kernel
theorem d_Island_init_5 : decode b_Island_init 5 = .ok (.new 9, 3) := by decide +kernel
theorem d_Island_init_8 : decode b_Island_init 8 = .ok (.dup, 1) := by decide +kernel
theorem d_Island_init_9 : decode b_Island_init 9 = .ok (.bipush 10, 2) := by decide +kernel
theorem d_Island_init_11 : decode b_Island_init 11 = .ok (.invokespecial 11, 3) := by decide +kernel
theorem d_Island_init_14 : decode b_Island_init 14 = .ok (.putfield 14, 3) := by decide +kernel
theorem d_Island_init_17 : decode b_Island_init 17 = .ok (.aload_n 0, 1) := by decide +kernel
theorem d_Island_init_18 : decode b_Island_init 18 = .ok (.new 9, 3) := by decide +kernel
theorem d_Island_init_21 : decode b_Island_init 21 = .ok (.dup, 1) := by decide +kernel
theorem d_Island_init_22 : decode b_Island_init 22 = .ok (.bipush 8, 2) := by decide +kernel
theorem d_Island_init_24 : decode b_Island_init 24 = .ok (.invokespecial 11, 3) := by decide +kernel
theorem d_Island_init_27 : decode b_Island_init 27 = .ok (.putfield 20, 3) := by decide +kernel
theorem d_Island_init_30 : decode b_Island_init 30 = .ok (.aload_n 0, 1) := by decide +kernel
theorem d_Island_init_31 : decode b_Island_init 31 = .ok (.new 23, 3) := by decide +kernel
theorem d_Island_init_34 : decode b_Island_init 34 = .ok (.dup, 1) := by decide +kernel
theorem d_Island_init_35 : decode b_Island_init 35 = .ok (.bipush 10, 2) := by decide +kernel
theorem d_Island_init_37 : decode b_Island_init 37 = .ok (.invokespecial 25, 3) := by decide +kernel
theorem d_Island_init_40 : decode b_Island_init 40 = .ok (.putfield 26, 3) := by decide +kernel
theorem d_Island_init_43 : decode b_Island_init 43 = .ok (.aload_n 0, 1) := by decide +kernel
theorem d_Island_init_44 : decode b_Island_init 44 = .ok (.new 23, 3) := by decide +kernel
theorem d_Island_init_47 : decode b_Island_init 47 = .ok (.dup, 1) := by decide +kernel
theorem d_Island_init_48 : decode b_Island_init 48 = .ok (.bipush 10, 2) := by decide +kernel
theorem d_Island_init_50 : decode b_Island_init 50 = .ok (.invokespecial 25, 3) := by decide +kernel
theorem d_Island_init_53 : decode b_Island_init 53 = .ok (.putfield 30, 3) := by decide +kernel
theorem d_Island_init_56 : decode b_Island_init 56 = .ok (.aload_n 0, 1) := by decide +kernel
theorem d_Island_init_57 : decode b_Island_init 57 = .ok (.new 23, 3) := by decide +kernel
theorem d_Island_init_60 : decode b_Island_init 60 = .ok (.dup, 1) := by decide +kernel
theorem d_Island_init_61 : decode b_Island_init 61 = .ok (.bipush 10, 2) := by decide +kernel
theorem d_Island_init_63 : decode b_Island_init 63 = .ok (.invokespecial 25, 3) := by decide +kernel
theorem d_Island_init_66 : decode b_Island_init 66 = .ok (.putfield 33, 3) := by decide +kernel
theorem d_Island_init_69 : decode b_Island_init 69 = .ok (.aload_n 0, 1) := by decide +kernel
theorem d_Island_init_70 : decode b_Island_init 70 = .ok (.new 23, 3) := by decide +kernel
theorem d_Island_init_73 : decode b_Island_init 73 = .ok (.dup, 1) := by decide +kernel
theorem d_Island_init_74 : decode b_Island_init 74 = .ok (.bipush 80, 2) := by decide +kernel
theorem d_Island_init_76 : decode b_Island_init 76 = .ok (.invokespecial 25, 3) := by decide +kernel
theorem d_Island_init_79 : decode b_Island_init 79 = .ok (.putfield 36, 3) := by decide +kernel
theorem d_Island_init_82 : decode b_Island_init 82 = .ok (.return_, 1) := by decide +kernel
def kl_Island : List Nat := [2, 1, 21, 1, 21, 0, 20, 0, 20, 0, 20, 0, 20]
def zl_Island : List Nat := [0, 0, 10, 0, 8, 0, 10, 0, 10, 0, 10, 0, 80]
abbrev kd_Island : Nat → Nat := fun o => kl_Island.getD o 99
abbrev z_Island : Nat → Nat := fun o => zl_Island.getD o 0
abbrev rm_Island_init : Room := { frames := 2, cells := 12, slots := 136, locals := 41 }
set_option maxHeartbeats 4000000 in
set_option maxRecDepth 100000 in
theorem c_Island_init (l : Launch) : CtC l y_Island_init b_Island_init 1 rm_Island_init 2 kd_Island z_Island 13 [] [.null, .null, .null, .null, .null, .null, .int 0, .int 0, .int 0] (mm_0) := by
  refine ct_c (fun D ca sp h => gd_list (kl := kl_Island) (by decide +kernel) (by decide +kernel)) (by decide) rfl (fun h => Nat.le_of_ble_eq_true rfl) ?_
  intro E L h Q hE ha hk hz hn C hs hnm hN9
  subst hE
  show GC E L _ 1 0 0 Q (W1 L (mm_0) h 1 2 [.null, .null, .null, .null, .null, .null, .int 0, .int 0, .int 0]) 0 [(0, .ref h)] []
  refine gc_aload_n C 0 d_Island_init_0 rfl rfl ?_
  refine gc_obj C d_Island_init_1 qw_100 qw_30 qw_31 (Nat.le_of_ble_eq_true rfl) ⟨(Nat.le_of_ble_eq_true rfl), (Nat.le_of_ble_eq_true rfl)⟩ ?_
  refine gc_aload_n C 0 d_Island_init_4 rfl rfl ?_
  refine gc_new (n := 1) (K9 := 1) (N9 := 2) (C9 := R_Names) (T9 := F_Names) (fs9 := [.null, .int 0]) t_Names C hs (W1_c (Nat.le_of_ble_eq_true rfl)) (W1_len (Nat.le_of_ble_eq_true rfl)) rfl d_Island_init_5 rfl i_Names t_Names_ok qw_101 qw_102 qw_7 (fun j hj => by rcases (show j = 0 ∨ j = 1 by omega) with rfl | rfl <;> rfl) (Nat.le_of_ble_eq_true rfl) (Nat.le_of_ble_eq_true rfl) ?_
  refine gc_dup C d_Island_init_8 rfl ?_
  refine gc_bipush C (10 : Int32) d_Island_init_9 (by decide) ?_
  refine gc_call (n := 1) (σ := (mm_0)) C hs (c_Names_init _ (N := 10) (x := (10 : Int32)) (by decide) (by decide) (Nat.le_of_ble_eq_true rfl)) d_Island_init_11 1 qw_103 qw_104 qw_7 qw_105 rfl hd_Names_init rfl rfl (Nat.le_of_ble_eq_true rfl) ⟨(Nat.le_of_ble_eq_true rfl), (Nat.le_of_ble_eq_true rfl)⟩ ⟨(Nat.le_of_ble_eq_true rfl), (Nat.le_of_ble_eq_true rfl)⟩ (Nat.le_of_ble_eq_true rfl) rfl ha (by rw [hk]; decide +kernel) (by rw [hz]; decide +kernel) (fun _ _ => rfl) (fun _ _ => rfl) ?_
  refine gc_putF t_Island C hnm 0 (W1_c (Nat.le_of_ble_eq_true rfl)) W1_0 d_Island_init_14 i_Island rfl (by decide) qw_124 rfl rfl t_Island_ok n_Island rfl (t_Island_ok 0 (by decide)) rfl rfl (Nat.le_of_ble_eq_true rfl) ?_
  show GC E L _ 1 _ _ Q (W1 L (mm_0) h 3 2 [.ref (h + 1), .null, .null, .null, .null, .null, .int 0, .int 0, .int 0]) _ _ _
  refine gc_aload_n C 0 d_Island_init_17 rfl rfl ?_
  refine gc_new (n := 3) (K9 := 1) (N9 := 2) (C9 := R_Names) (T9 := F_Names) (fs9 := [.null, .int 0]) t_Names C hs (W1_c (Nat.le_of_ble_eq_true rfl)) (W1_len (Nat.le_of_ble_eq_true rfl)) rfl d_Island_init_18 rfl i_Names t_Names_ok qw_101 qw_102 qw_7 (fun j hj => by rcases (show j = 0 ∨ j = 1 by omega) with rfl | rfl <;> rfl) (Nat.le_of_ble_eq_true rfl) (Nat.le_of_ble_eq_true rfl) ?_
  refine gc_dup C d_Island_init_21 rfl ?_
  refine gc_bipush C (8 : Int32) d_Island_init_22 (by decide) ?_
  refine gc_call (n := 3) (σ := (mm_0)) C hs (c_Names_init _ (N := 8) (x := (8 : Int32)) (by decide) (by decide) (Nat.le_of_ble_eq_true rfl)) d_Island_init_24 1 qw_103 qw_104 qw_7 qw_105 rfl hd_Names_init rfl rfl (Nat.le_of_ble_eq_true rfl) ⟨(Nat.le_of_ble_eq_true rfl), (Nat.le_of_ble_eq_true rfl)⟩ ⟨(Nat.le_of_ble_eq_true rfl), (Nat.le_of_ble_eq_true rfl)⟩ (Nat.le_of_ble_eq_true rfl) rfl ha (by rw [hk]; decide +kernel) (by rw [hz]; decide +kernel) (fun _ _ => rfl) (fun _ _ => rfl) ?_
  refine gc_putF t_Island C hnm 1 (W1_c (Nat.le_of_ble_eq_true rfl)) W1_0 d_Island_init_27 i_Island rfl (by decide) qw_129 rfl rfl t_Island_ok n_Island rfl (t_Island_ok 1 (by decide)) rfl rfl (Nat.le_of_ble_eq_true rfl) ?_
  show GC E L _ 1 _ _ Q (W1 L (mm_0) h 5 2 [.ref (h + 1), .ref (h + 3), .null, .null, .null, .null, .int 0, .int 0, .int 0]) _ _ _
  refine gc_aload_n C 0 d_Island_init_30 rfl rfl ?_
  refine gc_new (n := 5) (K9 := 0) (N9 := 1) (C9 := R_Row) (T9 := F_Row) (fs9 := [.null]) t_Row C hs (W1_c (Nat.le_of_ble_eq_true rfl)) (W1_len (Nat.le_of_ble_eq_true rfl)) rfl d_Island_init_31 rfl i_Row t_Row_ok qw_122 qw_45 qw_4 (fun j hj => by obtain rfl : j = 0 := (by omega); exact rfl) (Nat.le_of_ble_eq_true rfl) (Nat.le_of_ble_eq_true rfl) ?_
  refine gc_dup C d_Island_init_34 rfl ?_
  refine gc_bipush C (10 : Int32) d_Island_init_35 (by decide) ?_
  refine gc_call (n := 5) (σ := (mm_0)) C hs (c_Row_init _ (N := 10) (x := (10 : Int32)) (by decide) (by decide) (Nat.le_of_ble_eq_true rfl)) d_Island_init_37 1 qw_123 qw_47 qw_4 qw_48 rfl hd_Row_init rfl rfl (Nat.le_of_ble_eq_true rfl) ⟨(Nat.le_of_ble_eq_true rfl), (Nat.le_of_ble_eq_true rfl)⟩ ⟨(Nat.le_of_ble_eq_true rfl), (Nat.le_of_ble_eq_true rfl)⟩ (Nat.le_of_ble_eq_true rfl) rfl ha (by rw [hk]; decide +kernel) (by rw [hz]; decide +kernel) (fun _ _ => rfl) (fun _ _ => rfl) ?_
  refine gc_putF t_Island C hnm 2 (W1_c (Nat.le_of_ble_eq_true rfl)) W1_0 d_Island_init_40 i_Island rfl (by decide) qw_137 rfl rfl t_Island_ok n_Island rfl (t_Island_ok 2 (by decide)) rfl rfl (Nat.le_of_ble_eq_true rfl) ?_
  show GC E L _ 1 _ _ Q (W1 L (mm_0) h 7 2 [.ref (h + 1), .ref (h + 3), .ref (h + 5), .null, .null, .null, .int 0, .int 0, .int 0]) _ _ _
  refine gc_aload_n C 0 d_Island_init_43 rfl rfl ?_
  refine gc_new (n := 7) (K9 := 0) (N9 := 1) (C9 := R_Row) (T9 := F_Row) (fs9 := [.null]) t_Row C hs (W1_c (Nat.le_of_ble_eq_true rfl)) (W1_len (Nat.le_of_ble_eq_true rfl)) rfl d_Island_init_44 rfl i_Row t_Row_ok qw_122 qw_45 qw_4 (fun j hj => by obtain rfl : j = 0 := (by omega); exact rfl) (Nat.le_of_ble_eq_true rfl) (Nat.le_of_ble_eq_true rfl) ?_
  refine gc_dup C d_Island_init_47 rfl ?_
  refine gc_bipush C (10 : Int32) d_Island_init_48 (by decide) ?_
  refine gc_call (n := 7) (σ := (mm_0)) C hs (c_Row_init _ (N := 10) (x := (10 : Int32)) (by decide) (by decide) (Nat.le_of_ble_eq_true rfl)) d_Island_init_50 1 qw_123 qw_47 qw_4 qw_48 rfl hd_Row_init rfl rfl (Nat.le_of_ble_eq_true rfl) ⟨(Nat.le_of_ble_eq_true rfl), (Nat.le_of_ble_eq_true rfl)⟩ ⟨(Nat.le_of_ble_eq_true rfl), (Nat.le_of_ble_eq_true rfl)⟩ (Nat.le_of_ble_eq_true rfl) rfl ha (by rw [hk]; decide +kernel) (by rw [hz]; decide +kernel) (fun _ _ => rfl) (fun _ _ => rfl) ?_
  refine gc_putF t_Island C hnm 3 (W1_c (Nat.le_of_ble_eq_true rfl)) W1_0 d_Island_init_53 i_Island rfl (by decide) qw_141 rfl rfl t_Island_ok n_Island rfl (t_Island_ok 3 (by decide)) rfl rfl (Nat.le_of_ble_eq_true rfl) ?_
  show GC E L _ 1 _ _ Q (W1 L (mm_0) h 9 2 [.ref (h + 1), .ref (h + 3), .ref (h + 5), .ref (h + 7), .null, .null, .int 0, .int 0, .int 0]) _ _ _
  refine gc_aload_n C 0 d_Island_init_56 rfl rfl ?_
  refine gc_new (n := 9) (K9 := 0) (N9 := 1) (C9 := R_Row) (T9 := F_Row) (fs9 := [.null]) t_Row C hs (W1_c (Nat.le_of_ble_eq_true rfl)) (W1_len (Nat.le_of_ble_eq_true rfl)) rfl d_Island_init_57 rfl i_Row t_Row_ok qw_122 qw_45 qw_4 (fun j hj => by obtain rfl : j = 0 := (by omega); exact rfl) (Nat.le_of_ble_eq_true rfl) (Nat.le_of_ble_eq_true rfl) ?_
  refine gc_dup C d_Island_init_60 rfl ?_
  refine gc_bipush C (10 : Int32) d_Island_init_61 (by decide) ?_
  refine gc_call (n := 9) (σ := (mm_0)) C hs (c_Row_init _ (N := 10) (x := (10 : Int32)) (by decide) (by decide) (Nat.le_of_ble_eq_true rfl)) d_Island_init_63 1 qw_123 qw_47 qw_4 qw_48 rfl hd_Row_init rfl rfl (Nat.le_of_ble_eq_true rfl) ⟨(Nat.le_of_ble_eq_true rfl), (Nat.le_of_ble_eq_true rfl)⟩ ⟨(Nat.le_of_ble_eq_true rfl), (Nat.le_of_ble_eq_true rfl)⟩ (Nat.le_of_ble_eq_true rfl) rfl ha (by rw [hk]; decide +kernel) (by rw [hz]; decide +kernel) (fun _ _ => rfl) (fun _ _ => rfl) ?_
  refine gc_putF t_Island C hnm 4 (W1_c (Nat.le_of_ble_eq_true rfl)) W1_0 d_Island_init_66 i_Island rfl (by decide) qw_144 rfl rfl t_Island_ok n_Island rfl (t_Island_ok 4 (by decide)) rfl rfl (Nat.le_of_ble_eq_true rfl) ?_
  show GC E L _ 1 _ _ Q (W1 L (mm_0) h 11 2 [.ref (h + 1), .ref (h + 3), .ref (h + 5), .ref (h + 7), .ref (h + 9), .null, .int 0, .int 0, .int 0]) _ _ _
  refine gc_aload_n C 0 d_Island_init_69 rfl rfl ?_
  refine gc_new (n := 11) (K9 := 0) (N9 := 1) (C9 := R_Row) (T9 := F_Row) (fs9 := [.null]) t_Row C hs (W1_c (Nat.le_of_ble_eq_true rfl)) (W1_len (Nat.le_of_ble_eq_true rfl)) rfl d_Island_init_70 rfl i_Row t_Row_ok qw_122 qw_45 qw_4 (fun j hj => by obtain rfl : j = 0 := (by omega); exact rfl) (Nat.le_of_ble_eq_true rfl) (Nat.le_of_ble_eq_true rfl) ?_
  refine gc_dup C d_Island_init_73 rfl ?_
  refine gc_bipush C (80 : Int32) d_Island_init_74 (by decide) ?_
  refine gc_call (n := 11) (σ := (mm_0)) C hs (c_Row_init _ (N := 80) (x := (80 : Int32)) (by decide) (by decide) (Nat.le_of_ble_eq_true rfl)) d_Island_init_76 1 qw_123 qw_47 qw_4 qw_48 rfl hd_Row_init rfl rfl (Nat.le_of_ble_eq_true rfl) ⟨(Nat.le_of_ble_eq_true rfl), (Nat.le_of_ble_eq_true rfl)⟩ ⟨(Nat.le_of_ble_eq_true rfl), (Nat.le_of_ble_eq_true rfl)⟩ (Nat.le_of_ble_eq_true rfl) rfl ha (by rw [hk]; decide +kernel) (by rw [hz]; decide +kernel) (fun _ _ => rfl) (fun _ _ => rfl) ?_
  refine gc_putF t_Island C hnm 5 (W1_c (Nat.le_of_ble_eq_true rfl)) W1_0 d_Island_init_79 i_Island rfl (by decide) qw_146 rfl rfl t_Island_ok n_Island rfl (t_Island_ok 5 (by decide)) rfl rfl (Nat.le_of_ble_eq_true rfl) ?_
  show GC E L _ 1 _ _ Q (W1 L (mm_0) h 13 2 [.ref (h + 1), .ref (h + 3), .ref (h + 5), .ref (h + 7), .ref (h + 9), .ref (h + 11), .int 0, .int 0, .int 0]) _ _ _
  have e9 : W1 L (mm_0) h 13 2 [.ref (h + 1), .ref (h + 3), .ref (h + 5), .ref (h + 7), .ref (h + 9), .ref (h + 11), .int 0, .int 0, .int 0] = wl L (mm_0) := by
    have := W1_full (L := L) (σ := (mm_0)) (h := h) (K := 2) (fs := [.ref (h + 1), .ref (h + 3), .ref (h + 5), .ref (h + 7), .ref (h + 9), .ref (h + 11), .int 0, .int 0, .int 0]) ha (by rw [hn]; decide) (by rw [hk]; rfl) (by decide) rfl
    rw [hn] at this; exact this
  refine gc_ws e9 ?_
  exact hN9 _ _ d_Island_init_82

abbrev b_Hands_init : ByteArray := prog_3_method_1_code
def y_Hands_init : MethodName := ⟨"NameHat$Hands", "<init>", "()V"⟩
theorem hd_Hands_init : y_Hands_init.cls ≠ "java/lang/invoke/MethodHandle" ∧ y_Hands_init.cls ≠ "java/lang/invoke/VarHandle" ∧ (parseMethodDescriptor y_Hands_init.desc).map (fun d => d.parameters.length) = some 0 := by decide +kernel
theorem d_Hands_init_0 : decode b_Hands_init 0 = .ok (.aload_n 0, 1) := by decide +kernel
theorem d_Hands_init_1 : decode b_Hands_init 1 = .ok (.invokespecial 3, 3) := by decide +kernel
theorem d_Hands_init_4 : decode b_Hands_init 4 = .ok (.aload_n 0, 1) := by decide +kernel
theorem d_Hands_init_5 : decode b_Hands_init 5 = .ok (.new 9, 3) := by decide +kernel
theorem d_Hands_init_8 : decode b_Hands_init 8 = .ok (.dup, 1) := by decide +kernel
theorem d_Hands_init_9 : decode b_Hands_init 9 = .ok (.bipush 8, 2) := by decide +kernel
theorem d_Hands_init_11 : decode b_Hands_init 11 = .ok (.invokespecial 11, 3) := by decide +kernel
theorem d_Hands_init_14 : decode b_Hands_init 14 = .ok (.putfield 14, 3) := by decide +kernel
theorem d_Hands_init_17 : decode b_Hands_init 17 = .ok (.aload_n 0, 1) := by decide +kernel
theorem d_Hands_init_18 : decode b_Hands_init 18 = .ok (.new 9, 3) := by decide +kernel
theorem d_Hands_init_21 : decode b_Hands_init 21 = .ok (.dup, 1) := by decide +kernel
theorem d_Hands_init_22 : decode b_Hands_init 22 = .ok (.bipush 8, 2) := by decide +kernel
theorem d_Hands_init_24 : decode b_Hands_init 24 = .ok (.invokespecial 11, 3) := by decide +kernel
theorem d_Hands_init_27 : decode b_Hands_init 27 = .ok (.putfield 20, 3) := by decide +kernel
theorem d_Hands_init_30 : decode b_Hands_init 30 = .ok (.aload_n 0, 1) := by decide +kernel
theorem d_Hands_init_31 : decode b_Hands_init 31 = .ok (.new 9, 3) := by decide +kernel
theorem d_Hands_init_34 : decode b_Hands_init 34 = .ok (.dup, 1) := by decide +kernel
theorem d_Hands_init_35 : decode b_Hands_init 35 = .ok (.bipush 8, 2) := by decide +kernel
theorem d_Hands_init_37 : decode b_Hands_init 37 = .ok (.invokespecial 11, 3) := by decide +kernel
theorem d_Hands_init_40 : decode b_Hands_init 40 = .ok (.putfield 23, 3) := by decide +kernel
theorem d_Hands_init_43 : decode b_Hands_init 43 = .ok (.aload_n 0, 1) := by decide +kernel
theorem d_Hands_init_44 : decode b_Hands_init 44 = .ok (.new 9, 3) := by decide +kernel
theorem d_Hands_init_47 : decode b_Hands_init 47 = .ok (.dup, 1) := by decide +kernel
theorem d_Hands_init_48 : decode b_Hands_init 48 = .ok (.bipush 8, 2) := by decide +kernel
theorem d_Hands_init_50 : decode b_Hands_init 50 = .ok (.invokespecial 11, 3) := by decide +kernel
theorem d_Hands_init_53 : decode b_Hands_init 53 = .ok (.putfield 26, 3) := by decide +kernel
theorem d_Hands_init_56 : decode b_Hands_init 56 = .ok (.return_, 1) := by decide +kernel
def kl_Hands : List Nat := [3, 0, 20, 0, 20, 0, 20, 0, 20]
def zl_Hands : List Nat := [0, 0, 8, 0, 8, 0, 8, 0, 8]
abbrev kd_Hands : Nat → Nat := fun o => kl_Hands.getD o 99
abbrev z_Hands : Nat → Nat := fun o => zl_Hands.getD o 0
abbrev rm_Hands_init : Room := { frames := 2, cells := 8, slots := 36, locals := 41 }
set_option maxHeartbeats 4000000 in
set_option maxRecDepth 100000 in
theorem c_Hands_init (l : Launch) : CtC l y_Hands_init b_Hands_init 1 rm_Hands_init 3 kd_Hands z_Hands 9 [] [.null, .null, .null, .null] (mm_0) := by
  refine ct_c (fun D ca sp h => gd_list (kl := kl_Hands) (by decide +kernel) (by decide +kernel)) (by decide) rfl (fun h => Nat.le_of_ble_eq_true rfl) ?_
  intro E L h Q hE ha hk hz hn C hs hnm hN9
  subst hE
  show GC E L _ 1 0 0 Q (W1 L (mm_0) h 1 3 [.null, .null, .null, .null]) 0 [(0, .ref h)] []
  refine gc_aload_n C 0 d_Hands_init_0 rfl rfl ?_
  refine gc_obj C d_Hands_init_1 qw_183 qw_30 qw_31 (Nat.le_of_ble_eq_true rfl) ⟨(Nat.le_of_ble_eq_true rfl), (Nat.le_of_ble_eq_true rfl)⟩ ?_
  refine gc_aload_n C 0 d_Hands_init_4 rfl rfl ?_
  refine gc_new (n := 1) (K9 := 0) (N9 := 1) (C9 := R_Row) (T9 := F_Row) (fs9 := [.null]) t_Row C hs (W1_c (Nat.le_of_ble_eq_true rfl)) (W1_len (Nat.le_of_ble_eq_true rfl)) rfl d_Hands_init_5 rfl i_Row t_Row_ok qw_184 qw_45 qw_4 (fun j hj => by obtain rfl : j = 0 := (by omega); exact rfl) (Nat.le_of_ble_eq_true rfl) (Nat.le_of_ble_eq_true rfl) ?_
  refine gc_dup C d_Hands_init_8 rfl ?_
  refine gc_bipush C (8 : Int32) d_Hands_init_9 (by decide) ?_
  refine gc_call (n := 1) (σ := (mm_0)) C hs (c_Row_init _ (N := 8) (x := (8 : Int32)) (by decide) (by decide) (Nat.le_of_ble_eq_true rfl)) d_Hands_init_11 1 qw_185 qw_47 qw_4 qw_48 rfl hd_Row_init rfl rfl (Nat.le_of_ble_eq_true rfl) ⟨(Nat.le_of_ble_eq_true rfl), (Nat.le_of_ble_eq_true rfl)⟩ ⟨(Nat.le_of_ble_eq_true rfl), (Nat.le_of_ble_eq_true rfl)⟩ (Nat.le_of_ble_eq_true rfl) rfl ha (by rw [hk]; decide +kernel) (by rw [hz]; decide +kernel) (fun _ _ => rfl) (fun _ _ => rfl) ?_
  refine gc_putF t_Hands C hnm 0 (W1_c (Nat.le_of_ble_eq_true rfl)) W1_0 d_Hands_init_14 i_Hands rfl (by decide) qw_186 rfl rfl t_Hands_ok n_Hands rfl (t_Hands_ok 0 (by decide)) rfl rfl (Nat.le_of_ble_eq_true rfl) ?_
  show GC E L _ 1 _ _ Q (W1 L (mm_0) h 3 3 [.ref (h + 1), .null, .null, .null]) _ _ _
  refine gc_aload_n C 0 d_Hands_init_17 rfl rfl ?_
  refine gc_new (n := 3) (K9 := 0) (N9 := 1) (C9 := R_Row) (T9 := F_Row) (fs9 := [.null]) t_Row C hs (W1_c (Nat.le_of_ble_eq_true rfl)) (W1_len (Nat.le_of_ble_eq_true rfl)) rfl d_Hands_init_18 rfl i_Row t_Row_ok qw_184 qw_45 qw_4 (fun j hj => by obtain rfl : j = 0 := (by omega); exact rfl) (Nat.le_of_ble_eq_true rfl) (Nat.le_of_ble_eq_true rfl) ?_
  refine gc_dup C d_Hands_init_21 rfl ?_
  refine gc_bipush C (8 : Int32) d_Hands_init_22 (by decide) ?_
  refine gc_call (n := 3) (σ := (mm_0)) C hs (c_Row_init _ (N := 8) (x := (8 : Int32)) (by decide) (by decide) (Nat.le_of_ble_eq_true rfl)) d_Hands_init_24 1 qw_185 qw_47 qw_4 qw_48 rfl hd_Row_init rfl rfl (Nat.le_of_ble_eq_true rfl) ⟨(Nat.le_of_ble_eq_true rfl), (Nat.le_of_ble_eq_true rfl)⟩ ⟨(Nat.le_of_ble_eq_true rfl), (Nat.le_of_ble_eq_true rfl)⟩ (Nat.le_of_ble_eq_true rfl) rfl ha (by rw [hk]; decide +kernel) (by rw [hz]; decide +kernel) (fun _ _ => rfl) (fun _ _ => rfl) ?_
  refine gc_putF t_Hands C hnm 1 (W1_c (Nat.le_of_ble_eq_true rfl)) W1_0 d_Hands_init_27 i_Hands rfl (by decide) qw_191 rfl rfl t_Hands_ok n_Hands rfl (t_Hands_ok 1 (by decide)) rfl rfl (Nat.le_of_ble_eq_true rfl) ?_
  show GC E L _ 1 _ _ Q (W1 L (mm_0) h 5 3 [.ref (h + 1), .ref (h + 3), .null, .null]) _ _ _
  refine gc_aload_n C 0 d_Hands_init_30 rfl rfl ?_
  refine gc_new (n := 5) (K9 := 0) (N9 := 1) (C9 := R_Row) (T9 := F_Row) (fs9 := [.null]) t_Row C hs (W1_c (Nat.le_of_ble_eq_true rfl)) (W1_len (Nat.le_of_ble_eq_true rfl)) rfl d_Hands_init_31 rfl i_Row t_Row_ok qw_184 qw_45 qw_4 (fun j hj => by obtain rfl : j = 0 := (by omega); exact rfl) (Nat.le_of_ble_eq_true rfl) (Nat.le_of_ble_eq_true rfl) ?_
  refine gc_dup C d_Hands_init_34 rfl ?_
  refine gc_bipush C (8 : Int32) d_Hands_init_35 (by decide) ?_
  refine gc_call (n := 5) (σ := (mm_0)) C hs (c_Row_init _ (N := 8) (x := (8 : Int32)) (by decide) (by decide) (Nat.le_of_ble_eq_true rfl)) d_Hands_init_37 1 qw_185 qw_47 qw_4 qw_48 rfl hd_Row_init rfl rfl (Nat.le_of_ble_eq_true rfl) ⟨(Nat.le_of_ble_eq_true rfl), (Nat.le_of_ble_eq_true rfl)⟩ ⟨(Nat.le_of_ble_eq_true rfl), (Nat.le_of_ble_eq_true rfl)⟩ (Nat.le_of_ble_eq_true rfl) rfl ha (by rw [hk]; decide +kernel) (by rw [hz]; decide +kernel) (fun _ _ => rfl) (fun _ _ => rfl) ?_
  refine gc_putF t_Hands C hnm 2 (W1_c (Nat.le_of_ble_eq_true rfl)) W1_0 d_Hands_init_40 i_Hands rfl (by decide) qw_195 rfl rfl t_Hands_ok n_Hands rfl (t_Hands_ok 2 (by decide)) rfl rfl (Nat.le_of_ble_eq_true rfl) ?_
  show GC E L _ 1 _ _ Q (W1 L (mm_0) h 7 3 [.ref (h + 1), .ref (h + 3), .ref (h + 5), .null]) _ _ _
  refine gc_aload_n C 0 d_Hands_init_43 rfl rfl ?_
  refine gc_new (n := 7) (K9 := 0) (N9 := 1) (C9 := R_Row) (T9 := F_Row) (fs9 := [.null]) t_Row C hs (W1_c (Nat.le_of_ble_eq_true rfl)) (W1_len (Nat.le_of_ble_eq_true rfl)) rfl d_Hands_init_44 rfl i_Row t_Row_ok qw_184 qw_45 qw_4 (fun j hj => by obtain rfl : j = 0 := (by omega); exact rfl) (Nat.le_of_ble_eq_true rfl) (Nat.le_of_ble_eq_true rfl) ?_
  refine gc_dup C d_Hands_init_47 rfl ?_
  refine gc_bipush C (8 : Int32) d_Hands_init_48 (by decide) ?_
  refine gc_call (n := 7) (σ := (mm_0)) C hs (c_Row_init _ (N := 8) (x := (8 : Int32)) (by decide) (by decide) (Nat.le_of_ble_eq_true rfl)) d_Hands_init_50 1 qw_185 qw_47 qw_4 qw_48 rfl hd_Row_init rfl rfl (Nat.le_of_ble_eq_true rfl) ⟨(Nat.le_of_ble_eq_true rfl), (Nat.le_of_ble_eq_true rfl)⟩ ⟨(Nat.le_of_ble_eq_true rfl), (Nat.le_of_ble_eq_true rfl)⟩ (Nat.le_of_ble_eq_true rfl) rfl ha (by rw [hk]; decide +kernel) (by rw [hz]; decide +kernel) (fun _ _ => rfl) (fun _ _ => rfl) ?_
  refine gc_putF t_Hands C hnm 3 (W1_c (Nat.le_of_ble_eq_true rfl)) W1_0 d_Hands_init_53 i_Hands rfl (by decide) qw_196 rfl rfl t_Hands_ok n_Hands rfl (t_Hands_ok 3 (by decide)) rfl rfl (Nat.le_of_ble_eq_true rfl) ?_
  show GC E L _ 1 _ _ Q (W1 L (mm_0) h 9 3 [.ref (h + 1), .ref (h + 3), .ref (h + 5), .ref (h + 7)]) _ _ _
  have e9 : W1 L (mm_0) h 9 3 [.ref (h + 1), .ref (h + 3), .ref (h + 5), .ref (h + 7)] = wl L (mm_0) := by
    have := W1_full (L := L) (σ := (mm_0)) (h := h) (K := 3) (fs := [.ref (h + 1), .ref (h + 3), .ref (h + 5), .ref (h + 7)]) ha (by rw [hn]; decide) (by rw [hk]; rfl) (by decide) rfl
    rw [hn] at this; exact this
  refine gc_ws e9 ?_
  exact hN9 _ _ d_Hands_init_56

abbrev b_Rings_init : ByteArray := prog_7_method_1_code
def y_Rings_init : MethodName := ⟨"NameHat$Rings", "<init>", "()V"⟩
theorem hd_Rings_init : y_Rings_init.cls ≠ "java/lang/invoke/MethodHandle" ∧ y_Rings_init.cls ≠ "java/lang/invoke/VarHandle" ∧ (parseMethodDescriptor y_Rings_init.desc).map (fun d => d.parameters.length) = some 0 := by decide +kernel
theorem d_Rings_init_0 : decode b_Rings_init 0 = .ok (.aload_n 0, 1) := by decide +kernel
theorem d_Rings_init_1 : decode b_Rings_init 1 = .ok (.invokespecial 3, 3) := by decide +kernel
theorem d_Rings_init_4 : decode b_Rings_init 4 = .ok (.aload_n 0, 1) := by decide +kernel
theorem d_Rings_init_5 : decode b_Rings_init 5 = .ok (.new 9, 3) := by decide +kernel
theorem d_Rings_init_8 : decode b_Rings_init 8 = .ok (.dup, 1) := by decide +kernel
theorem d_Rings_init_9 : decode b_Rings_init 9 = .ok (.bipush 8, 2) := by decide +kernel
theorem d_Rings_init_11 : decode b_Rings_init 11 = .ok (.invokespecial 11, 3) := by decide +kernel
theorem d_Rings_init_14 : decode b_Rings_init 14 = .ok (.putfield 14, 3) := by decide +kernel
theorem d_Rings_init_17 : decode b_Rings_init 17 = .ok (.aload_n 0, 1) := by decide +kernel
theorem d_Rings_init_18 : decode b_Rings_init 18 = .ok (.new 9, 3) := by decide +kernel
theorem d_Rings_init_21 : decode b_Rings_init 21 = .ok (.dup, 1) := by decide +kernel
theorem d_Rings_init_22 : decode b_Rings_init 22 = .ok (.bipush 8, 2) := by decide +kernel
theorem d_Rings_init_24 : decode b_Rings_init 24 = .ok (.invokespecial 11, 3) := by decide +kernel
theorem d_Rings_init_27 : decode b_Rings_init 27 = .ok (.putfield 20, 3) := by decide +kernel
theorem d_Rings_init_30 : decode b_Rings_init 30 = .ok (.aload_n 0, 1) := by decide +kernel
theorem d_Rings_init_31 : decode b_Rings_init 31 = .ok (.new 9, 3) := by decide +kernel
theorem d_Rings_init_34 : decode b_Rings_init 34 = .ok (.dup, 1) := by decide +kernel
theorem d_Rings_init_35 : decode b_Rings_init 35 = .ok (.bipush 8, 2) := by decide +kernel
theorem d_Rings_init_37 : decode b_Rings_init 37 = .ok (.invokespecial 11, 3) := by decide +kernel
theorem d_Rings_init_40 : decode b_Rings_init 40 = .ok (.putfield 23, 3) := by decide +kernel
theorem d_Rings_init_43 : decode b_Rings_init 43 = .ok (.return_, 1) := by decide +kernel
def kl_Rings : List Nat := [5, 0, 20, 0, 20, 0, 20]
def zl_Rings : List Nat := [0, 0, 8, 0, 8, 0, 8]
abbrev kd_Rings : Nat → Nat := fun o => kl_Rings.getD o 99
abbrev z_Rings : Nat → Nat := fun o => zl_Rings.getD o 0
abbrev rm_Rings_init : Room := { frames := 2, cells := 6, slots := 27, locals := 41 }
set_option maxHeartbeats 4000000 in
set_option maxRecDepth 100000 in
theorem c_Rings_init (l : Launch) : CtC l y_Rings_init b_Rings_init 1 rm_Rings_init 5 kd_Rings z_Rings 7 [] [.null, .int 0, .null, .null] (mm_0) := by
  refine ct_c (fun D ca sp h => gd_list (kl := kl_Rings) (by decide +kernel) (by decide +kernel)) (by decide) rfl (fun h => Nat.le_of_ble_eq_true rfl) ?_
  intro E L h Q hE ha hk hz hn C hs hnm hN9
  subst hE
  show GC E L _ 1 0 0 Q (W1 L (mm_0) h 1 5 [.null, .int 0, .null, .null]) 0 [(0, .ref h)] []
  refine gc_aload_n C 0 d_Rings_init_0 rfl rfl ?_
  refine gc_obj C d_Rings_init_1 qw_325 qw_30 qw_31 (Nat.le_of_ble_eq_true rfl) ⟨(Nat.le_of_ble_eq_true rfl), (Nat.le_of_ble_eq_true rfl)⟩ ?_
  refine gc_aload_n C 0 d_Rings_init_4 rfl rfl ?_
  refine gc_new (n := 1) (K9 := 0) (N9 := 1) (C9 := R_Row) (T9 := F_Row) (fs9 := [.null]) t_Row C hs (W1_c (Nat.le_of_ble_eq_true rfl)) (W1_len (Nat.le_of_ble_eq_true rfl)) rfl d_Rings_init_5 rfl i_Row t_Row_ok qw_326 qw_45 qw_4 (fun j hj => by obtain rfl : j = 0 := (by omega); exact rfl) (Nat.le_of_ble_eq_true rfl) (Nat.le_of_ble_eq_true rfl) ?_
  refine gc_dup C d_Rings_init_8 rfl ?_
  refine gc_bipush C (8 : Int32) d_Rings_init_9 (by decide) ?_
  refine gc_call (n := 1) (σ := (mm_0)) C hs (c_Row_init _ (N := 8) (x := (8 : Int32)) (by decide) (by decide) (Nat.le_of_ble_eq_true rfl)) d_Rings_init_11 1 qw_327 qw_47 qw_4 qw_48 rfl hd_Row_init rfl rfl (Nat.le_of_ble_eq_true rfl) ⟨(Nat.le_of_ble_eq_true rfl), (Nat.le_of_ble_eq_true rfl)⟩ ⟨(Nat.le_of_ble_eq_true rfl), (Nat.le_of_ble_eq_true rfl)⟩ (Nat.le_of_ble_eq_true rfl) rfl ha (by rw [hk]; decide +kernel) (by rw [hz]; decide +kernel) (fun _ _ => rfl) (fun _ _ => rfl) ?_
  refine gc_putF t_Rings C hnm 0 (W1_c (Nat.le_of_ble_eq_true rfl)) W1_0 d_Rings_init_14 i_Rings rfl (by decide) qw_328 rfl rfl t_Rings_ok n_Rings rfl (t_Rings_ok 0 (by decide)) rfl rfl (Nat.le_of_ble_eq_true rfl) ?_
  show GC E L _ 1 _ _ Q (W1 L (mm_0) h 3 5 [.ref (h + 1), .int 0, .null, .null]) _ _ _
  refine gc_aload_n C 0 d_Rings_init_17 rfl rfl ?_
  refine gc_new (n := 3) (K9 := 0) (N9 := 1) (C9 := R_Row) (T9 := F_Row) (fs9 := [.null]) t_Row C hs (W1_c (Nat.le_of_ble_eq_true rfl)) (W1_len (Nat.le_of_ble_eq_true rfl)) rfl d_Rings_init_18 rfl i_Row t_Row_ok qw_326 qw_45 qw_4 (fun j hj => by obtain rfl : j = 0 := (by omega); exact rfl) (Nat.le_of_ble_eq_true rfl) (Nat.le_of_ble_eq_true rfl) ?_
  refine gc_dup C d_Rings_init_21 rfl ?_
  refine gc_bipush C (8 : Int32) d_Rings_init_22 (by decide) ?_
  refine gc_call (n := 3) (σ := (mm_0)) C hs (c_Row_init _ (N := 8) (x := (8 : Int32)) (by decide) (by decide) (Nat.le_of_ble_eq_true rfl)) d_Rings_init_24 1 qw_327 qw_47 qw_4 qw_48 rfl hd_Row_init rfl rfl (Nat.le_of_ble_eq_true rfl) ⟨(Nat.le_of_ble_eq_true rfl), (Nat.le_of_ble_eq_true rfl)⟩ ⟨(Nat.le_of_ble_eq_true rfl), (Nat.le_of_ble_eq_true rfl)⟩ (Nat.le_of_ble_eq_true rfl) rfl ha (by rw [hk]; decide +kernel) (by rw [hz]; decide +kernel) (fun _ _ => rfl) (fun _ _ => rfl) ?_
  refine gc_putF t_Rings C hnm 2 (W1_c (Nat.le_of_ble_eq_true rfl)) W1_0 d_Rings_init_27 i_Rings rfl (by decide) qw_332 rfl rfl t_Rings_ok n_Rings rfl (t_Rings_ok 2 (by decide)) rfl rfl (Nat.le_of_ble_eq_true rfl) ?_
  show GC E L _ 1 _ _ Q (W1 L (mm_0) h 5 5 [.ref (h + 1), .int 0, .ref (h + 3), .null]) _ _ _
  refine gc_aload_n C 0 d_Rings_init_30 rfl rfl ?_
  refine gc_new (n := 5) (K9 := 0) (N9 := 1) (C9 := R_Row) (T9 := F_Row) (fs9 := [.null]) t_Row C hs (W1_c (Nat.le_of_ble_eq_true rfl)) (W1_len (Nat.le_of_ble_eq_true rfl)) rfl d_Rings_init_31 rfl i_Row t_Row_ok qw_326 qw_45 qw_4 (fun j hj => by obtain rfl : j = 0 := (by omega); exact rfl) (Nat.le_of_ble_eq_true rfl) (Nat.le_of_ble_eq_true rfl) ?_
  refine gc_dup C d_Rings_init_34 rfl ?_
  refine gc_bipush C (8 : Int32) d_Rings_init_35 (by decide) ?_
  refine gc_call (n := 5) (σ := (mm_0)) C hs (c_Row_init _ (N := 8) (x := (8 : Int32)) (by decide) (by decide) (Nat.le_of_ble_eq_true rfl)) d_Rings_init_37 1 qw_327 qw_47 qw_4 qw_48 rfl hd_Row_init rfl rfl (Nat.le_of_ble_eq_true rfl) ⟨(Nat.le_of_ble_eq_true rfl), (Nat.le_of_ble_eq_true rfl)⟩ ⟨(Nat.le_of_ble_eq_true rfl), (Nat.le_of_ble_eq_true rfl)⟩ (Nat.le_of_ble_eq_true rfl) rfl ha (by rw [hk]; decide +kernel) (by rw [hz]; decide +kernel) (fun _ _ => rfl) (fun _ _ => rfl) ?_
  refine gc_putF t_Rings C hnm 3 (W1_c (Nat.le_of_ble_eq_true rfl)) W1_0 d_Rings_init_40 i_Rings rfl (by decide) qw_333 rfl rfl t_Rings_ok n_Rings rfl (t_Rings_ok 3 (by decide)) rfl rfl (Nat.le_of_ble_eq_true rfl) ?_
  show GC E L _ 1 _ _ Q (W1 L (mm_0) h 7 5 [.ref (h + 1), .int 0, .ref (h + 3), .ref (h + 5)]) _ _ _
  have e9 : W1 L (mm_0) h 7 5 [.ref (h + 1), .int 0, .ref (h + 3), .ref (h + 5)] = wl L (mm_0) := by
    have := W1_full (L := L) (σ := (mm_0)) (h := h) (K := 5) (fs := [.ref (h + 1), .int 0, .ref (h + 3), .ref (h + 5)]) ha (by rw [hn]; decide) (by rw [hk]; rfl) (by decide) rfl
    rw [hn] at this; exact this
  refine gc_ws e9 ?_
  exact hN9 _ _ d_Rings_init_43

abbrev b_Dealings_init : ByteArray := prog_2_method_1_code
def y_Dealings_init : MethodName := ⟨"NameHat$Dealings", "<init>", "()V"⟩
theorem hd_Dealings_init : y_Dealings_init.cls ≠ "java/lang/invoke/MethodHandle" ∧ y_Dealings_init.cls ≠ "java/lang/invoke/VarHandle" ∧ (parseMethodDescriptor y_Dealings_init.desc).map (fun d => d.parameters.length) = some 0 := by decide +kernel
theorem d_Dealings_init_0 : decode b_Dealings_init 0 = .ok (.aload_n 0, 1) := by decide +kernel
theorem d_Dealings_init_1 : decode b_Dealings_init 1 = .ok (.invokespecial 3, 3) := by decide +kernel
theorem d_Dealings_init_4 : decode b_Dealings_init 4 = .ok (.aload_n 0, 1) := by decide +kernel
theorem d_Dealings_init_5 : decode b_Dealings_init 5 = .ok (.new 9, 3) := by decide +kernel
theorem d_Dealings_init_8 : decode b_Dealings_init 8 = .ok (.dup, 1) := by decide +kernel
theorem d_Dealings_init_9 : decode b_Dealings_init 9 = .ok (.sipush 1024, 3) := by decide +kernel
theorem d_Dealings_init_12 : decode b_Dealings_init 12 = .ok (.invokespecial 11, 3) := by decide +kernel
theorem d_Dealings_init_15 : decode b_Dealings_init 15 = .ok (.putfield 14, 3) := by decide +kernel
theorem d_Dealings_init_18 : decode b_Dealings_init 18 = .ok (.return_, 1) := by decide +kernel
def kl_Dealings : List Nat := [7, 0, 20]
def zl_Dealings : List Nat := [0, 0, 1024]
abbrev kd_Dealings : Nat → Nat := fun o => kl_Dealings.getD o 99
abbrev z_Dealings : Nat → Nat := fun o => zl_Dealings.getD o 0
abbrev rm_Dealings_init : Room := { frames := 2, cells := 2, slots := 1025, locals := 41 }
set_option maxHeartbeats 4000000 in
set_option maxRecDepth 100000 in
theorem c_Dealings_init (l : Launch) : CtC l y_Dealings_init b_Dealings_init 1 rm_Dealings_init 7 kd_Dealings z_Dealings 3 [] [.null, .int 0, .int 0] (mm_0) := by
  refine ct_c (fun D ca sp h => gd_list (kl := kl_Dealings) (by decide +kernel) (by decide +kernel)) (by decide) rfl (fun h => Nat.le_of_ble_eq_true rfl) ?_
  intro E L h Q hE ha hk hz hn C hs hnm hN9
  subst hE
  show GC E L _ 1 0 0 Q (W1 L (mm_0) h 1 7 [.null, .int 0, .int 0]) 0 [(0, .ref h)] []
  refine gc_aload_n C 0 d_Dealings_init_0 rfl rfl ?_
  refine gc_obj C d_Dealings_init_1 qw_390 qw_30 qw_31 (Nat.le_of_ble_eq_true rfl) ⟨(Nat.le_of_ble_eq_true rfl), (Nat.le_of_ble_eq_true rfl)⟩ ?_
  refine gc_aload_n C 0 d_Dealings_init_4 rfl rfl ?_
  refine gc_new (n := 1) (K9 := 0) (N9 := 1) (C9 := R_Row) (T9 := F_Row) (fs9 := [.null]) t_Row C hs (W1_c (Nat.le_of_ble_eq_true rfl)) (W1_len (Nat.le_of_ble_eq_true rfl)) rfl d_Dealings_init_5 rfl i_Row t_Row_ok qw_391 qw_45 qw_4 (fun j hj => by obtain rfl : j = 0 := (by omega); exact rfl) (Nat.le_of_ble_eq_true rfl) (Nat.le_of_ble_eq_true rfl) ?_
  refine gc_dup C d_Dealings_init_8 rfl ?_
  refine gc_sipush C (1024 : Int32) d_Dealings_init_9 (by decide) ?_
  refine gc_call (n := 1) (σ := (mm_0)) C hs (c_Row_init _ (N := 1024) (x := (1024 : Int32)) (by decide) (by decide) (Nat.le_of_ble_eq_true rfl)) d_Dealings_init_12 1 qw_392 qw_47 qw_4 qw_48 rfl hd_Row_init rfl rfl (Nat.le_of_ble_eq_true rfl) ⟨(Nat.le_of_ble_eq_true rfl), (Nat.le_of_ble_eq_true rfl)⟩ ⟨(Nat.le_of_ble_eq_true rfl), (Nat.le_of_ble_eq_true rfl)⟩ (Nat.le_of_ble_eq_true rfl) rfl ha (by rw [hk]; decide +kernel) (by rw [hz]; decide +kernel) (fun _ _ => rfl) (fun _ _ => rfl) ?_
  refine gc_putF t_Dealings C hnm 0 (W1_c (Nat.le_of_ble_eq_true rfl)) W1_0 d_Dealings_init_15 i_Dealings rfl (by decide) qw_393 rfl rfl t_Dealings_ok n_Dealings rfl (t_Dealings_ok 0 (by decide)) rfl rfl (Nat.le_of_ble_eq_true rfl) ?_
  show GC E L _ 1 _ _ Q (W1 L (mm_0) h 3 7 [.ref (h + 1), .int 0, .int 0]) _ _ _
  have e9 : W1 L (mm_0) h 3 7 [.ref (h + 1), .int 0, .int 0] = wl L (mm_0) := by
    have := W1_full (L := L) (σ := (mm_0)) (h := h) (K := 7) (fs := [.ref (h + 1), .int 0, .int 0]) ha (by rw [hn]; decide) (by rw [hk]; rfl) (by decide) rfl
    rw [hn] at this; exact this
  refine gc_ws e9 ?_
  exact hN9 _ _ d_Dealings_init_18

abbrev b_Tokens_init : ByteArray := prog_11_method_1_code
def y_Tokens_init : MethodName := ⟨"NameHat$Tokens", "<init>", "()V"⟩
theorem hd_Tokens_init : y_Tokens_init.cls ≠ "java/lang/invoke/MethodHandle" ∧ y_Tokens_init.cls ≠ "java/lang/invoke/VarHandle" ∧ (parseMethodDescriptor y_Tokens_init.desc).map (fun d => d.parameters.length) = some 0 := by decide +kernel
theorem d_Tokens_init_0 : decode b_Tokens_init 0 = .ok (.aload_n 0, 1) := by decide +kernel
theorem d_Tokens_init_1 : decode b_Tokens_init 1 = .ok (.invokespecial 3, 3) := by decide +kernel
theorem d_Tokens_init_4 : decode b_Tokens_init 4 = .ok (.aload_n 0, 1) := by decide +kernel
theorem d_Tokens_init_5 : decode b_Tokens_init 5 = .ok (.new 9, 3) := by decide +kernel
theorem d_Tokens_init_8 : decode b_Tokens_init 8 = .ok (.dup, 1) := by decide +kernel
theorem d_Tokens_init_9 : decode b_Tokens_init 9 = .ok (.sipush 940, 3) := by decide +kernel
theorem d_Tokens_init_12 : decode b_Tokens_init 12 = .ok (.invokespecial 11, 3) := by decide +kernel
theorem d_Tokens_init_15 : decode b_Tokens_init 15 = .ok (.putfield 14, 3) := by decide +kernel
theorem d_Tokens_init_18 : decode b_Tokens_init 18 = .ok (.return_, 1) := by decide +kernel
def kl_Tokens : List Nat := [8, 0, 20]
def zl_Tokens : List Nat := [0, 0, 940]
abbrev kd_Tokens : Nat → Nat := fun o => kl_Tokens.getD o 99
abbrev z_Tokens : Nat → Nat := fun o => zl_Tokens.getD o 0
abbrev rm_Tokens_init : Room := { frames := 2, cells := 2, slots := 941, locals := 41 }
set_option maxHeartbeats 4000000 in
set_option maxRecDepth 100000 in
theorem c_Tokens_init (l : Launch) : CtC l y_Tokens_init b_Tokens_init 1 rm_Tokens_init 8 kd_Tokens z_Tokens 3 [] [.null, .int 0, .int 0, .int 0, .int 0, .int 0, .int 0, .long 0, .int 0] (mm_0) := by
  refine ct_c (fun D ca sp h => gd_list (kl := kl_Tokens) (by decide +kernel) (by decide +kernel)) (by decide) rfl (fun h => Nat.le_of_ble_eq_true rfl) ?_
  intro E L h Q hE ha hk hz hn C hs hnm hN9
  subst hE
  show GC E L _ 1 0 0 Q (W1 L (mm_0) h 1 8 [.null, .int 0, .int 0, .int 0, .int 0, .int 0, .int 0, .long 0, .int 0]) 0 [(0, .ref h)] []
  refine gc_aload_n C 0 d_Tokens_init_0 rfl rfl ?_
  refine gc_obj C d_Tokens_init_1 qw_43 qw_30 qw_31 (Nat.le_of_ble_eq_true rfl) ⟨(Nat.le_of_ble_eq_true rfl), (Nat.le_of_ble_eq_true rfl)⟩ ?_
  refine gc_aload_n C 0 d_Tokens_init_4 rfl rfl ?_
  refine gc_new (n := 1) (K9 := 0) (N9 := 1) (C9 := R_Row) (T9 := F_Row) (fs9 := [.null]) t_Row C hs (W1_c (Nat.le_of_ble_eq_true rfl)) (W1_len (Nat.le_of_ble_eq_true rfl)) rfl d_Tokens_init_5 rfl i_Row t_Row_ok qw_44 qw_45 qw_4 (fun j hj => by obtain rfl : j = 0 := (by omega); exact rfl) (Nat.le_of_ble_eq_true rfl) (Nat.le_of_ble_eq_true rfl) ?_
  refine gc_dup C d_Tokens_init_8 rfl ?_
  refine gc_sipush C (940 : Int32) d_Tokens_init_9 (by decide) ?_
  refine gc_call (n := 1) (σ := (mm_0)) C hs (c_Row_init _ (N := 940) (x := (940 : Int32)) (by decide) (by decide) (Nat.le_of_ble_eq_true rfl)) d_Tokens_init_12 1 qw_46 qw_47 qw_4 qw_48 rfl hd_Row_init rfl rfl (Nat.le_of_ble_eq_true rfl) ⟨(Nat.le_of_ble_eq_true rfl), (Nat.le_of_ble_eq_true rfl)⟩ ⟨(Nat.le_of_ble_eq_true rfl), (Nat.le_of_ble_eq_true rfl)⟩ (Nat.le_of_ble_eq_true rfl) rfl ha (by rw [hk]; decide +kernel) (by rw [hz]; decide +kernel) (fun _ _ => rfl) (fun _ _ => rfl) ?_
  refine gc_putF t_Tokens C hnm 0 (W1_c (Nat.le_of_ble_eq_true rfl)) W1_0 d_Tokens_init_15 i_Tokens rfl (by decide) qw_55 rfl rfl t_Tokens_ok n_Tokens rfl (t_Tokens_ok 0 (by decide)) rfl rfl (Nat.le_of_ble_eq_true rfl) ?_
  show GC E L _ 1 _ _ Q (W1 L (mm_0) h 3 8 [.ref (h + 1), .int 0, .int 0, .int 0, .int 0, .int 0, .int 0, .long 0, .int 0]) _ _ _
  have e9 : W1 L (mm_0) h 3 8 [.ref (h + 1), .int 0, .int 0, .int 0, .int 0, .int 0, .int 0, .long 0, .int 0] = wl L (mm_0) := by
    have := W1_full (L := L) (σ := (mm_0)) (h := h) (K := 8) (fs := [.ref (h + 1), .int 0, .int 0, .int 0, .int 0, .int 0, .int 0, .long 0, .int 0]) ha (by rw [hn]; decide) (by rw [hk]; rfl) (by decide) rfl
    rw [hn] at this; exact this
  refine gc_ws e9 ?_
  exact hN9 _ _ d_Tokens_init_18

abbrev b_Seating_init : ByteArray := prog_9_method_1_code
def y_Seating_init : MethodName := ⟨"NameHat$Seating", "<init>", "()V"⟩
theorem hd_Seating_init : y_Seating_init.cls ≠ "java/lang/invoke/MethodHandle" ∧ y_Seating_init.cls ≠ "java/lang/invoke/VarHandle" ∧ (parseMethodDescriptor y_Seating_init.desc).map (fun d => d.parameters.length) = some 0 := by decide +kernel
theorem d_Seating_init_0 : decode b_Seating_init 0 = .ok (.aload_n 0, 1) := by decide +kernel
theorem d_Seating_init_1 : decode b_Seating_init 1 = .ok (.invokespecial 3, 3) := by decide +kernel
theorem d_Seating_init_4 : decode b_Seating_init 4 = .ok (.aload_n 0, 1) := by decide +kernel
theorem d_Seating_init_5 : decode b_Seating_init 5 = .ok (.new 9, 3) := by decide +kernel
theorem d_Seating_init_8 : decode b_Seating_init 8 = .ok (.dup, 1) := by decide +kernel
theorem d_Seating_init_9 : decode b_Seating_init 9 = .ok (.bipush 8, 2) := by decide +kernel
theorem d_Seating_init_11 : decode b_Seating_init 11 = .ok (.invokespecial 11, 3) := by decide +kernel
theorem d_Seating_init_14 : decode b_Seating_init 14 = .ok (.putfield 14, 3) := by decide +kernel
theorem d_Seating_init_17 : decode b_Seating_init 17 = .ok (.aload_n 0, 1) := by decide +kernel
theorem d_Seating_init_18 : decode b_Seating_init 18 = .ok (.iconst (-1), 1) := by decide +kernel
theorem d_Seating_init_19 : decode b_Seating_init 19 = .ok (.putfield 20, 3) := by decide +kernel
theorem d_Seating_init_22 : decode b_Seating_init 22 = .ok (.aload_n 0, 1) := by decide +kernel
theorem d_Seating_init_23 : decode b_Seating_init 23 = .ok (.new 9, 3) := by decide +kernel
theorem d_Seating_init_26 : decode b_Seating_init 26 = .ok (.dup, 1) := by decide +kernel
theorem d_Seating_init_27 : decode b_Seating_init 27 = .ok (.bipush 8, 2) := by decide +kernel
theorem d_Seating_init_29 : decode b_Seating_init 29 = .ok (.invokespecial 11, 3) := by decide +kernel
theorem d_Seating_init_32 : decode b_Seating_init 32 = .ok (.putfield 24, 3) := by decide +kernel
theorem d_Seating_init_35 : decode b_Seating_init 35 = .ok (.aload_n 0, 1) := by decide +kernel
theorem d_Seating_init_36 : decode b_Seating_init 36 = .ok (.new 9, 3) := by decide +kernel
theorem d_Seating_init_39 : decode b_Seating_init 39 = .ok (.dup, 1) := by decide +kernel
theorem d_Seating_init_40 : decode b_Seating_init 40 = .ok (.bipush 8, 2) := by decide +kernel
theorem d_Seating_init_42 : decode b_Seating_init 42 = .ok (.invokespecial 11, 3) := by decide +kernel
theorem d_Seating_init_45 : decode b_Seating_init 45 = .ok (.putfield 27, 3) := by decide +kernel
theorem d_Seating_init_48 : decode b_Seating_init 48 = .ok (.aload_n 0, 1) := by decide +kernel
theorem d_Seating_init_49 : decode b_Seating_init 49 = .ok (.new 9, 3) := by decide +kernel
theorem d_Seating_init_52 : decode b_Seating_init 52 = .ok (.dup, 1) := by decide +kernel
theorem d_Seating_init_53 : decode b_Seating_init 53 = .ok (.iconst 4, 1) := by decide +kernel
theorem d_Seating_init_54 : decode b_Seating_init 54 = .ok (.invokespecial 11, 3) := by decide +kernel
theorem d_Seating_init_57 : decode b_Seating_init 57 = .ok (.putfield 30, 3) := by decide +kernel
theorem d_Seating_init_60 : decode b_Seating_init 60 = .ok (.aload_n 0, 1) := by decide +kernel
theorem d_Seating_init_61 : decode b_Seating_init 61 = .ok (.new 9, 3) := by decide +kernel
theorem d_Seating_init_64 : decode b_Seating_init 64 = .ok (.dup, 1) := by decide +kernel
theorem d_Seating_init_65 : decode b_Seating_init 65 = .ok (.bipush 8, 2) := by decide +kernel
theorem d_Seating_init_67 : decode b_Seating_init 67 = .ok (.invokespecial 11, 3) := by decide +kernel
theorem d_Seating_init_70 : decode b_Seating_init 70 = .ok (.putfield 33, 3) := by decide +kernel
theorem d_Seating_init_73 : decode b_Seating_init 73 = .ok (.return_, 1) := by decide +kernel
def kl_Seating : List Nat := [6, 0, 20, 0, 20, 0, 20, 0, 20, 0, 20]
def zl_Seating : List Nat := [0, 0, 8, 0, 8, 0, 8, 0, 4, 0, 8]
abbrev kd_Seating : Nat → Nat := fun o => kl_Seating.getD o 99
abbrev z_Seating : Nat → Nat := fun o => zl_Seating.getD o 0
abbrev rm_Seating_init : Room := { frames := 2, cells := 10, slots := 41, locals := 41 }
set_option maxHeartbeats 4000000 in
set_option maxRecDepth 100000 in
theorem c_Seating_init (l : Launch) : CtC l y_Seating_init b_Seating_init 1 rm_Seating_init 6 kd_Seating z_Seating 11 [] [.null, .int 0, .null, .null, .null, .null, .int 0, .int 0, .int 0] (kI mm_0 0 1 (-1)) := by
  refine ct_c (fun D ca sp h => gd_list (kl := kl_Seating) (by decide +kernel) (by decide +kernel)) (by decide) rfl (fun h => Nat.le_of_ble_eq_true rfl) ?_
  intro E L h Q hE ha hk hz hn C hs hnm hN9
  subst hE
  show GC E L _ 1 0 0 Q (W1 L (kI mm_0 0 1 (-1)) h 1 6 [.null, .int 0, .null, .null, .null, .null, .int 0, .int 0, .int 0]) 0 [(0, .ref h)] []
  refine gc_aload_n C 0 d_Seating_init_0 rfl rfl ?_
  refine gc_obj C d_Seating_init_1 qw_348 qw_30 qw_31 (Nat.le_of_ble_eq_true rfl) ⟨(Nat.le_of_ble_eq_true rfl), (Nat.le_of_ble_eq_true rfl)⟩ ?_
  refine gc_aload_n C 0 d_Seating_init_4 rfl rfl ?_
  refine gc_new (n := 1) (K9 := 0) (N9 := 1) (C9 := R_Row) (T9 := F_Row) (fs9 := [.null]) t_Row C hs (W1_c (Nat.le_of_ble_eq_true rfl)) (W1_len (Nat.le_of_ble_eq_true rfl)) rfl d_Seating_init_5 rfl i_Row t_Row_ok qw_349 qw_45 qw_4 (fun j hj => by obtain rfl : j = 0 := (by omega); exact rfl) (Nat.le_of_ble_eq_true rfl) (Nat.le_of_ble_eq_true rfl) ?_
  refine gc_dup C d_Seating_init_8 rfl ?_
  refine gc_bipush C (8 : Int32) d_Seating_init_9 (by decide) ?_
  refine gc_call (n := 1) (σ := (kI mm_0 0 1 (-1))) C hs (c_Row_init _ (N := 8) (x := (8 : Int32)) (by decide) (by decide) (Nat.le_of_ble_eq_true rfl)) d_Seating_init_11 1 qw_350 qw_47 qw_4 qw_48 rfl hd_Row_init rfl rfl (Nat.le_of_ble_eq_true rfl) ⟨(Nat.le_of_ble_eq_true rfl), (Nat.le_of_ble_eq_true rfl)⟩ ⟨(Nat.le_of_ble_eq_true rfl), (Nat.le_of_ble_eq_true rfl)⟩ (Nat.le_of_ble_eq_true rfl) rfl ha (by rw [hk]; decide +kernel) (by rw [hz]; decide +kernel) (fun o ho => kI_o _ _ _ _ (by omega)) (fun o ho => rfl) ?_
  refine gc_putF t_Seating C hnm 0 (W1_c (Nat.le_of_ble_eq_true rfl)) W1_0 d_Seating_init_14 i_Seating rfl (by decide) qw_351 rfl rfl t_Seating_ok n_Seating rfl (t_Seating_ok 0 (by decide)) rfl rfl (Nat.le_of_ble_eq_true rfl) ?_
  show GC E L _ 1 _ _ Q (W1 L (kI mm_0 0 1 (-1)) h 3 6 [.ref (h + 1), .int 0, .null, .null, .null, .null, .int 0, .int 0, .int 0]) _ _ _
  refine gc_aload_n C 0 d_Seating_init_17 rfl rfl ?_
  refine gc_iconst C ((-1) : Int32) d_Seating_init_18 (by decide) ?_
  refine gc_putI t_Seating C 1 (W1_c (Nat.le_of_ble_eq_true rfl)) W1_0 d_Seating_init_19 i_Seating rfl (by decide) qw_353 rfl rfl t_Seating_ok n_Seating rfl (t_Seating_ok 1 (by decide)) rfl rfl (Nat.le_of_ble_eq_true rfl) ?_
  show GC E L _ 1 _ _ Q (W1 L (kI mm_0 0 1 (-1)) h 3 6 [.ref (h + 1), .int ((-1) : Int32), .null, .null, .null, .null, .int 0, .int 0, .int 0]) _ _ _
  refine gc_aload_n C 0 d_Seating_init_22 rfl rfl ?_
  refine gc_new (n := 3) (K9 := 0) (N9 := 1) (C9 := R_Row) (T9 := F_Row) (fs9 := [.null]) t_Row C hs (W1_c (Nat.le_of_ble_eq_true rfl)) (W1_len (Nat.le_of_ble_eq_true rfl)) rfl d_Seating_init_23 rfl i_Row t_Row_ok qw_349 qw_45 qw_4 (fun j hj => by obtain rfl : j = 0 := (by omega); exact rfl) (Nat.le_of_ble_eq_true rfl) (Nat.le_of_ble_eq_true rfl) ?_
  refine gc_dup C d_Seating_init_26 rfl ?_
  refine gc_bipush C (8 : Int32) d_Seating_init_27 (by decide) ?_
  refine gc_call (n := 3) (σ := (kI mm_0 0 1 (-1))) C hs (c_Row_init _ (N := 8) (x := (8 : Int32)) (by decide) (by decide) (Nat.le_of_ble_eq_true rfl)) d_Seating_init_29 1 qw_350 qw_47 qw_4 qw_48 rfl hd_Row_init rfl rfl (Nat.le_of_ble_eq_true rfl) ⟨(Nat.le_of_ble_eq_true rfl), (Nat.le_of_ble_eq_true rfl)⟩ ⟨(Nat.le_of_ble_eq_true rfl), (Nat.le_of_ble_eq_true rfl)⟩ (Nat.le_of_ble_eq_true rfl) rfl ha (by rw [hk]; decide +kernel) (by rw [hz]; decide +kernel) (fun o ho => kI_o _ _ _ _ (by omega)) (fun o ho => rfl) ?_
  refine gc_putF t_Seating C hnm 2 (W1_c (Nat.le_of_ble_eq_true rfl)) W1_0 d_Seating_init_32 i_Seating rfl (by decide) qw_355 rfl rfl t_Seating_ok n_Seating rfl (t_Seating_ok 2 (by decide)) rfl rfl (Nat.le_of_ble_eq_true rfl) ?_
  show GC E L _ 1 _ _ Q (W1 L (kI mm_0 0 1 (-1)) h 5 6 [.ref (h + 1), .int ((-1) : Int32), .ref (h + 3), .null, .null, .null, .int 0, .int 0, .int 0]) _ _ _
  refine gc_aload_n C 0 d_Seating_init_35 rfl rfl ?_
  refine gc_new (n := 5) (K9 := 0) (N9 := 1) (C9 := R_Row) (T9 := F_Row) (fs9 := [.null]) t_Row C hs (W1_c (Nat.le_of_ble_eq_true rfl)) (W1_len (Nat.le_of_ble_eq_true rfl)) rfl d_Seating_init_36 rfl i_Row t_Row_ok qw_349 qw_45 qw_4 (fun j hj => by obtain rfl : j = 0 := (by omega); exact rfl) (Nat.le_of_ble_eq_true rfl) (Nat.le_of_ble_eq_true rfl) ?_
  refine gc_dup C d_Seating_init_39 rfl ?_
  refine gc_bipush C (8 : Int32) d_Seating_init_40 (by decide) ?_
  refine gc_call (n := 5) (σ := (kI mm_0 0 1 (-1))) C hs (c_Row_init _ (N := 8) (x := (8 : Int32)) (by decide) (by decide) (Nat.le_of_ble_eq_true rfl)) d_Seating_init_42 1 qw_350 qw_47 qw_4 qw_48 rfl hd_Row_init rfl rfl (Nat.le_of_ble_eq_true rfl) ⟨(Nat.le_of_ble_eq_true rfl), (Nat.le_of_ble_eq_true rfl)⟩ ⟨(Nat.le_of_ble_eq_true rfl), (Nat.le_of_ble_eq_true rfl)⟩ (Nat.le_of_ble_eq_true rfl) rfl ha (by rw [hk]; decide +kernel) (by rw [hz]; decide +kernel) (fun o ho => kI_o _ _ _ _ (by omega)) (fun o ho => rfl) ?_
  refine gc_putF t_Seating C hnm 3 (W1_c (Nat.le_of_ble_eq_true rfl)) W1_0 d_Seating_init_45 i_Seating rfl (by decide) qw_356 rfl rfl t_Seating_ok n_Seating rfl (t_Seating_ok 3 (by decide)) rfl rfl (Nat.le_of_ble_eq_true rfl) ?_
  show GC E L _ 1 _ _ Q (W1 L (kI mm_0 0 1 (-1)) h 7 6 [.ref (h + 1), .int ((-1) : Int32), .ref (h + 3), .ref (h + 5), .null, .null, .int 0, .int 0, .int 0]) _ _ _
  refine gc_aload_n C 0 d_Seating_init_48 rfl rfl ?_
  refine gc_new (n := 7) (K9 := 0) (N9 := 1) (C9 := R_Row) (T9 := F_Row) (fs9 := [.null]) t_Row C hs (W1_c (Nat.le_of_ble_eq_true rfl)) (W1_len (Nat.le_of_ble_eq_true rfl)) rfl d_Seating_init_49 rfl i_Row t_Row_ok qw_349 qw_45 qw_4 (fun j hj => by obtain rfl : j = 0 := (by omega); exact rfl) (Nat.le_of_ble_eq_true rfl) (Nat.le_of_ble_eq_true rfl) ?_
  refine gc_dup C d_Seating_init_52 rfl ?_
  refine gc_iconst C (4 : Int32) d_Seating_init_53 (by decide) ?_
  refine gc_call (n := 7) (σ := (kI mm_0 0 1 (-1))) C hs (c_Row_init _ (N := 4) (x := (4 : Int32)) (by decide) (by decide) (Nat.le_of_ble_eq_true rfl)) d_Seating_init_54 1 qw_350 qw_47 qw_4 qw_48 rfl hd_Row_init rfl rfl (Nat.le_of_ble_eq_true rfl) ⟨(Nat.le_of_ble_eq_true rfl), (Nat.le_of_ble_eq_true rfl)⟩ ⟨(Nat.le_of_ble_eq_true rfl), (Nat.le_of_ble_eq_true rfl)⟩ (Nat.le_of_ble_eq_true rfl) rfl ha (by rw [hk]; decide +kernel) (by rw [hz]; decide +kernel) (fun o ho => kI_o _ _ _ _ (by omega)) (fun o ho => rfl) ?_
  refine gc_putF t_Seating C hnm 4 (W1_c (Nat.le_of_ble_eq_true rfl)) W1_0 d_Seating_init_57 i_Seating rfl (by decide) qw_357 rfl rfl t_Seating_ok n_Seating rfl (t_Seating_ok 4 (by decide)) rfl rfl (Nat.le_of_ble_eq_true rfl) ?_
  show GC E L _ 1 _ _ Q (W1 L (kI mm_0 0 1 (-1)) h 9 6 [.ref (h + 1), .int ((-1) : Int32), .ref (h + 3), .ref (h + 5), .ref (h + 7), .null, .int 0, .int 0, .int 0]) _ _ _
  refine gc_aload_n C 0 d_Seating_init_60 rfl rfl ?_
  refine gc_new (n := 9) (K9 := 0) (N9 := 1) (C9 := R_Row) (T9 := F_Row) (fs9 := [.null]) t_Row C hs (W1_c (Nat.le_of_ble_eq_true rfl)) (W1_len (Nat.le_of_ble_eq_true rfl)) rfl d_Seating_init_61 rfl i_Row t_Row_ok qw_349 qw_45 qw_4 (fun j hj => by obtain rfl : j = 0 := (by omega); exact rfl) (Nat.le_of_ble_eq_true rfl) (Nat.le_of_ble_eq_true rfl) ?_
  refine gc_dup C d_Seating_init_64 rfl ?_
  refine gc_bipush C (8 : Int32) d_Seating_init_65 (by decide) ?_
  refine gc_call (n := 9) (σ := (kI mm_0 0 1 (-1))) C hs (c_Row_init _ (N := 8) (x := (8 : Int32)) (by decide) (by decide) (Nat.le_of_ble_eq_true rfl)) d_Seating_init_67 1 qw_350 qw_47 qw_4 qw_48 rfl hd_Row_init rfl rfl (Nat.le_of_ble_eq_true rfl) ⟨(Nat.le_of_ble_eq_true rfl), (Nat.le_of_ble_eq_true rfl)⟩ ⟨(Nat.le_of_ble_eq_true rfl), (Nat.le_of_ble_eq_true rfl)⟩ (Nat.le_of_ble_eq_true rfl) rfl ha (by rw [hk]; decide +kernel) (by rw [hz]; decide +kernel) (fun o ho => kI_o _ _ _ _ (by omega)) (fun o ho => rfl) ?_
  refine gc_putF t_Seating C hnm 5 (W1_c (Nat.le_of_ble_eq_true rfl)) W1_0 d_Seating_init_70 i_Seating rfl (by decide) qw_358 rfl rfl t_Seating_ok n_Seating rfl (t_Seating_ok 5 (by decide)) rfl rfl (Nat.le_of_ble_eq_true rfl) ?_
  show GC E L _ 1 _ _ Q (W1 L (kI mm_0 0 1 (-1)) h 11 6 [.ref (h + 1), .int ((-1) : Int32), .ref (h + 3), .ref (h + 5), .ref (h + 7), .ref (h + 9), .int 0, .int 0, .int 0]) _ _ _
  have e9 : W1 L (kI mm_0 0 1 (-1)) h 11 6 [.ref (h + 1), .int ((-1) : Int32), .ref (h + 3), .ref (h + 5), .ref (h + 7), .ref (h + 9), .int 0, .int 0, .int 0] = wl L (kI mm_0 0 1 (-1)) := by
    have := W1_full (L := L) (σ := (kI mm_0 0 1 (-1))) (h := h) (K := 6) (fs := [.ref (h + 1), .int ((-1) : Int32), .ref (h + 3), .ref (h + 5), .ref (h + 7), .ref (h + 9), .int 0, .int 0, .int 0]) ha (by rw [hn]; decide) (by rw [hk]; rfl) (by decide) rfl
    rw [hn] at this; exact this
  refine gc_ws e9 ?_
  exact hN9 _ _ d_Seating_init_73

abbrev b_State_init : ByteArray := prog_10_method_1_code
def y_State_init : MethodName := ⟨"NameHat$State", "<init>", "()V"⟩
theorem hd_State_init : y_State_init.cls ≠ "java/lang/invoke/MethodHandle" ∧ y_State_init.cls ≠ "java/lang/invoke/VarHandle" ∧ (parseMethodDescriptor y_State_init.desc).map (fun d => d.parameters.length) = some 0 := by decide +kernel
theorem d_State_init_0 : decode b_State_init 0 = .ok (.aload_n 0, 1) := by decide +kernel
theorem d_State_init_1 : decode b_State_init 1 = .ok (.invokespecial 3, 3) := by decide +kernel
theorem d_State_init_4 : decode b_State_init 4 = .ok (.aload_n 0, 1) := by decide +kernel
theorem d_State_init_5 : decode b_State_init 5 = .ok (.new 9, 3) := by decide +kernel
theorem d_State_init_8 : decode b_State_init 8 = .ok (.dup, 1) := by decide +kernel
theorem d_State_init_9 : decode b_State_init 9 = .ok (.invokespecial 11, 3) := by decide +kernel
theorem d_State_init_12 : decode b_State_init 12 = .ok (.putfield 12, 3) := by decide +kernel
theorem d_State_init_15 : decode b_State_init 15 = .ok (.aload_n 0, 1) := by decide +kernel
theorem d_State_init_16 : decode b_State_init 16 = .ok (.new 18, 3) := by decide +kernel
theorem d_State_init_19 : decode b_State_init 19 = .ok (.dup, 1) := by decide +kernel
theorem d_State_init_20 : decode b_State_init 20 = .ok (.invokespecial 20, 3) := by decide +kernel
theorem d_State_init_23 : decode b_State_init 23 = .ok (.putfield 21, 3) := by decide +kernel
theorem d_State_init_26 : decode b_State_init 26 = .ok (.aload_n 0, 1) := by decide +kernel
theorem d_State_init_27 : decode b_State_init 27 = .ok (.new 25, 3) := by decide +kernel
theorem d_State_init_30 : decode b_State_init 30 = .ok (.dup, 1) := by decide +kernel
theorem d_State_init_31 : decode b_State_init 31 = .ok (.sipush 200, 3) := by decide +kernel
theorem d_State_init_34 : decode b_State_init 34 = .ok (.invokespecial 27, 3) := by decide +kernel
theorem d_State_init_37 : decode b_State_init 37 = .ok (.putfield 30, 3) := by decide +kernel
theorem d_State_init_40 : decode b_State_init 40 = .ok (.aload_n 0, 1) := by decide +kernel
theorem d_State_init_41 : decode b_State_init 41 = .ok (.new 25, 3) := by decide +kernel
theorem d_State_init_44 : decode b_State_init 44 = .ok (.dup, 1) := by decide +kernel
theorem d_State_init_45 : decode b_State_init 45 = .ok (.sipush 200, 3) := by decide +kernel
theorem d_State_init_48 : decode b_State_init 48 = .ok (.invokespecial 27, 3) := by decide +kernel
theorem d_State_init_51 : decode b_State_init 51 = .ok (.putfield 34, 3) := by decide +kernel
theorem d_State_init_54 : decode b_State_init 54 = .ok (.aload_n 0, 1) := by decide +kernel
theorem d_State_init_55 : decode b_State_init 55 = .ok (.new 25, 3) := by decide +kernel
theorem d_State_init_58 : decode b_State_init 58 = .ok (.dup, 1) := by decide +kernel
theorem d_State_init_59 : decode b_State_init 59 = .ok (.bipush 8, 2) := by decide +kernel
theorem d_State_init_61 : decode b_State_init 61 = .ok (.invokespecial 27, 3) := by decide +kernel
theorem d_State_init_64 : decode b_State_init 64 = .ok (.putfield 37, 3) := by decide +kernel
theorem d_State_init_67 : decode b_State_init 67 = .ok (.aload_n 0, 1) := by decide +kernel
theorem d_State_init_68 : decode b_State_init 68 = .ok (.new 25, 3) := by decide +kernel
theorem d_State_init_71 : decode b_State_init 71 = .ok (.dup, 1) := by decide +kernel
theorem d_State_init_72 : decode b_State_init 72 = .ok (.bipush 30, 2) := by decide +kernel
theorem d_State_init_74 : decode b_State_init 74 = .ok (.invokespecial 27, 3) := by decide +kernel
theorem d_State_init_77 : decode b_State_init 77 = .ok (.putfield 40, 3) := by decide +kernel
theorem d_State_init_80 : decode b_State_init 80 = .ok (.aload_n 0, 1) := by decide +kernel
theorem d_State_init_81 : decode b_State_init 81 = .ok (.new 25, 3) := by decide +kernel
theorem d_State_init_84 : decode b_State_init 84 = .ok (.dup, 1) := by decide +kernel
theorem d_State_init_85 : decode b_State_init 85 = .ok (.bipush 30, 2) := by decide +kernel
theorem d_State_init_87 : decode b_State_init 87 = .ok (.invokespecial 27, 3) := by decide +kernel
theorem d_State_init_90 : decode b_State_init 90 = .ok (.putfield 43, 3) := by decide +kernel
theorem d_State_init_93 : decode b_State_init 93 = .ok (.aload_n 0, 1) := by decide +kernel
theorem d_State_init_94 : decode b_State_init 94 = .ok (.new 25, 3) := by decide +kernel
theorem d_State_init_97 : decode b_State_init 97 = .ok (.dup, 1) := by decide +kernel
theorem d_State_init_98 : decode b_State_init 98 = .ok (.bipush 30, 2) := by decide +kernel
theorem d_State_init_100 : decode b_State_init 100 = .ok (.invokespecial 27, 3) := by decide +kernel
theorem d_State_init_103 : decode b_State_init 103 = .ok (.putfield 46, 3) := by decide +kernel
theorem d_State_init_106 : decode b_State_init 106 = .ok (.aload_n 0, 1) := by decide +kernel
theorem d_State_init_107 : decode b_State_init 107 = .ok (.invokevirtual 49, 3) := by decide +kernel
theorem d_State_init_110 : decode b_State_init 110 = .ok (.return_, 1) := by decide +kernel
def kl_State : List Nat := [4, 2, 1, 21, 1, 21, 0, 20, 0, 20, 0, 20, 0, 20, 3, 0, 20, 0, 20, 0, 20, 0, 20, 0, 20, 0, 20, 0, 20, 0, 20, 0, 20, 0, 20]
def zl_State : List Nat := [0, 0, 0, 10, 0, 8, 0, 10, 0, 10, 0, 10, 0, 80, 0, 0, 8, 0, 8, 0, 8, 0, 8, 0, 200, 0, 200, 0, 8, 0, 30, 0, 30, 0, 30]
abbrev kd_State : Nat → Nat := fun o => kl_State.getD o 99
abbrev z_State : Nat → Nat := fun o => zl_State.getD o 0
abbrev rm_State_init : Room := { frames := 3, cells := 34, slots := 689, locals := 62 }
set_option maxHeartbeats 4000000 in
set_option maxRecDepth 100000 in
theorem c_State_init (l : Launch) {σS : Mm} (hσ : f_State_clear z_State mm_0 0 = some σS) : CtC l y_State_init b_State_init 1 rm_State_init 4 kd_State z_State 35 [] [.null, .null, .int 0, .null, .null, .int 0, .null, .int 0, .null, .null, .null] σS := by
  refine ct_c (fun D ca sp h => gd_list (kl := kl_State) (by decide +kernel) (by decide +kernel)) (by decide) rfl (fun h => Nat.le_of_ble_eq_true rfl) ?_
  intro E L h Q hE ha hk hz hn C hs hnm hN9
  subst hE
  show GC E L _ 1 0 0 Q (W1 L (mm_0) h 1 4 [.null, .null, .int 0, .null, .null, .int 0, .null, .int 0, .null, .null, .null]) 0 [(0, .ref h)] []
  refine gc_aload_n C 0 d_State_init_0 rfl rfl ?_
  refine gc_obj C d_State_init_1 qw_94 qw_30 qw_31 (Nat.le_of_ble_eq_true rfl) ⟨(Nat.le_of_ble_eq_true rfl), (Nat.le_of_ble_eq_true rfl)⟩ ?_
  refine gc_aload_n C 0 d_State_init_4 rfl rfl ?_
  refine gc_new (n := 1) (K9 := 2) (N9 := 9) (C9 := R_Island) (T9 := F_Island) (fs9 := [.null, .null, .null, .null, .null, .null, .int 0, .int 0, .int 0]) t_Island C hs (W1_c (Nat.le_of_ble_eq_true rfl)) (W1_len (Nat.le_of_ble_eq_true rfl)) rfl d_State_init_5 rfl i_Island t_Island_ok qw_95 qw_96 qw_6 (fun j hj => by rcases (show j = 0 ∨ j = 1 ∨ j = 2 ∨ j = 3 ∨ j = 4 ∨ j = 5 ∨ j = 6 ∨ j = 7 ∨ j = 8 by omega) with rfl | rfl | rfl | rfl | rfl | rfl | rfl | rfl | rfl <;> rfl) (Nat.le_of_ble_eq_true rfl) (Nat.le_of_ble_eq_true rfl) ?_
  refine gc_dup C d_State_init_8 rfl ?_
  refine gc_callN (n := 1) (σ := (mm_0)) C hs (c_Island_init _) d_State_init_9 0 qw_97 qw_98 qw_6 qw_99 rfl hd_Island_init rfl rfl (Nat.le_of_ble_eq_true rfl) ⟨(Nat.le_of_ble_eq_true rfl), (Nat.le_of_ble_eq_true rfl)⟩ ⟨(Nat.le_of_ble_eq_true rfl), (Nat.le_of_ble_eq_true rfl)⟩ (Nat.le_of_ble_eq_true rfl) rfl ha (by rw [hk]; decide +kernel) (by rw [hz]; decide +kernel) (fun _ _ => rfl) (fun _ _ => rfl) ?_
  refine gc_putF t_State C hnm 0 (W1_c (Nat.le_of_ble_eq_true rfl)) W1_0 d_State_init_12 i_State rfl (by decide) qw_234 rfl rfl t_State_ok n_State rfl (t_State_ok 0 (by decide)) rfl rfl (Nat.le_of_ble_eq_true rfl) ?_
  show GC E L _ 1 _ _ Q (W1 L (mm_0) h 14 4 [.ref (h + 1), .null, .int 0, .null, .null, .int 0, .null, .int 0, .null, .null, .null]) _ _ _
  refine gc_aload_n C 0 d_State_init_15 rfl rfl ?_
  refine gc_new (n := 14) (K9 := 3) (N9 := 4) (C9 := R_Hands) (T9 := F_Hands) (fs9 := [.null, .null, .null, .null]) t_Hands C hs (W1_c (Nat.le_of_ble_eq_true rfl)) (W1_len (Nat.le_of_ble_eq_true rfl)) rfl d_State_init_16 rfl i_Hands t_Hands_ok qw_178 qw_179 qw_8 (fun j hj => by rcases (show j = 0 ∨ j = 1 ∨ j = 2 ∨ j = 3 by omega) with rfl | rfl | rfl | rfl <;> rfl) (Nat.le_of_ble_eq_true rfl) (Nat.le_of_ble_eq_true rfl) ?_
  refine gc_dup C d_State_init_19 rfl ?_
  refine gc_callN (n := 14) (σ := (mm_0)) C hs (c_Hands_init _) d_State_init_20 0 qw_180 qw_181 qw_8 qw_182 rfl hd_Hands_init rfl rfl (Nat.le_of_ble_eq_true rfl) ⟨(Nat.le_of_ble_eq_true rfl), (Nat.le_of_ble_eq_true rfl)⟩ ⟨(Nat.le_of_ble_eq_true rfl), (Nat.le_of_ble_eq_true rfl)⟩ (Nat.le_of_ble_eq_true rfl) rfl ha (by rw [hk]; decide +kernel) (by rw [hz]; decide +kernel) (fun _ _ => rfl) (fun _ _ => rfl) ?_
  refine gc_putF t_State C hnm 1 (W1_c (Nat.le_of_ble_eq_true rfl)) W1_0 d_State_init_23 i_State rfl (by decide) qw_238 rfl rfl t_State_ok n_State rfl (t_State_ok 1 (by decide)) rfl rfl (Nat.le_of_ble_eq_true rfl) ?_
  show GC E L _ 1 _ _ Q (W1 L (mm_0) h 23 4 [.ref (h + 1), .ref (h + 14), .int 0, .null, .null, .int 0, .null, .int 0, .null, .null, .null]) _ _ _
  refine gc_aload_n C 0 d_State_init_26 rfl rfl ?_
  refine gc_new (n := 23) (K9 := 0) (N9 := 1) (C9 := R_Row) (T9 := F_Row) (fs9 := [.null]) t_Row C hs (W1_c (Nat.le_of_ble_eq_true rfl)) (W1_len (Nat.le_of_ble_eq_true rfl)) rfl d_State_init_27 rfl i_Row t_Row_ok qw_206 qw_45 qw_4 (fun j hj => by obtain rfl : j = 0 := (by omega); exact rfl) (Nat.le_of_ble_eq_true rfl) (Nat.le_of_ble_eq_true rfl) ?_
  refine gc_dup C d_State_init_30 rfl ?_
  refine gc_sipush C (200 : Int32) d_State_init_31 (by decide) ?_
  refine gc_call (n := 23) (σ := (mm_0)) C hs (c_Row_init _ (N := 200) (x := (200 : Int32)) (by decide) (by decide) (Nat.le_of_ble_eq_true rfl)) d_State_init_34 1 qw_207 qw_47 qw_4 qw_48 rfl hd_Row_init rfl rfl (Nat.le_of_ble_eq_true rfl) ⟨(Nat.le_of_ble_eq_true rfl), (Nat.le_of_ble_eq_true rfl)⟩ ⟨(Nat.le_of_ble_eq_true rfl), (Nat.le_of_ble_eq_true rfl)⟩ (Nat.le_of_ble_eq_true rfl) rfl ha (by rw [hk]; decide +kernel) (by rw [hz]; decide +kernel) (fun _ _ => rfl) (fun _ _ => rfl) ?_
  refine gc_putF t_State C hnm 3 (W1_c (Nat.le_of_ble_eq_true rfl)) W1_0 d_State_init_37 i_State rfl (by decide) qw_243 rfl rfl t_State_ok n_State rfl (t_State_ok 3 (by decide)) rfl rfl (Nat.le_of_ble_eq_true rfl) ?_
  show GC E L _ 1 _ _ Q (W1 L (mm_0) h 25 4 [.ref (h + 1), .ref (h + 14), .int 0, .ref (h + 23), .null, .int 0, .null, .int 0, .null, .null, .null]) _ _ _
  refine gc_aload_n C 0 d_State_init_40 rfl rfl ?_
  refine gc_new (n := 25) (K9 := 0) (N9 := 1) (C9 := R_Row) (T9 := F_Row) (fs9 := [.null]) t_Row C hs (W1_c (Nat.le_of_ble_eq_true rfl)) (W1_len (Nat.le_of_ble_eq_true rfl)) rfl d_State_init_41 rfl i_Row t_Row_ok qw_206 qw_45 qw_4 (fun j hj => by obtain rfl : j = 0 := (by omega); exact rfl) (Nat.le_of_ble_eq_true rfl) (Nat.le_of_ble_eq_true rfl) ?_
  refine gc_dup C d_State_init_44 rfl ?_
  refine gc_sipush C (200 : Int32) d_State_init_45 (by decide) ?_
  refine gc_call (n := 25) (σ := (mm_0)) C hs (c_Row_init _ (N := 200) (x := (200 : Int32)) (by decide) (by decide) (Nat.le_of_ble_eq_true rfl)) d_State_init_48 1 qw_207 qw_47 qw_4 qw_48 rfl hd_Row_init rfl rfl (Nat.le_of_ble_eq_true rfl) ⟨(Nat.le_of_ble_eq_true rfl), (Nat.le_of_ble_eq_true rfl)⟩ ⟨(Nat.le_of_ble_eq_true rfl), (Nat.le_of_ble_eq_true rfl)⟩ (Nat.le_of_ble_eq_true rfl) rfl ha (by rw [hk]; decide +kernel) (by rw [hz]; decide +kernel) (fun _ _ => rfl) (fun _ _ => rfl) ?_
  refine gc_putF t_State C hnm 4 (W1_c (Nat.le_of_ble_eq_true rfl)) W1_0 d_State_init_51 i_State rfl (by decide) qw_244 rfl rfl t_State_ok n_State rfl (t_State_ok 4 (by decide)) rfl rfl (Nat.le_of_ble_eq_true rfl) ?_
  show GC E L _ 1 _ _ Q (W1 L (mm_0) h 27 4 [.ref (h + 1), .ref (h + 14), .int 0, .ref (h + 23), .ref (h + 25), .int 0, .null, .int 0, .null, .null, .null]) _ _ _
  refine gc_aload_n C 0 d_State_init_54 rfl rfl ?_
  refine gc_new (n := 27) (K9 := 0) (N9 := 1) (C9 := R_Row) (T9 := F_Row) (fs9 := [.null]) t_Row C hs (W1_c (Nat.le_of_ble_eq_true rfl)) (W1_len (Nat.le_of_ble_eq_true rfl)) rfl d_State_init_55 rfl i_Row t_Row_ok qw_206 qw_45 qw_4 (fun j hj => by obtain rfl : j = 0 := (by omega); exact rfl) (Nat.le_of_ble_eq_true rfl) (Nat.le_of_ble_eq_true rfl) ?_
  refine gc_dup C d_State_init_58 rfl ?_
  refine gc_bipush C (8 : Int32) d_State_init_59 (by decide) ?_
  refine gc_call (n := 27) (σ := (mm_0)) C hs (c_Row_init _ (N := 8) (x := (8 : Int32)) (by decide) (by decide) (Nat.le_of_ble_eq_true rfl)) d_State_init_61 1 qw_207 qw_47 qw_4 qw_48 rfl hd_Row_init rfl rfl (Nat.le_of_ble_eq_true rfl) ⟨(Nat.le_of_ble_eq_true rfl), (Nat.le_of_ble_eq_true rfl)⟩ ⟨(Nat.le_of_ble_eq_true rfl), (Nat.le_of_ble_eq_true rfl)⟩ (Nat.le_of_ble_eq_true rfl) rfl ha (by rw [hk]; decide +kernel) (by rw [hz]; decide +kernel) (fun _ _ => rfl) (fun _ _ => rfl) ?_
  refine gc_putF t_State C hnm 6 (W1_c (Nat.le_of_ble_eq_true rfl)) W1_0 d_State_init_64 i_State rfl (by decide) qw_248 rfl rfl t_State_ok n_State rfl (t_State_ok 6 (by decide)) rfl rfl (Nat.le_of_ble_eq_true rfl) ?_
  show GC E L _ 1 _ _ Q (W1 L (mm_0) h 29 4 [.ref (h + 1), .ref (h + 14), .int 0, .ref (h + 23), .ref (h + 25), .int 0, .ref (h + 27), .int 0, .null, .null, .null]) _ _ _
  refine gc_aload_n C 0 d_State_init_67 rfl rfl ?_
  refine gc_new (n := 29) (K9 := 0) (N9 := 1) (C9 := R_Row) (T9 := F_Row) (fs9 := [.null]) t_Row C hs (W1_c (Nat.le_of_ble_eq_true rfl)) (W1_len (Nat.le_of_ble_eq_true rfl)) rfl d_State_init_68 rfl i_Row t_Row_ok qw_206 qw_45 qw_4 (fun j hj => by obtain rfl : j = 0 := (by omega); exact rfl) (Nat.le_of_ble_eq_true rfl) (Nat.le_of_ble_eq_true rfl) ?_
  refine gc_dup C d_State_init_71 rfl ?_
  refine gc_bipush C (30 : Int32) d_State_init_72 (by decide) ?_
  refine gc_call (n := 29) (σ := (mm_0)) C hs (c_Row_init _ (N := 30) (x := (30 : Int32)) (by decide) (by decide) (Nat.le_of_ble_eq_true rfl)) d_State_init_74 1 qw_207 qw_47 qw_4 qw_48 rfl hd_Row_init rfl rfl (Nat.le_of_ble_eq_true rfl) ⟨(Nat.le_of_ble_eq_true rfl), (Nat.le_of_ble_eq_true rfl)⟩ ⟨(Nat.le_of_ble_eq_true rfl), (Nat.le_of_ble_eq_true rfl)⟩ (Nat.le_of_ble_eq_true rfl) rfl ha (by rw [hk]; decide +kernel) (by rw [hz]; decide +kernel) (fun _ _ => rfl) (fun _ _ => rfl) ?_
  refine gc_putF t_State C hnm 8 (W1_c (Nat.le_of_ble_eq_true rfl)) W1_0 d_State_init_77 i_State rfl (by decide) qw_255 rfl rfl t_State_ok n_State rfl (t_State_ok 8 (by decide)) rfl rfl (Nat.le_of_ble_eq_true rfl) ?_
  show GC E L _ 1 _ _ Q (W1 L (mm_0) h 31 4 [.ref (h + 1), .ref (h + 14), .int 0, .ref (h + 23), .ref (h + 25), .int 0, .ref (h + 27), .int 0, .ref (h + 29), .null, .null]) _ _ _
  refine gc_aload_n C 0 d_State_init_80 rfl rfl ?_
  refine gc_new (n := 31) (K9 := 0) (N9 := 1) (C9 := R_Row) (T9 := F_Row) (fs9 := [.null]) t_Row C hs (W1_c (Nat.le_of_ble_eq_true rfl)) (W1_len (Nat.le_of_ble_eq_true rfl)) rfl d_State_init_81 rfl i_Row t_Row_ok qw_206 qw_45 qw_4 (fun j hj => by obtain rfl : j = 0 := (by omega); exact rfl) (Nat.le_of_ble_eq_true rfl) (Nat.le_of_ble_eq_true rfl) ?_
  refine gc_dup C d_State_init_84 rfl ?_
  refine gc_bipush C (30 : Int32) d_State_init_85 (by decide) ?_
  refine gc_call (n := 31) (σ := (mm_0)) C hs (c_Row_init _ (N := 30) (x := (30 : Int32)) (by decide) (by decide) (Nat.le_of_ble_eq_true rfl)) d_State_init_87 1 qw_207 qw_47 qw_4 qw_48 rfl hd_Row_init rfl rfl (Nat.le_of_ble_eq_true rfl) ⟨(Nat.le_of_ble_eq_true rfl), (Nat.le_of_ble_eq_true rfl)⟩ ⟨(Nat.le_of_ble_eq_true rfl), (Nat.le_of_ble_eq_true rfl)⟩ (Nat.le_of_ble_eq_true rfl) rfl ha (by rw [hk]; decide +kernel) (by rw [hz]; decide +kernel) (fun _ _ => rfl) (fun _ _ => rfl) ?_
  refine gc_putF t_State C hnm 9 (W1_c (Nat.le_of_ble_eq_true rfl)) W1_0 d_State_init_90 i_State rfl (by decide) qw_258 rfl rfl t_State_ok n_State rfl (t_State_ok 9 (by decide)) rfl rfl (Nat.le_of_ble_eq_true rfl) ?_
  show GC E L _ 1 _ _ Q (W1 L (mm_0) h 33 4 [.ref (h + 1), .ref (h + 14), .int 0, .ref (h + 23), .ref (h + 25), .int 0, .ref (h + 27), .int 0, .ref (h + 29), .ref (h + 31), .null]) _ _ _
  refine gc_aload_n C 0 d_State_init_93 rfl rfl ?_
  refine gc_new (n := 33) (K9 := 0) (N9 := 1) (C9 := R_Row) (T9 := F_Row) (fs9 := [.null]) t_Row C hs (W1_c (Nat.le_of_ble_eq_true rfl)) (W1_len (Nat.le_of_ble_eq_true rfl)) rfl d_State_init_94 rfl i_Row t_Row_ok qw_206 qw_45 qw_4 (fun j hj => by obtain rfl : j = 0 := (by omega); exact rfl) (Nat.le_of_ble_eq_true rfl) (Nat.le_of_ble_eq_true rfl) ?_
  refine gc_dup C d_State_init_97 rfl ?_
  refine gc_bipush C (30 : Int32) d_State_init_98 (by decide) ?_
  refine gc_call (n := 33) (σ := (mm_0)) C hs (c_Row_init _ (N := 30) (x := (30 : Int32)) (by decide) (by decide) (Nat.le_of_ble_eq_true rfl)) d_State_init_100 1 qw_207 qw_47 qw_4 qw_48 rfl hd_Row_init rfl rfl (Nat.le_of_ble_eq_true rfl) ⟨(Nat.le_of_ble_eq_true rfl), (Nat.le_of_ble_eq_true rfl)⟩ ⟨(Nat.le_of_ble_eq_true rfl), (Nat.le_of_ble_eq_true rfl)⟩ (Nat.le_of_ble_eq_true rfl) rfl ha (by rw [hk]; decide +kernel) (by rw [hz]; decide +kernel) (fun _ _ => rfl) (fun _ _ => rfl) ?_
  refine gc_putF t_State C hnm 10 (W1_c (Nat.le_of_ble_eq_true rfl)) W1_0 d_State_init_103 i_State rfl (by decide) qw_261 rfl rfl t_State_ok n_State rfl (t_State_ok 10 (by decide)) rfl rfl (Nat.le_of_ble_eq_true rfl) ?_
  show GC E L _ 1 _ _ Q (W1 L (mm_0) h 35 4 [.ref (h + 1), .ref (h + 14), .int 0, .ref (h + 23), .ref (h + 25), .int 0, .ref (h + 27), .int 0, .ref (h + 29), .ref (h + 31), .ref (h + 33)]) _ _ _
  have e9 : W1 L (mm_0) h 35 4 [.ref (h + 1), .ref (h + 14), .int 0, .ref (h + 23), .ref (h + 25), .int 0, .ref (h + 27), .int 0, .ref (h + 29), .ref (h + 31), .ref (h + 33)] = wl L (mm_0) := by
    have := W1_full (L := L) (σ := (mm_0)) (h := h) (K := 4) (fs := [.ref (h + 1), .ref (h + 14), .int 0, .ref (h + 23), .ref (h + 25), .int 0, .ref (h + 27), .int 0, .ref (h + 29), .ref (h + 31), .ref (h + 33)]) ha (by rw [hn]; decide) (by rw [hk]; rfl) (by decide) rfl
    rw [hn] at this; exact this
  refine gc_ws e9 ?_
  refine gc_gw ?_
  refine gw_sub [0] (lv' := [(0, .ref (ly_a L 0))]) (by rw [ha]; rfl) ?_
  have k0 : ly_k L 0 = 4 := by rw [hk]; rfl
  refine gw_aload_n C 0 d_State_init_106 rfl rfl ?_
  have hf : f_State_clear (ly_z L) mm_0 0 = some σS := by rw [hz]; exact hσ
  refine gw_callV C (c_State_clear _ (cx_g C) k0 hf) d_State_init_107 0 qw_208 qw_209 qw_210 qw_5 qw_211 k0 (by decide) rfl hd_State_clear rfl rfl (Nat.le_of_ble_eq_true rfl) ⟨rfl, rfl, Nat.le_of_ble_eq_true rfl, Nat.le_of_ble_eq_true rfl⟩ ⟨Nat.le_of_ble_eq_true rfl, Nat.le_of_ble_eq_true rfl⟩ ?_
  exact hN9 _ _ d_State_init_110

def mm_Reader (σS : Mm) : Mm := mm_pl mm_0 4 35 σS
abbrev b_Reader_init : ByteArray := prog_6_method_1_code
def y_Reader_init : MethodName := ⟨"NameHat$Reader", "<init>", "()V"⟩
theorem hd_Reader_init : y_Reader_init.cls ≠ "java/lang/invoke/MethodHandle" ∧ y_Reader_init.cls ≠ "java/lang/invoke/VarHandle" ∧ (parseMethodDescriptor y_Reader_init.desc).map (fun d => d.parameters.length) = some 0 := by decide +kernel
theorem d_Reader_init_0 : decode b_Reader_init 0 = .ok (.aload_n 0, 1) := by decide +kernel
theorem d_Reader_init_1 : decode b_Reader_init 1 = .ok (.invokespecial 3, 3) := by decide +kernel
theorem d_Reader_init_4 : decode b_Reader_init 4 = .ok (.aload_n 0, 1) := by decide +kernel
theorem d_Reader_init_5 : decode b_Reader_init 5 = .ok (.new 9, 3) := by decide +kernel
theorem d_Reader_init_8 : decode b_Reader_init 8 = .ok (.dup, 1) := by decide +kernel
theorem d_Reader_init_9 : decode b_Reader_init 9 = .ok (.invokespecial 11, 3) := by decide +kernel
theorem d_Reader_init_12 : decode b_Reader_init 12 = .ok (.putfield 12, 3) := by decide +kernel
theorem d_Reader_init_15 : decode b_Reader_init 15 = .ok (.aload_n 0, 1) := by decide +kernel
theorem d_Reader_init_16 : decode b_Reader_init 16 = .ok (.new 18, 3) := by decide +kernel
theorem d_Reader_init_19 : decode b_Reader_init 19 = .ok (.dup, 1) := by decide +kernel
theorem d_Reader_init_20 : decode b_Reader_init 20 = .ok (.invokespecial 20, 3) := by decide +kernel
theorem d_Reader_init_23 : decode b_Reader_init 23 = .ok (.putfield 21, 3) := by decide +kernel
theorem d_Reader_init_26 : decode b_Reader_init 26 = .ok (.return_, 1) := by decide +kernel
def kl_Reader : List Nat := [9, 8, 0, 20, 4, 2, 1, 21, 1, 21, 0, 20, 0, 20, 0, 20, 0, 20, 3, 0, 20, 0, 20, 0, 20, 0, 20, 0, 20, 0, 20, 0, 20, 0, 20, 0, 20, 0, 20]
def zl_Reader : List Nat := [0, 0, 0, 940, 0, 0, 0, 10, 0, 8, 0, 10, 0, 10, 0, 10, 0, 80, 0, 0, 8, 0, 8, 0, 8, 0, 8, 0, 200, 0, 200, 0, 8, 0, 30, 0, 30, 0, 30]
abbrev kd_Reader : Nat → Nat := fun o => kl_Reader.getD o 99
abbrev z_Reader : Nat → Nat := fun o => zl_Reader.getD o 0
abbrev rm_Reader_init : Room := { frames := 4, cells := 38, slots := 1650, locals := 82 }
set_option maxHeartbeats 4000000 in
set_option maxRecDepth 100000 in
theorem c_Reader_init (l : Launch) {σS : Mm} (hσ : f_State_clear z_State mm_0 0 = some σS) : CtC l y_Reader_init b_Reader_init 1 rm_Reader_init 9 kd_Reader z_Reader 39 [] [.null, .null, .int 0, .int 0, .int 0, .int 0, .int 0, .int 0, .int 0] (mm_pl mm_0 4 35 σS) := by
  refine ct_c (fun D ca sp h => gd_list (kl := kl_Reader) (by decide +kernel) (by decide +kernel)) (by decide) rfl (fun h => Nat.le_of_ble_eq_true rfl) ?_
  intro E L h Q hE ha hk hz hn C hs hnm hN9
  subst hE
  show GC E L _ 1 0 0 Q (W1 L (mm_pl mm_0 4 35 σS) h 1 9 [.null, .null, .int 0, .int 0, .int 0, .int 0, .int 0, .int 0, .int 0]) 0 [(0, .ref h)] []
  refine gc_aload_n C 0 d_Reader_init_0 rfl rfl ?_
  refine gc_obj C d_Reader_init_1 qw_37 qw_30 qw_31 (Nat.le_of_ble_eq_true rfl) ⟨(Nat.le_of_ble_eq_true rfl), (Nat.le_of_ble_eq_true rfl)⟩ ?_
  refine gc_aload_n C 0 d_Reader_init_4 rfl rfl ?_
  refine gc_new (n := 1) (K9 := 8) (N9 := 9) (C9 := R_Tokens) (T9 := F_Tokens) (fs9 := [.null, .int 0, .int 0, .int 0, .int 0, .int 0, .int 0, .long 0, .int 0]) t_Tokens C hs (W1_c (Nat.le_of_ble_eq_true rfl)) (W1_len (Nat.le_of_ble_eq_true rfl)) rfl d_Reader_init_5 rfl i_Tokens t_Tokens_ok qw_38 qw_39 qw_3 (fun j hj => by rcases (show j = 0 ∨ j = 1 ∨ j = 2 ∨ j = 3 ∨ j = 4 ∨ j = 5 ∨ j = 6 ∨ j = 7 ∨ j = 8 by omega) with rfl | rfl | rfl | rfl | rfl | rfl | rfl | rfl | rfl <;> rfl) (Nat.le_of_ble_eq_true rfl) (Nat.le_of_ble_eq_true rfl) ?_
  refine gc_dup C d_Reader_init_8 rfl ?_
  refine gc_callN (n := 1) (σ := (mm_pl mm_0 4 35 σS)) C hs (c_Tokens_init _) d_Reader_init_9 0 qw_40 qw_41 qw_3 qw_42 rfl hd_Tokens_init rfl rfl (Nat.le_of_ble_eq_true rfl) ⟨(Nat.le_of_ble_eq_true rfl), (Nat.le_of_ble_eq_true rfl)⟩ ⟨(Nat.le_of_ble_eq_true rfl), (Nat.le_of_ble_eq_true rfl)⟩ (Nat.le_of_ble_eq_true rfl) rfl ha (by rw [hk]; decide +kernel) (by rw [hz]; decide +kernel) (fun o ho => by rw [pl_out1 (by omega)]; rfl) (fun o ho => by rw [pl_out2 (by omega)]; rfl) ?_
  refine gc_putF t_Reader C hnm 0 (W1_c (Nat.le_of_ble_eq_true rfl)) W1_0 d_Reader_init_12 i_Reader rfl (by decide) qw_287 rfl rfl t_Reader_ok n_Reader rfl (t_Reader_ok 0 (by decide)) rfl rfl (Nat.le_of_ble_eq_true rfl) ?_
  show GC E L _ 1 _ _ Q (W1 L (mm_pl mm_0 4 35 σS) h 4 9 [.ref (h + 1), .null, .int 0, .int 0, .int 0, .int 0, .int 0, .int 0, .int 0]) _ _ _
  refine gc_aload_n C 0 d_Reader_init_15 rfl rfl ?_
  refine gc_new (n := 4) (K9 := 4) (N9 := 11) (C9 := R_State) (T9 := F_State) (fs9 := [.null, .null, .int 0, .null, .null, .int 0, .null, .int 0, .null, .null, .null]) t_State C hs (W1_c (Nat.le_of_ble_eq_true rfl)) (W1_len (Nat.le_of_ble_eq_true rfl)) rfl d_Reader_init_16 rfl i_State t_State_ok qw_89 qw_90 qw_5 (fun j hj => by rcases (show j = 0 ∨ j = 1 ∨ j = 2 ∨ j = 3 ∨ j = 4 ∨ j = 5 ∨ j = 6 ∨ j = 7 ∨ j = 8 ∨ j = 9 ∨ j = 10 by omega) with rfl | rfl | rfl | rfl | rfl | rfl | rfl | rfl | rfl | rfl | rfl <;> rfl) (Nat.le_of_ble_eq_true rfl) (Nat.le_of_ble_eq_true rfl) ?_
  refine gc_dup C d_Reader_init_19 rfl ?_
  refine gc_call (n := 4) (σ := (mm_pl mm_0 4 35 σS)) C hs (c_State_init _ hσ) d_Reader_init_20 0 qw_91 qw_92 qw_5 qw_93 rfl hd_State_init rfl rfl (Nat.le_of_ble_eq_true rfl) ⟨(Nat.le_of_ble_eq_true rfl), (Nat.le_of_ble_eq_true rfl)⟩ ⟨(Nat.le_of_ble_eq_true rfl), (Nat.le_of_ble_eq_true rfl)⟩ (Nat.le_of_ble_eq_true rfl) rfl ha (by rw [hk]; decide +kernel) (by rw [hz]; decide +kernel) (fun o ho => by rw [pl_in1 ho]) (fun o ho => by rw [pl_in2 ho]) ?_
  refine gc_putF t_Reader C hnm 1 (W1_c (Nat.le_of_ble_eq_true rfl)) W1_0 d_Reader_init_23 i_Reader rfl (by decide) qw_289 rfl rfl t_Reader_ok n_Reader rfl (t_Reader_ok 1 (by decide)) rfl rfl (Nat.le_of_ble_eq_true rfl) ?_
  show GC E L _ 1 _ _ Q (W1 L (mm_pl mm_0 4 35 σS) h 39 9 [.ref (h + 1), .ref (h + 4), .int 0, .int 0, .int 0, .int 0, .int 0, .int 0, .int 0]) _ _ _
  have e9 : W1 L (mm_pl mm_0 4 35 σS) h 39 9 [.ref (h + 1), .ref (h + 4), .int 0, .int 0, .int 0, .int 0, .int 0, .int 0, .int 0] = wl L (mm_pl mm_0 4 35 σS) := by
    have := W1_full (L := L) (σ := (mm_pl mm_0 4 35 σS)) (h := h) (K := 9) (fs := [.ref (h + 1), .ref (h + 4), .int 0, .int 0, .int 0, .int 0, .int 0, .int 0, .int 0]) ha (by rw [hn]; decide) (by rw [hk]; rfl) (by decide) (by rw [pl_out1 (by omega), pl_out2 (by omega)]; rfl)
    rw [hn] at this; exact this
  refine gc_ws e9 ?_
  exact hN9 _ _ d_Reader_init_26

abbrev b_Hat_init : ByteArray := prog_1_method_1_code
def y_Hat_init : MethodName := ⟨"NameHat", "<init>", "()V"⟩
theorem hd_Hat_init : y_Hat_init.cls ≠ "java/lang/invoke/MethodHandle" ∧ y_Hat_init.cls ≠ "java/lang/invoke/VarHandle" ∧ (parseMethodDescriptor y_Hat_init.desc).map (fun d => d.parameters.length) = some 0 := by decide +kernel
theorem d_Hat_init_0 : decode b_Hat_init 0 = .ok (.aload_n 0, 1) := by decide +kernel
theorem d_Hat_init_1 : decode b_Hat_init 1 = .ok (.invokespecial 1, 3) := by decide +kernel
theorem d_Hat_init_4 : decode b_Hat_init 4 = .ok (.aload_n 0, 1) := by decide +kernel
theorem d_Hat_init_5 : decode b_Hat_init 5 = .ok (.new 7, 3) := by decide +kernel
theorem d_Hat_init_8 : decode b_Hat_init 8 = .ok (.dup, 1) := by decide +kernel
theorem d_Hat_init_9 : decode b_Hat_init 9 = .ok (.invokespecial 9, 3) := by decide +kernel
theorem d_Hat_init_12 : decode b_Hat_init 12 = .ok (.putfield 10, 3) := by decide +kernel
theorem d_Hat_init_15 : decode b_Hat_init 15 = .ok (.aload_n 0, 1) := by decide +kernel
theorem d_Hat_init_16 : decode b_Hat_init 16 = .ok (.aload_n 0, 1) := by decide +kernel
theorem d_Hat_init_17 : decode b_Hat_init 17 = .ok (.getfield 10, 3) := by decide +kernel
theorem d_Hat_init_20 : decode b_Hat_init 20 = .ok (.getfield 16, 3) := by decide +kernel
theorem d_Hat_init_23 : decode b_Hat_init 23 = .ok (.getfield 20, 3) := by decide +kernel
theorem d_Hat_init_26 : decode b_Hat_init 26 = .ok (.putfield 26, 3) := by decide +kernel
theorem d_Hat_init_29 : decode b_Hat_init 29 = .ok (.aload_n 0, 1) := by decide +kernel
theorem d_Hat_init_30 : decode b_Hat_init 30 = .ok (.aload_n 0, 1) := by decide +kernel
theorem d_Hat_init_31 : decode b_Hat_init 31 = .ok (.getfield 10, 3) := by decide +kernel
theorem d_Hat_init_34 : decode b_Hat_init 34 = .ok (.getfield 27, 3) := by decide +kernel
theorem d_Hat_init_37 : decode b_Hat_init 37 = .ok (.putfield 31, 3) := by decide +kernel
theorem d_Hat_init_40 : decode b_Hat_init 40 = .ok (.aload_n 0, 1) := by decide +kernel
theorem d_Hat_init_41 : decode b_Hat_init 41 = .ok (.new 32, 3) := by decide +kernel
theorem d_Hat_init_44 : decode b_Hat_init 44 = .ok (.dup, 1) := by decide +kernel
theorem d_Hat_init_45 : decode b_Hat_init 45 = .ok (.invokespecial 34, 3) := by decide +kernel
theorem d_Hat_init_48 : decode b_Hat_init 48 = .ok (.putfield 35, 3) := by decide +kernel
theorem d_Hat_init_51 : decode b_Hat_init 51 = .ok (.aload_n 0, 1) := by decide +kernel
theorem d_Hat_init_52 : decode b_Hat_init 52 = .ok (.new 39, 3) := by decide +kernel
theorem d_Hat_init_55 : decode b_Hat_init 55 = .ok (.dup, 1) := by decide +kernel
theorem d_Hat_init_56 : decode b_Hat_init 56 = .ok (.invokespecial 41, 3) := by decide +kernel
theorem d_Hat_init_59 : decode b_Hat_init 59 = .ok (.putfield 42, 3) := by decide +kernel
theorem d_Hat_init_62 : decode b_Hat_init 62 = .ok (.aload_n 0, 1) := by decide +kernel
theorem d_Hat_init_63 : decode b_Hat_init 63 = .ok (.new 46, 3) := by decide +kernel
theorem d_Hat_init_66 : decode b_Hat_init 66 = .ok (.dup, 1) := by decide +kernel
theorem d_Hat_init_67 : decode b_Hat_init 67 = .ok (.iconst 4, 1) := by decide +kernel
theorem d_Hat_init_68 : decode b_Hat_init 68 = .ok (.invokespecial 48, 3) := by decide +kernel
theorem d_Hat_init_71 : decode b_Hat_init 71 = .ok (.putfield 51, 3) := by decide +kernel
theorem d_Hat_init_74 : decode b_Hat_init 74 = .ok (.aload_n 0, 1) := by decide +kernel
theorem d_Hat_init_75 : decode b_Hat_init 75 = .ok (.new 54, 3) := by decide +kernel
theorem d_Hat_init_78 : decode b_Hat_init 78 = .ok (.dup, 1) := by decide +kernel
theorem d_Hat_init_79 : decode b_Hat_init 79 = .ok (.invokespecial 56, 3) := by decide +kernel
theorem d_Hat_init_82 : decode b_Hat_init 82 = .ok (.putfield 57, 3) := by decide +kernel
theorem d_Hat_init_85 : decode b_Hat_init 85 = .ok (.aload_n 0, 1) := by decide +kernel
theorem d_Hat_init_86 : decode b_Hat_init 86 = .ok (.new 54, 3) := by decide +kernel
theorem d_Hat_init_89 : decode b_Hat_init 89 = .ok (.dup, 1) := by decide +kernel
theorem d_Hat_init_90 : decode b_Hat_init 90 = .ok (.invokespecial 56, 3) := by decide +kernel
theorem d_Hat_init_93 : decode b_Hat_init 93 = .ok (.putfield 60, 3) := by decide +kernel
theorem d_Hat_init_96 : decode b_Hat_init 96 = .ok (.aload_n 0, 1) := by decide +kernel
theorem d_Hat_init_97 : decode b_Hat_init 97 = .ok (.new 54, 3) := by decide +kernel
theorem d_Hat_init_100 : decode b_Hat_init 100 = .ok (.dup, 1) := by decide +kernel
theorem d_Hat_init_101 : decode b_Hat_init 101 = .ok (.invokespecial 56, 3) := by decide +kernel
theorem d_Hat_init_104 : decode b_Hat_init 104 = .ok (.putfield 63, 3) := by decide +kernel
theorem d_Hat_init_107 : decode b_Hat_init 107 = .ok (.aload_n 0, 1) := by decide +kernel
theorem d_Hat_init_108 : decode b_Hat_init 108 = .ok (.new 66, 3) := by decide +kernel
theorem d_Hat_init_111 : decode b_Hat_init 111 = .ok (.dup, 1) := by decide +kernel
theorem d_Hat_init_112 : decode b_Hat_init 112 = .ok (.invokespecial 68, 3) := by decide +kernel
theorem d_Hat_init_115 : decode b_Hat_init 115 = .ok (.putfield 69, 3) := by decide +kernel
theorem d_Hat_init_118 : decode b_Hat_init 118 = .ok (.aload_n 0, 1) := by decide +kernel
theorem d_Hat_init_119 : decode b_Hat_init 119 = .ok (.bipush 13, 2) := by decide +kernel
theorem d_Hat_init_121 : decode b_Hat_init 121 = .ok (.newarray .long, 2) := by decide +kernel
theorem d_Hat_init_123 : decode b_Hat_init 123 = .ok (.putfield 73, 3) := by decide +kernel
theorem d_Hat_init_126 : decode b_Hat_init 126 = .ok (.return_, 1) := by decide +kernel
def kl_Hat : List Nat := [10, 9, 8, 0, 20, 4, 2, 1, 21, 1, 21, 0, 20, 0, 20, 0, 20, 0, 20, 3, 0, 20, 0, 20, 0, 20, 0, 20, 0, 20, 0, 20, 0, 20, 0, 20, 0, 20, 0, 20, 5, 0, 20, 0, 20, 0, 20, 6, 0, 20, 0, 20, 0, 20, 0, 20, 0, 20, 0, 20, 4, 2, 1, 21, 1, 21, 0, 20, 0, 20, 0, 20, 0, 20, 3, 0, 20, 0, 20, 0, 20, 0, 20, 0, 20, 0, 20, 0, 20, 0, 20, 0, 20, 0, 20, 4, 2, 1, 21, 1, 21, 0, 20, 0, 20, 0, 20, 0, 20, 3, 0, 20, 0, 20, 0, 20, 0, 20, 0, 20, 0, 20, 0, 20, 0, 20, 0, 20, 0, 20, 4, 2, 1, 21, 1, 21, 0, 20, 0, 20, 0, 20, 0, 20, 3, 0, 20, 0, 20, 0, 20, 0, 20, 0, 20, 0, 20, 0, 20, 0, 20, 0, 20, 0, 20, 7, 0, 20, 21]
def zl_Hat : List Nat := [0, 0, 0, 0, 940, 0, 0, 0, 10, 0, 8, 0, 10, 0, 10, 0, 10, 0, 80, 0, 0, 8, 0, 8, 0, 8, 0, 8, 0, 200, 0, 200, 0, 8, 0, 30, 0, 30, 0, 30, 0, 0, 8, 0, 8, 0, 8, 0, 0, 8, 0, 8, 0, 8, 0, 4, 0, 8, 0, 4, 0, 0, 0, 10, 0, 8, 0, 10, 0, 10, 0, 10, 0, 80, 0, 0, 8, 0, 8, 0, 8, 0, 8, 0, 200, 0, 200, 0, 8, 0, 30, 0, 30, 0, 30, 0, 0, 0, 10, 0, 8, 0, 10, 0, 10, 0, 10, 0, 80, 0, 0, 8, 0, 8, 0, 8, 0, 8, 0, 200, 0, 200, 0, 8, 0, 30, 0, 30, 0, 30, 0, 0, 0, 10, 0, 8, 0, 10, 0, 10, 0, 10, 0, 80, 0, 0, 8, 0, 8, 0, 8, 0, 8, 0, 200, 0, 200, 0, 8, 0, 30, 0, 30, 0, 30, 0, 0, 1024, 13]
abbrev kd_Hat : Nat → Nat := fun o => kl_Hat.getD o 99
abbrev z_Hat : Nat → Nat := fun o => zl_Hat.getD o 0
abbrev rm_Hat_init : Room := { frames := 5, cells := 168, slots := 4886, locals := 102 }
set_option maxHeartbeats 4000000 in
set_option maxRecDepth 100000 in
theorem c_Hat_init (l : Launch) {σS : Mm} (hσ : f_State_clear z_State mm_0 0 = some σS) : CtC l y_Hat_init b_Hat_init 1 rm_Hat_init 10 kd_Hat z_Hat 169 [] [.null, .int 0, .int 0, .null, .null, .null, .int 0, .null, .null, .null, .null, .int 0, .int 0, .null, .null, .null] (mm_pl (mm_pl (mm_pl (mm_pl (mm_pl mm_0 1 39 (mm_pl mm_0 4 35 σS)) 47 11 (kI mm_0 0 1 (-1))) 60 35 σS) 95 35 σS) 130 35 σS) := by
  refine ct_c (fun D ca sp h => gd_list (kl := kl_Hat) (by decide +kernel) (by decide +kernel)) (by decide) rfl (fun h => Nat.le_of_ble_eq_true rfl) ?_
  intro E L h Q hE ha hk hz hn C hs hnm hN9
  subst hE
  show GC E L _ 1 0 0 Q (W1 L (mm_pl (mm_pl (mm_pl (mm_pl (mm_pl mm_0 1 39 (mm_pl mm_0 4 35 σS)) 47 11 (kI mm_0 0 1 (-1))) 60 35 σS) 95 35 σS) 130 35 σS) h 1 10 [.null, .int 0, .int 0, .null, .null, .null, .int 0, .null, .null, .null, .null, .int 0, .int 0, .null, .null, .null]) 0 [(0, .ref h)] []
  refine gc_aload_n C 0 d_Hat_init_0 rfl rfl ?_
  refine gc_obj C d_Hat_init_1 qw_29 qw_30 qw_31 (Nat.le_of_ble_eq_true rfl) ⟨(Nat.le_of_ble_eq_true rfl), (Nat.le_of_ble_eq_true rfl)⟩ ?_
  refine gc_aload_n C 0 d_Hat_init_4 rfl rfl ?_
  refine gc_new (n := 1) (K9 := 9) (N9 := 9) (C9 := R_Reader) (T9 := F_Reader) (fs9 := [.null, .null, .int 0, .int 0, .int 0, .int 0, .int 0, .int 0, .int 0]) t_Reader C hs (W1_c (Nat.le_of_ble_eq_true rfl)) (W1_len (Nat.le_of_ble_eq_true rfl)) rfl d_Hat_init_5 rfl i_Reader t_Reader_ok qw_32 qw_33 qw_2 (fun j hj => by rcases (show j = 0 ∨ j = 1 ∨ j = 2 ∨ j = 3 ∨ j = 4 ∨ j = 5 ∨ j = 6 ∨ j = 7 ∨ j = 8 by omega) with rfl | rfl | rfl | rfl | rfl | rfl | rfl | rfl | rfl <;> rfl) (Nat.le_of_ble_eq_true rfl) (Nat.le_of_ble_eq_true rfl) ?_
  refine gc_dup C d_Hat_init_8 rfl ?_
  refine gc_callN (n := 1) (σ := (mm_pl (mm_pl (mm_pl (mm_pl (mm_pl mm_0 1 39 (mm_pl mm_0 4 35 σS)) 47 11 (kI mm_0 0 1 (-1))) 60 35 σS) 95 35 σS) 130 35 σS)) C hs (c_Reader_init _ hσ) d_Hat_init_9 0 qw_34 qw_35 qw_2 qw_36 rfl hd_Reader_init rfl rfl (Nat.le_of_ble_eq_true rfl) ⟨(Nat.le_of_ble_eq_true rfl), (Nat.le_of_ble_eq_true rfl)⟩ ⟨(Nat.le_of_ble_eq_true rfl), (Nat.le_of_ble_eq_true rfl)⟩ (Nat.le_of_ble_eq_true rfl) rfl ha (by rw [hk]; decide +kernel) (by rw [hz]; decide +kernel) (fun o ho => by rw [pl_out1 (by omega), pl_out1 (by omega), pl_out1 (by omega), pl_out1 (by omega), pl_in1 ho]) (fun o ho => by rw [pl_out2 (by omega), pl_out2 (by omega), pl_out2 (by omega), pl_out2 (by omega), pl_in2 ho]) ?_
  refine gc_putF t_Hat C hnm 13 (W1_c (Nat.le_of_ble_eq_true rfl)) W1_0 d_Hat_init_12 i_Hat rfl (by decide) qw_416 rfl rfl t_Hat_ok n_Hat rfl (t_Hat_ok 13 (by decide)) rfl rfl (Nat.le_of_ble_eq_true rfl) ?_
  show GC E L _ 1 _ _ Q (W1 L (mm_pl (mm_pl (mm_pl (mm_pl (mm_pl mm_0 1 39 (mm_pl mm_0 4 35 σS)) 47 11 (kI mm_0 0 1 (-1))) 60 35 σS) 95 35 σS) 130 35 σS) h 40 10 [.null, .int 0, .int 0, .null, .null, .null, .int 0, .null, .null, .null, .null, .int 0, .int 0, .ref (h + 1), .null, .null]) _ _ _
  refine gc_aload_n C 0 d_Hat_init_15 rfl rfl ?_
  refine gc_aload_n C 0 d_Hat_init_16 rfl rfl ?_
  refine gc_get C 13 0 W1_0 d_Hat_init_17 i_Hat rfl (by decide) qw_416 rfl rfl rfl ?_
  refine gc_getN (K9 := 9) (fs9 := fd_row (ly_a L) (fd_T.getD 9 []) 1 ((mm_pl (mm_pl (mm_pl (mm_pl (mm_pl mm_0 1 39 (mm_pl mm_0 4 35 σS)) 47 11 (kI mm_0 0 1 (-1))) 60 35 σS) 95 35 σS) 130 35 σS).1 1) ((mm_pl (mm_pl (mm_pl (mm_pl (mm_pl mm_0 1 39 (mm_pl mm_0 4 35 σS)) 47 11 (kI mm_0 0 1 (-1))) 60 35 σS) 95 35 σS) 130 35 σS).2 1)) C 0 1 (by rw [W1_at (Nat.le_of_ble_eq_true rfl) (Nat.le_of_ble_eq_true rfl), hk]; exact congrArg some (Prod.ext rfl (cl_obj (K := 9) (by decide)))) d_Hat_init_20 i_Reader rfl (by decide) qw_288 rfl rfl (by rw [ha]; rfl) ?_
  show GC E L _ 1 _ _ Q _ _ _ _
  refine gc_getN (K9 := 8) (fs9 := fd_row (ly_a L) (fd_T.getD 8 []) 2 ((mm_pl (mm_pl (mm_pl (mm_pl (mm_pl mm_0 1 39 (mm_pl mm_0 4 35 σS)) 47 11 (kI mm_0 0 1 (-1))) 60 35 σS) 95 35 σS) 130 35 σS).1 2) ((mm_pl (mm_pl (mm_pl (mm_pl (mm_pl mm_0 1 39 (mm_pl mm_0 4 35 σS)) 47 11 (kI mm_0 0 1 (-1))) 60 35 σS) 95 35 σS) 130 35 σS).2 2)) C 0 2 (by rw [W1_at (Nat.le_of_ble_eq_true rfl) (Nat.le_of_ble_eq_true rfl), hk]; exact congrArg some (Prod.ext rfl (cl_obj (K := 8) (by decide)))) d_Hat_init_23 i_Tokens rfl (by decide) qw_56 rfl rfl (by rw [ha]; rfl) ?_
  show GC E L _ 1 _ _ Q _ _ _ _
  refine gc_putF t_Hat C hnm 0 (W1_c (Nat.le_of_ble_eq_true rfl)) W1_0 d_Hat_init_26 i_Hat rfl (by decide) qw_403 rfl rfl t_Hat_ok n_Hat rfl (t_Hat_ok 0 (by decide)) rfl rfl (Nat.le_of_ble_eq_true rfl) ?_
  show GC E L _ 1 _ _ Q (W1 L (mm_pl (mm_pl (mm_pl (mm_pl (mm_pl mm_0 1 39 (mm_pl mm_0 4 35 σS)) 47 11 (kI mm_0 0 1 (-1))) 60 35 σS) 95 35 σS) 130 35 σS) h 40 10 [.ref (h + 3), .int 0, .int 0, .null, .null, .null, .int 0, .null, .null, .null, .null, .int 0, .int 0, .ref (h + 1), .null, .null]) _ _ _
  refine gc_aload_n C 0 d_Hat_init_29 rfl rfl ?_
  refine gc_aload_n C 0 d_Hat_init_30 rfl rfl ?_
  refine gc_get C 13 0 W1_0 d_Hat_init_31 i_Hat rfl (by decide) qw_416 rfl rfl rfl ?_
  refine gc_getN (K9 := 9) (fs9 := fd_row (ly_a L) (fd_T.getD 9 []) 1 ((mm_pl (mm_pl (mm_pl (mm_pl (mm_pl mm_0 1 39 (mm_pl mm_0 4 35 σS)) 47 11 (kI mm_0 0 1 (-1))) 60 35 σS) 95 35 σS) 130 35 σS).1 1) ((mm_pl (mm_pl (mm_pl (mm_pl (mm_pl mm_0 1 39 (mm_pl mm_0 4 35 σS)) 47 11 (kI mm_0 0 1 (-1))) 60 35 σS) 95 35 σS) 130 35 σS).2 1)) C 1 1 (by rw [W1_at (Nat.le_of_ble_eq_true rfl) (Nat.le_of_ble_eq_true rfl), hk]; exact congrArg some (Prod.ext rfl (cl_obj (K := 9) (by decide)))) d_Hat_init_34 i_Reader rfl (by decide) qw_290 rfl rfl (by rw [ha]; rfl) ?_
  show GC E L _ 1 _ _ Q _ _ _ _
  refine gc_putF t_Hat C hnm 8 (W1_c (Nat.le_of_ble_eq_true rfl)) W1_0 d_Hat_init_37 i_Hat rfl (by decide) qw_411 rfl rfl t_Hat_ok n_Hat rfl (t_Hat_ok 8 (by decide)) rfl rfl (Nat.le_of_ble_eq_true rfl) ?_
  show GC E L _ 1 _ _ Q (W1 L (mm_pl (mm_pl (mm_pl (mm_pl (mm_pl mm_0 1 39 (mm_pl mm_0 4 35 σS)) 47 11 (kI mm_0 0 1 (-1))) 60 35 σS) 95 35 σS) 130 35 σS) h 40 10 [.ref (h + 3), .int 0, .int 0, .null, .null, .null, .int 0, .null, .ref (h + 5), .null, .null, .int 0, .int 0, .ref (h + 1), .null, .null]) _ _ _
  refine gc_aload_n C 0 d_Hat_init_40 rfl rfl ?_
  refine gc_new (n := 40) (K9 := 5) (N9 := 4) (C9 := R_Rings) (T9 := F_Rings) (fs9 := [.null, .int 0, .null, .null]) t_Rings C hs (W1_c (Nat.le_of_ble_eq_true rfl)) (W1_len (Nat.le_of_ble_eq_true rfl)) rfl d_Hat_init_41 rfl i_Rings t_Rings_ok qw_320 qw_321 qw_9 (fun j hj => by rcases (show j = 0 ∨ j = 1 ∨ j = 2 ∨ j = 3 by omega) with rfl | rfl | rfl | rfl <;> rfl) (Nat.le_of_ble_eq_true rfl) (Nat.le_of_ble_eq_true rfl) ?_
  refine gc_dup C d_Hat_init_44 rfl ?_
  refine gc_callN (n := 40) (σ := (mm_pl (mm_pl (mm_pl (mm_pl (mm_pl mm_0 1 39 (mm_pl mm_0 4 35 σS)) 47 11 (kI mm_0 0 1 (-1))) 60 35 σS) 95 35 σS) 130 35 σS)) C hs (c_Rings_init _) d_Hat_init_45 0 qw_322 qw_323 qw_9 qw_324 rfl hd_Rings_init rfl rfl (Nat.le_of_ble_eq_true rfl) ⟨(Nat.le_of_ble_eq_true rfl), (Nat.le_of_ble_eq_true rfl)⟩ ⟨(Nat.le_of_ble_eq_true rfl), (Nat.le_of_ble_eq_true rfl)⟩ (Nat.le_of_ble_eq_true rfl) rfl ha (by rw [hk]; decide +kernel) (by rw [hz]; decide +kernel) (fun o ho => by rw [pl_out1 (by omega), pl_out1 (by omega), pl_out1 (by omega), pl_out1 (by omega), pl_out1 (by omega)]; rfl) (fun o ho => by rw [pl_out2 (by omega), pl_out2 (by omega), pl_out2 (by omega), pl_out2 (by omega), pl_out2 (by omega)]; rfl) ?_
  refine gc_putF t_Hat C hnm 3 (W1_c (Nat.le_of_ble_eq_true rfl)) W1_0 d_Hat_init_48 i_Hat rfl (by decide) qw_406 rfl rfl t_Hat_ok n_Hat rfl (t_Hat_ok 3 (by decide)) rfl rfl (Nat.le_of_ble_eq_true rfl) ?_
  show GC E L _ 1 _ _ Q (W1 L (mm_pl (mm_pl (mm_pl (mm_pl (mm_pl mm_0 1 39 (mm_pl mm_0 4 35 σS)) 47 11 (kI mm_0 0 1 (-1))) 60 35 σS) 95 35 σS) 130 35 σS) h 47 10 [.ref (h + 3), .int 0, .int 0, .ref (h + 40), .null, .null, .int 0, .null, .ref (h + 5), .null, .null, .int 0, .int 0, .ref (h + 1), .null, .null]) _ _ _
  refine gc_aload_n C 0 d_Hat_init_51 rfl rfl ?_
  refine gc_new (n := 47) (K9 := 6) (N9 := 9) (C9 := R_Seating) (T9 := F_Seating) (fs9 := [.null, .int 0, .null, .null, .null, .null, .int 0, .int 0, .int 0]) t_Seating C hs (W1_c (Nat.le_of_ble_eq_true rfl)) (W1_len (Nat.le_of_ble_eq_true rfl)) rfl d_Hat_init_52 rfl i_Seating t_Seating_ok qw_343 qw_344 qw_10 (fun j hj => by rcases (show j = 0 ∨ j = 1 ∨ j = 2 ∨ j = 3 ∨ j = 4 ∨ j = 5 ∨ j = 6 ∨ j = 7 ∨ j = 8 by omega) with rfl | rfl | rfl | rfl | rfl | rfl | rfl | rfl | rfl <;> rfl) (Nat.le_of_ble_eq_true rfl) (Nat.le_of_ble_eq_true rfl) ?_
  refine gc_dup C d_Hat_init_55 rfl ?_
  refine gc_callN (n := 47) (σ := (mm_pl (mm_pl (mm_pl (mm_pl (mm_pl mm_0 1 39 (mm_pl mm_0 4 35 σS)) 47 11 (kI mm_0 0 1 (-1))) 60 35 σS) 95 35 σS) 130 35 σS)) C hs (c_Seating_init _) d_Hat_init_56 0 qw_345 qw_346 qw_10 qw_347 rfl hd_Seating_init rfl rfl (Nat.le_of_ble_eq_true rfl) ⟨(Nat.le_of_ble_eq_true rfl), (Nat.le_of_ble_eq_true rfl)⟩ ⟨(Nat.le_of_ble_eq_true rfl), (Nat.le_of_ble_eq_true rfl)⟩ (Nat.le_of_ble_eq_true rfl) rfl ha (by rw [hk]; decide +kernel) (by rw [hz]; decide +kernel) (fun o ho => by rw [pl_out1 (by omega), pl_out1 (by omega), pl_out1 (by omega), pl_in1 ho]) (fun o ho => by rw [pl_out2 (by omega), pl_out2 (by omega), pl_out2 (by omega), pl_in2 ho]) ?_
  refine gc_putF t_Hat C hnm 4 (W1_c (Nat.le_of_ble_eq_true rfl)) W1_0 d_Hat_init_59 i_Hat rfl (by decide) qw_407 rfl rfl t_Hat_ok n_Hat rfl (t_Hat_ok 4 (by decide)) rfl rfl (Nat.le_of_ble_eq_true rfl) ?_
  show GC E L _ 1 _ _ Q (W1 L (mm_pl (mm_pl (mm_pl (mm_pl (mm_pl mm_0 1 39 (mm_pl mm_0 4 35 σS)) 47 11 (kI mm_0 0 1 (-1))) 60 35 σS) 95 35 σS) 130 35 σS) h 58 10 [.ref (h + 3), .int 0, .int 0, .ref (h + 40), .ref (h + 47), .null, .int 0, .null, .ref (h + 5), .null, .null, .int 0, .int 0, .ref (h + 1), .null, .null]) _ _ _
  refine gc_aload_n C 0 d_Hat_init_62 rfl rfl ?_
  refine gc_new (n := 58) (K9 := 0) (N9 := 1) (C9 := R_Row) (T9 := F_Row) (fs9 := [.null]) t_Row C hs (W1_c (Nat.le_of_ble_eq_true rfl)) (W1_len (Nat.le_of_ble_eq_true rfl)) rfl d_Hat_init_63 rfl i_Row t_Row_ok qw_381 qw_45 qw_4 (fun j hj => by obtain rfl : j = 0 := (by omega); exact rfl) (Nat.le_of_ble_eq_true rfl) (Nat.le_of_ble_eq_true rfl) ?_
  refine gc_dup C d_Hat_init_66 rfl ?_
  refine gc_iconst C (4 : Int32) d_Hat_init_67 (by decide) ?_
  refine gc_call (n := 58) (σ := (mm_pl (mm_pl (mm_pl (mm_pl (mm_pl mm_0 1 39 (mm_pl mm_0 4 35 σS)) 47 11 (kI mm_0 0 1 (-1))) 60 35 σS) 95 35 σS) 130 35 σS)) C hs (c_Row_init _ (N := 4) (x := (4 : Int32)) (by decide) (by decide) (Nat.le_of_ble_eq_true rfl)) d_Hat_init_68 1 qw_382 qw_47 qw_4 qw_48 rfl hd_Row_init rfl rfl (Nat.le_of_ble_eq_true rfl) ⟨(Nat.le_of_ble_eq_true rfl), (Nat.le_of_ble_eq_true rfl)⟩ ⟨(Nat.le_of_ble_eq_true rfl), (Nat.le_of_ble_eq_true rfl)⟩ (Nat.le_of_ble_eq_true rfl) rfl ha (by rw [hk]; decide +kernel) (by rw [hz]; decide +kernel) (fun o ho => by rw [pl_out1 (by omega), pl_out1 (by omega), pl_out1 (by omega), pl_out1 (by omega), pl_out1 (by omega)]; rfl) (fun o ho => by rw [pl_out2 (by omega), pl_out2 (by omega), pl_out2 (by omega), pl_out2 (by omega), pl_out2 (by omega)]; rfl) ?_
  refine gc_putF t_Hat C hnm 5 (W1_c (Nat.le_of_ble_eq_true rfl)) W1_0 d_Hat_init_71 i_Hat rfl (by decide) qw_408 rfl rfl t_Hat_ok n_Hat rfl (t_Hat_ok 5 (by decide)) rfl rfl (Nat.le_of_ble_eq_true rfl) ?_
  show GC E L _ 1 _ _ Q (W1 L (mm_pl (mm_pl (mm_pl (mm_pl (mm_pl mm_0 1 39 (mm_pl mm_0 4 35 σS)) 47 11 (kI mm_0 0 1 (-1))) 60 35 σS) 95 35 σS) 130 35 σS) h 60 10 [.ref (h + 3), .int 0, .int 0, .ref (h + 40), .ref (h + 47), .ref (h + 58), .int 0, .null, .ref (h + 5), .null, .null, .int 0, .int 0, .ref (h + 1), .null, .null]) _ _ _
  refine gc_aload_n C 0 d_Hat_init_74 rfl rfl ?_
  refine gc_new (n := 60) (K9 := 4) (N9 := 11) (C9 := R_State) (T9 := F_State) (fs9 := [.null, .null, .int 0, .null, .null, .int 0, .null, .int 0, .null, .null, .null]) t_State C hs (W1_c (Nat.le_of_ble_eq_true rfl)) (W1_len (Nat.le_of_ble_eq_true rfl)) rfl d_Hat_init_75 rfl i_State t_State_ok qw_383 qw_90 qw_5 (fun j hj => by rcases (show j = 0 ∨ j = 1 ∨ j = 2 ∨ j = 3 ∨ j = 4 ∨ j = 5 ∨ j = 6 ∨ j = 7 ∨ j = 8 ∨ j = 9 ∨ j = 10 by omega) with rfl | rfl | rfl | rfl | rfl | rfl | rfl | rfl | rfl | rfl | rfl <;> rfl) (Nat.le_of_ble_eq_true rfl) (Nat.le_of_ble_eq_true rfl) ?_
  refine gc_dup C d_Hat_init_78 rfl ?_
  refine gc_call (n := 60) (σ := (mm_pl (mm_pl (mm_pl (mm_pl (mm_pl mm_0 1 39 (mm_pl mm_0 4 35 σS)) 47 11 (kI mm_0 0 1 (-1))) 60 35 σS) 95 35 σS) 130 35 σS)) C hs (c_State_init _ hσ) d_Hat_init_79 0 qw_384 qw_92 qw_5 qw_93 rfl hd_State_init rfl rfl (Nat.le_of_ble_eq_true rfl) ⟨(Nat.le_of_ble_eq_true rfl), (Nat.le_of_ble_eq_true rfl)⟩ ⟨(Nat.le_of_ble_eq_true rfl), (Nat.le_of_ble_eq_true rfl)⟩ (Nat.le_of_ble_eq_true rfl) rfl ha (by rw [hk]; decide +kernel) (by rw [hz]; decide +kernel) (fun o ho => by rw [pl_out1 (by omega), pl_out1 (by omega), pl_in1 ho]) (fun o ho => by rw [pl_out2 (by omega), pl_out2 (by omega), pl_in2 ho]) ?_
  refine gc_putF t_Hat C hnm 7 (W1_c (Nat.le_of_ble_eq_true rfl)) W1_0 d_Hat_init_82 i_Hat rfl (by decide) qw_410 rfl rfl t_Hat_ok n_Hat rfl (t_Hat_ok 7 (by decide)) rfl rfl (Nat.le_of_ble_eq_true rfl) ?_
  show GC E L _ 1 _ _ Q (W1 L (mm_pl (mm_pl (mm_pl (mm_pl (mm_pl mm_0 1 39 (mm_pl mm_0 4 35 σS)) 47 11 (kI mm_0 0 1 (-1))) 60 35 σS) 95 35 σS) 130 35 σS) h 95 10 [.ref (h + 3), .int 0, .int 0, .ref (h + 40), .ref (h + 47), .ref (h + 58), .int 0, .ref (h + 60), .ref (h + 5), .null, .null, .int 0, .int 0, .ref (h + 1), .null, .null]) _ _ _
  refine gc_aload_n C 0 d_Hat_init_85 rfl rfl ?_
  refine gc_new (n := 95) (K9 := 4) (N9 := 11) (C9 := R_State) (T9 := F_State) (fs9 := [.null, .null, .int 0, .null, .null, .int 0, .null, .int 0, .null, .null, .null]) t_State C hs (W1_c (Nat.le_of_ble_eq_true rfl)) (W1_len (Nat.le_of_ble_eq_true rfl)) rfl d_Hat_init_86 rfl i_State t_State_ok qw_383 qw_90 qw_5 (fun j hj => by rcases (show j = 0 ∨ j = 1 ∨ j = 2 ∨ j = 3 ∨ j = 4 ∨ j = 5 ∨ j = 6 ∨ j = 7 ∨ j = 8 ∨ j = 9 ∨ j = 10 by omega) with rfl | rfl | rfl | rfl | rfl | rfl | rfl | rfl | rfl | rfl | rfl <;> rfl) (Nat.le_of_ble_eq_true rfl) (Nat.le_of_ble_eq_true rfl) ?_
  refine gc_dup C d_Hat_init_89 rfl ?_
  refine gc_call (n := 95) (σ := (mm_pl (mm_pl (mm_pl (mm_pl (mm_pl mm_0 1 39 (mm_pl mm_0 4 35 σS)) 47 11 (kI mm_0 0 1 (-1))) 60 35 σS) 95 35 σS) 130 35 σS)) C hs (c_State_init _ hσ) d_Hat_init_90 0 qw_384 qw_92 qw_5 qw_93 rfl hd_State_init rfl rfl (Nat.le_of_ble_eq_true rfl) ⟨(Nat.le_of_ble_eq_true rfl), (Nat.le_of_ble_eq_true rfl)⟩ ⟨(Nat.le_of_ble_eq_true rfl), (Nat.le_of_ble_eq_true rfl)⟩ (Nat.le_of_ble_eq_true rfl) rfl ha (by rw [hk]; decide +kernel) (by rw [hz]; decide +kernel) (fun o ho => by rw [pl_out1 (by omega), pl_in1 ho]) (fun o ho => by rw [pl_out2 (by omega), pl_in2 ho]) ?_
  refine gc_putF t_Hat C hnm 9 (W1_c (Nat.le_of_ble_eq_true rfl)) W1_0 d_Hat_init_93 i_Hat rfl (by decide) qw_412 rfl rfl t_Hat_ok n_Hat rfl (t_Hat_ok 9 (by decide)) rfl rfl (Nat.le_of_ble_eq_true rfl) ?_
  show GC E L _ 1 _ _ Q (W1 L (mm_pl (mm_pl (mm_pl (mm_pl (mm_pl mm_0 1 39 (mm_pl mm_0 4 35 σS)) 47 11 (kI mm_0 0 1 (-1))) 60 35 σS) 95 35 σS) 130 35 σS) h 130 10 [.ref (h + 3), .int 0, .int 0, .ref (h + 40), .ref (h + 47), .ref (h + 58), .int 0, .ref (h + 60), .ref (h + 5), .ref (h + 95), .null, .int 0, .int 0, .ref (h + 1), .null, .null]) _ _ _
  refine gc_aload_n C 0 d_Hat_init_96 rfl rfl ?_
  refine gc_new (n := 130) (K9 := 4) (N9 := 11) (C9 := R_State) (T9 := F_State) (fs9 := [.null, .null, .int 0, .null, .null, .int 0, .null, .int 0, .null, .null, .null]) t_State C hs (W1_c (Nat.le_of_ble_eq_true rfl)) (W1_len (Nat.le_of_ble_eq_true rfl)) rfl d_Hat_init_97 rfl i_State t_State_ok qw_383 qw_90 qw_5 (fun j hj => by rcases (show j = 0 ∨ j = 1 ∨ j = 2 ∨ j = 3 ∨ j = 4 ∨ j = 5 ∨ j = 6 ∨ j = 7 ∨ j = 8 ∨ j = 9 ∨ j = 10 by omega) with rfl | rfl | rfl | rfl | rfl | rfl | rfl | rfl | rfl | rfl | rfl <;> rfl) (Nat.le_of_ble_eq_true rfl) (Nat.le_of_ble_eq_true rfl) ?_
  refine gc_dup C d_Hat_init_100 rfl ?_
  refine gc_call (n := 130) (σ := (mm_pl (mm_pl (mm_pl (mm_pl (mm_pl mm_0 1 39 (mm_pl mm_0 4 35 σS)) 47 11 (kI mm_0 0 1 (-1))) 60 35 σS) 95 35 σS) 130 35 σS)) C hs (c_State_init _ hσ) d_Hat_init_101 0 qw_384 qw_92 qw_5 qw_93 rfl hd_State_init rfl rfl (Nat.le_of_ble_eq_true rfl) ⟨(Nat.le_of_ble_eq_true rfl), (Nat.le_of_ble_eq_true rfl)⟩ ⟨(Nat.le_of_ble_eq_true rfl), (Nat.le_of_ble_eq_true rfl)⟩ (Nat.le_of_ble_eq_true rfl) rfl ha (by rw [hk]; decide +kernel) (by rw [hz]; decide +kernel) (fun o ho => by rw [pl_in1 ho]) (fun o ho => by rw [pl_in2 ho]) ?_
  refine gc_putF t_Hat C hnm 10 (W1_c (Nat.le_of_ble_eq_true rfl)) W1_0 d_Hat_init_104 i_Hat rfl (by decide) qw_413 rfl rfl t_Hat_ok n_Hat rfl (t_Hat_ok 10 (by decide)) rfl rfl (Nat.le_of_ble_eq_true rfl) ?_
  show GC E L _ 1 _ _ Q (W1 L (mm_pl (mm_pl (mm_pl (mm_pl (mm_pl mm_0 1 39 (mm_pl mm_0 4 35 σS)) 47 11 (kI mm_0 0 1 (-1))) 60 35 σS) 95 35 σS) 130 35 σS) h 165 10 [.ref (h + 3), .int 0, .int 0, .ref (h + 40), .ref (h + 47), .ref (h + 58), .int 0, .ref (h + 60), .ref (h + 5), .ref (h + 95), .ref (h + 130), .int 0, .int 0, .ref (h + 1), .null, .null]) _ _ _
  refine gc_aload_n C 0 d_Hat_init_107 rfl rfl ?_
  refine gc_new (n := 165) (K9 := 7) (N9 := 3) (C9 := R_Dealings) (T9 := F_Dealings) (fs9 := [.null, .int 0, .int 0]) t_Dealings C hs (W1_c (Nat.le_of_ble_eq_true rfl)) (W1_len (Nat.le_of_ble_eq_true rfl)) rfl d_Hat_init_108 rfl i_Dealings t_Dealings_ok qw_385 qw_386 qw_11 (fun j hj => by rcases (show j = 0 ∨ j = 1 ∨ j = 2 by omega) with rfl | rfl | rfl <;> rfl) (Nat.le_of_ble_eq_true rfl) (Nat.le_of_ble_eq_true rfl) ?_
  refine gc_dup C d_Hat_init_111 rfl ?_
  refine gc_callN (n := 165) (σ := (mm_pl (mm_pl (mm_pl (mm_pl (mm_pl mm_0 1 39 (mm_pl mm_0 4 35 σS)) 47 11 (kI mm_0 0 1 (-1))) 60 35 σS) 95 35 σS) 130 35 σS)) C hs (c_Dealings_init _) d_Hat_init_112 0 qw_387 qw_388 qw_11 qw_389 rfl hd_Dealings_init rfl rfl (Nat.le_of_ble_eq_true rfl) ⟨(Nat.le_of_ble_eq_true rfl), (Nat.le_of_ble_eq_true rfl)⟩ ⟨(Nat.le_of_ble_eq_true rfl), (Nat.le_of_ble_eq_true rfl)⟩ (Nat.le_of_ble_eq_true rfl) rfl ha (by rw [hk]; decide +kernel) (by rw [hz]; decide +kernel) (fun o ho => by rw [pl_out1 (by omega), pl_out1 (by omega), pl_out1 (by omega), pl_out1 (by omega), pl_out1 (by omega)]; rfl) (fun o ho => by rw [pl_out2 (by omega), pl_out2 (by omega), pl_out2 (by omega), pl_out2 (by omega), pl_out2 (by omega)]; rfl) ?_
  refine gc_putF t_Hat C hnm 14 (W1_c (Nat.le_of_ble_eq_true rfl)) W1_0 d_Hat_init_115 i_Hat rfl (by decide) qw_417 rfl rfl t_Hat_ok n_Hat rfl (t_Hat_ok 14 (by decide)) rfl rfl (Nat.le_of_ble_eq_true rfl) ?_
  show GC E L _ 1 _ _ Q (W1 L (mm_pl (mm_pl (mm_pl (mm_pl (mm_pl mm_0 1 39 (mm_pl mm_0 4 35 σS)) 47 11 (kI mm_0 0 1 (-1))) 60 35 σS) 95 35 σS) 130 35 σS) h 168 10 [.ref (h + 3), .int 0, .int 0, .ref (h + 40), .ref (h + 47), .ref (h + 58), .int 0, .ref (h + 60), .ref (h + 5), .ref (h + 95), .ref (h + 130), .int 0, .int 0, .ref (h + 1), .ref (h + 165), .null]) _ _ _
  refine gc_aload_n C 0 d_Hat_init_118 rfl rfl ?_
  refine gc_bipush C (13 : Int32) d_Hat_init_119 (by decide) ?_
  refine gc_newa (n := 168) (ty := .long) 1 (13, .inr (.inl (fun _ => 0))) C hs (W1_c (Nat.le_of_ble_eq_true rfl)) (W1_len (Nat.le_of_ble_eq_true rfl)) rfl d_Hat_init_121 rfl rfl (fun _ _ q => q) qw_121 (fun _ => rfl) (by decide) (by decide) (Nat.le_of_ble_eq_true rfl) (Nat.le_of_ble_eq_true rfl) (Nat.le_of_ble_eq_true rfl) ?_
  refine gc_ws (W1_push (Nat.le_of_ble_eq_true rfl) (by rw [hk]; show _ = Sum.inl (_, ly_z L 168, _); rw [hz]; rw [pl_out2 (by omega), pl_out2 (by omega), pl_out2 (by omega), pl_out2 (by omega), pl_out2 (by omega)]; rfl)) ?_
  refine gc_putF t_Hat C hnm 15 (W1_c (Nat.le_of_ble_eq_true rfl)) W1_0 d_Hat_init_123 i_Hat rfl (by decide) qw_418 rfl rfl t_Hat_ok n_Hat rfl (t_Hat_ok 15 (by decide)) rfl rfl (Nat.le_of_ble_eq_true rfl) ?_
  show GC E L _ 1 _ _ Q (W1 L (mm_pl (mm_pl (mm_pl (mm_pl (mm_pl mm_0 1 39 (mm_pl mm_0 4 35 σS)) 47 11 (kI mm_0 0 1 (-1))) 60 35 σS) 95 35 σS) 130 35 σS) h 169 10 [.ref (h + 3), .int 0, .int 0, .ref (h + 40), .ref (h + 47), .ref (h + 58), .int 0, .ref (h + 60), .ref (h + 5), .ref (h + 95), .ref (h + 130), .int 0, .int 0, .ref (h + 1), .ref (h + 165), .ref (h + 168)]) _ _ _
  have e9 : W1 L (mm_pl (mm_pl (mm_pl (mm_pl (mm_pl mm_0 1 39 (mm_pl mm_0 4 35 σS)) 47 11 (kI mm_0 0 1 (-1))) 60 35 σS) 95 35 σS) 130 35 σS) h 169 10 [.ref (h + 3), .int 0, .int 0, .ref (h + 40), .ref (h + 47), .ref (h + 58), .int 0, .ref (h + 60), .ref (h + 5), .ref (h + 95), .ref (h + 130), .int 0, .int 0, .ref (h + 1), .ref (h + 165), .ref (h + 168)] = wl L (mm_pl (mm_pl (mm_pl (mm_pl (mm_pl mm_0 1 39 (mm_pl mm_0 4 35 σS)) 47 11 (kI mm_0 0 1 (-1))) 60 35 σS) 95 35 σS) 130 35 σS) := by
    have := W1_full (L := L) (σ := (mm_pl (mm_pl (mm_pl (mm_pl (mm_pl mm_0 1 39 (mm_pl mm_0 4 35 σS)) 47 11 (kI mm_0 0 1 (-1))) 60 35 σS) 95 35 σS) 130 35 σS)) (h := h) (K := 10) (fs := [.ref (h + 3), .int 0, .int 0, .ref (h + 40), .ref (h + 47), .ref (h + 58), .int 0, .ref (h + 60), .ref (h + 5), .ref (h + 95), .ref (h + 130), .int 0, .int 0, .ref (h + 1), .ref (h + 165), .ref (h + 168)]) ha (by rw [hn]; decide) (by rw [hk]; rfl) (by decide) (by rw [pl_out1 (by omega), pl_out1 (by omega), pl_out1 (by omega), pl_out1 (by omega), pl_out1 (by omega), pl_out2 (by omega), pl_out2 (by omega), pl_out2 (by omega), pl_out2 (by omega), pl_out2 (by omega)]; rfl)
    rw [hn] at this; exact this
  refine gc_ws e9 ?_
  exact hN9 _ _ d_Hat_init_126

