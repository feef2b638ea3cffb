/-! NameHat.Names.clear()V -/
abbrev b_Names_clear : ByteArray := prog_5_method_7_code
def y_Names_clear : MethodName := ⟨"NameHat$Names", "clear", "()V"⟩
abbrev rm_Names_clear : Room := { frames := 0, cells := 0, slots := 0, locals := 0 }
theorem hd_Names_clear : y_Names_clear.cls ≠ "java/lang/invoke/MethodHandle" ∧ y_Names_clear.cls ≠ "java/lang/invoke/VarHandle" ∧ (parseMethodDescriptor y_Names_clear.desc).map (fun d => d.parameters.length) = some 0 := by decide +kernel
theorem d_Names_clear_0 : decode b_Names_clear 0 = .ok (.aload_n 0, 1) := by decide +kernel
theorem d_Names_clear_1 : decode b_Names_clear 1 = .ok (.iconst 0, 1) := by decide +kernel
theorem d_Names_clear_2 : decode b_Names_clear 2 = .ok (.putfield 15, 3) := by decide +kernel
theorem d_Names_clear_5 : decode b_Names_clear 5 = .ok (.return_, 1) := by decide +kernel
noncomputable def f_Names_clear (z : Nat → Nat) (σ : Mm) (o : Nat) : Option (Mm) :=
  mm_lt (kI σ o 1 (0 : Int32)) fun m2 =>
  some m2
set_option maxHeartbeats 4000000 in
set_option maxRecDepth 100000 in
theorem c_Names_clear (l : Launch) {L : Ly} (hg : gd_ok L) {σ : Mm} {o : Nat} (k_o_0 : ly_k L o = 1) {res : Mm} (hf0 : f_Names_clear (ly_z L) σ o = some res) : CtV l y_Names_clear b_Names_clear 1 (none) rm_Names_clear L [.ref (ly_a L o)] σ res := by
  refine ct_v hg (by decide) (Nat.le_of_ble_eq_true rfl) ?_
  intro E A Q hE C hN
  subst hE
  unfold f_Names_clear at hf0
  show GW E L A 1 0 0 Q σ 0 [(0, .ref (ly_a L o))] []
  refine gw_aload_n C 0 d_Names_clear_0 rfl rfl ?_
  refine gw_iconst C (0 : Int32) d_Names_clear_1 (by decide) ?_
  obtain ⟨m2, em2, hf0⟩ := mx_lt hf0
  refine gw_putI t_Names C 1 d_Names_clear_2 k_o_0 (by decide) i_Names rfl rfl (by decide) qw_109 rfl rfl t_Names_ok n_Names rfl (t_Names_ok 1 (by decide)) rfl rfl em2 ?_
  exact en_v hN hf0 d_Names_clear_5

/-! NameHat.Row.fill(I)V -/
abbrev b_Row_fill : ByteArray := prog_8_method_4_code
def y_Row_fill : MethodName := ⟨"NameHat$Row", "fill", "(I)V"⟩
abbrev rm_Row_fill : Room := { frames := 0, cells := 0, slots := 0, locals := 0 }
theorem hd_Row_fill : y_Row_fill.cls ≠ "java/lang/invoke/MethodHandle" ∧ y_Row_fill.cls ≠ "java/lang/invoke/VarHandle" ∧ (parseMethodDescriptor y_Row_fill.desc).map (fun d => d.parameters.length) = some 1 := by decide +kernel
theorem d_Row_fill_0 : decode b_Row_fill 0 = .ok (.iconst 0, 1) := by decide +kernel
theorem d_Row_fill_1 : decode b_Row_fill 1 = .ok (.istore_n 2, 1) := by decide +kernel
theorem d_Row_fill_2 : decode b_Row_fill 2 = .ok (.iload_n 2, 1) := by decide +kernel
theorem d_Row_fill_3 : decode b_Row_fill 3 = .ok (.aload_n 0, 1) := by decide +kernel
theorem d_Row_fill_4 : decode b_Row_fill 4 = .ok (.getfield 9, 3) := by decide +kernel
theorem d_Row_fill_7 : decode b_Row_fill 7 = .ok (.arraylength, 1) := by decide +kernel
theorem d_Row_fill_8 : decode b_Row_fill 8 = .ok (.if_icmp .ge 16, 3) := by decide +kernel
theorem d_Row_fill_11 : decode b_Row_fill 11 = .ok (.aload_n 0, 1) := by decide +kernel
theorem d_Row_fill_12 : decode b_Row_fill 12 = .ok (.getfield 9, 3) := by decide +kernel
theorem d_Row_fill_15 : decode b_Row_fill 15 = .ok (.iload_n 2, 1) := by decide +kernel
theorem d_Row_fill_16 : decode b_Row_fill 16 = .ok (.iload_n 1, 1) := by decide +kernel
theorem d_Row_fill_17 : decode b_Row_fill 17 = .ok (.iastore, 1) := by decide +kernel
theorem d_Row_fill_18 : decode b_Row_fill 18 = .ok (.iinc 2 1, 3) := by decide +kernel
theorem d_Row_fill_21 : decode b_Row_fill 21 = .ok (.goto (-19), 3) := by decide +kernel
theorem d_Row_fill_24 : decode b_Row_fill 24 = .ok (.return_, 1) := by decide +kernel
noncomputable def f_Row_fill_L2 (z : Nat → Nat) (o : Nat) (v1 : Int32) (s2 : Int32 × Mm) : Option ((Int32 × Mm) ⊕ (Mm)) :=
  if (nI (z (o + 1))) ≤ s2.1 then (
    some (.inr s2.2)
  ) else (
    (mm_stI s2.2 (o + 1) (z (o + 1)) s2.1 v1).bind fun m17 =>
    mm_lt (s2.1 + (1 : Int32)) fun x18 =>
    some (.inl (x18, m17))
  )
noncomputable def f_Row_fill (z : Nat → Nat) (σ : Mm) (o : Nat) (p1 : Int32) : Option (Mm) :=
  (mm_lp (f_Row_fill_L2 z o p1) ((0 : Int32), σ)).bind (fun q2 =>
    some q2)
set_option maxHeartbeats 4000000 in
set_option maxRecDepth 100000 in
theorem c_Row_fill (l : Launch) {L : Ly} (hg : gd_ok L) {σ : Mm} {o : Nat} {p1 : Int32} (k_o_0 : ly_k L o = 0) {res : Mm} (hf0 : f_Row_fill (ly_z L) σ o p1 = some res) : CtV l y_Row_fill b_Row_fill 3 (none) rm_Row_fill L [.ref (ly_a L o), .int p1] σ res := by
  refine ct_v hg (by decide) (Nat.le_of_ble_eq_true rfl) ?_
  intro E A Q hE C hN
  subst hE
  have k_o_1 : ly_k L (o + 1) = 20 := gd_Row_cells hg k_o_0
  unfold f_Row_fill at hf0
  show GW E L A 3 0 0 Q σ 0 [(0, .ref (ly_a L o)), (1, .int p1)] []
  refine gw_iconst C (0 : Int32) d_Row_fill_0 (by decide) ?_
  refine gw_istore_n C [(2, .int (0 : Int32)), (0, .ref (ly_a L o)), (1, .int p1)] d_Row_fill_1 rfl (by decide) rfl ?_
  obtain ⟨q2, hq2, hf0⟩ := mx_bd hf0
  have hk2 : ∀ x9, q2 = x9 → GW E L A 3 0 0 Q x9 24 [] [] := by
    intro x9 hx9
    subst hx9
    exact en_v hN hf0 d_Row_fill_24
  refine gw_sub [1, 2, 0] (lv' := [(0, .ref (ly_a L o)), (1, .int p1), (2, .int (0 : Int32))]) rfl ?_
  refine mm_rule hq2 (P := fun (s2 : Int32 × Mm) => GW E L A 3 0 0 Q s2.2 2 [(0, .ref (ly_a L o)), (1, .int p1), (2, .int s2.1)] []) ?_
  intro s2 ih2 hx2 ⟨w2, hb2⟩
  have hf1 := hb2
  unfold f_Row_fill_L2 at hf1
  refine gw_iload_n C 2 d_Row_fill_2 rfl rfl ?_
  refine gw_aload_n C 0 d_Row_fill_3 rfl rfl ?_
  refine gw_getA C 0 d_Row_fill_4 k_o_0 (by decide) i_Row rfl rfl (by decide) qw_50 rfl rfl (o + 1) rfl ?_
  refine gw_alen20 C d_Row_fill_7 k_o_1 ?_
  refine gw_icmp_ge C 24 d_Row_fill_8 (by decide) (fun hc => ?_) (fun hc => ?_)
  · replace hf1 := mx_t hc hf1
    exact gw_go [] (hk2 s2.2 (hx2 _ (hb2.trans hf1.symm)).symm) rfl
  · replace hf1 := mx_f hc hf1
    refine gw_aload_n C 0 d_Row_fill_11 rfl rfl ?_
    refine gw_getA C 0 d_Row_fill_12 k_o_0 (by decide) i_Row rfl rfl (by decide) qw_50 rfl rfl (o + 1) rfl ?_
    refine gw_iload_n C 2 d_Row_fill_15 rfl rfl ?_
    refine gw_iload_n C 1 d_Row_fill_16 rfl rfl ?_
    obtain ⟨m17, hm17, hf1⟩ := mx_bd hf1
    obtain ⟨gm17, em17⟩ := mx_stI hm17
    refine gw_iast C d_Row_fill_17 k_o_1 gm17 em17 ?_
    obtain ⟨x18, ex18, hf1⟩ := mx_lt hf1
    refine gw_iinc C 2 [(2, .int x18), (0, .ref (ly_a L o)), (1, .int p1)] d_Row_fill_18 rfl (by rw [ex18]; rfl) (by decide) rfl ?_
    refine gw_goto C 2 d_Row_fill_21 (by decide) ?_
    exact gw_go [1, 2, 0] (ih2 (x18, m17) (hb2.trans hf1.symm)) rfl

/-! NameHat.Island.clear()V -/
abbrev b_Island_clear : ByteArray := prog_4_method_2_code
def y_Island_clear : MethodName := ⟨"NameHat$Island", "clear", "()V"⟩
abbrev rm_Island_clear : Room := { frames := 1, cells := 0, slots := 0, locals := 22 }
theorem hd_Island_clear : y_Island_clear.cls ≠ "java/lang/invoke/MethodHandle" ∧ y_Island_clear.cls ≠ "java/lang/invoke/VarHandle" ∧ (parseMethodDescriptor y_Island_clear.desc).map (fun d => d.parameters.length) = some 0 := by decide +kernel
theorem d_Island_clear_0 : decode b_Island_clear 0 = .ok (.aload_n 0, 1) := by decide +kernel
theorem d_Island_clear_1 : decode b_Island_clear 1 = .ok (.getfield 14, 3) := by decide +kernel
theorem d_Island_clear_4 : decode b_Island_clear 4 = .ok (.invokevirtual 39, 3) := by decide +kernel
theorem d_Island_clear_7 : decode b_Island_clear 7 = .ok (.aload_n 0, 1) := by decide +kernel
theorem d_Island_clear_8 : decode b_Island_clear 8 = .ok (.getfield 20, 3) := by decide +kernel
theorem d_Island_clear_11 : decode b_Island_clear 11 = .ok (.invokevirtual 39, 3) := by decide +kernel
theorem d_Island_clear_14 : decode b_Island_clear 14 = .ok (.aload_n 0, 1) := by decide +kernel
theorem d_Island_clear_15 : decode b_Island_clear 15 = .ok (.getfield 26, 3) := by decide +kernel
theorem d_Island_clear_18 : decode b_Island_clear 18 = .ok (.iconst 0, 1) := by decide +kernel
theorem d_Island_clear_19 : decode b_Island_clear 19 = .ok (.invokevirtual 42, 3) := by decide +kernel
theorem d_Island_clear_22 : decode b_Island_clear 22 = .ok (.aload_n 0, 1) := by decide +kernel
theorem d_Island_clear_23 : decode b_Island_clear 23 = .ok (.getfield 30, 3) := by decide +kernel
theorem d_Island_clear_26 : decode b_Island_clear 26 = .ok (.iconst 0, 1) := by decide +kernel
theorem d_Island_clear_27 : decode b_Island_clear 27 = .ok (.invokevirtual 42, 3) := by decide +kernel
theorem d_Island_clear_30 : decode b_Island_clear 30 = .ok (.aload_n 0, 1) := by decide +kernel
theorem d_Island_clear_31 : decode b_Island_clear 31 = .ok (.getfield 33, 3) := by decide +kernel
theorem d_Island_clear_34 : decode b_Island_clear 34 = .ok (.iconst 0, 1) := by decide +kernel
theorem d_Island_clear_35 : decode b_Island_clear 35 = .ok (.invokevirtual 42, 3) := by decide +kernel
theorem d_Island_clear_38 : decode b_Island_clear 38 = .ok (.aload_n 0, 1) := by decide +kernel
theorem d_Island_clear_39 : decode b_Island_clear 39 = .ok (.getfield 36, 3) := by decide +kernel
theorem d_Island_clear_42 : decode b_Island_clear 42 = .ok (.iconst (-1), 1) := by decide +kernel
theorem d_Island_clear_43 : decode b_Island_clear 43 = .ok (.invokevirtual 42, 3) := by decide +kernel
theorem d_Island_clear_46 : decode b_Island_clear 46 = .ok (.aload_n 0, 1) := by decide +kernel
theorem d_Island_clear_47 : decode b_Island_clear 47 = .ok (.iconst 1, 1) := by decide +kernel
theorem d_Island_clear_48 : decode b_Island_clear 48 = .ok (.putfield 45, 3) := by decide +kernel
theorem d_Island_clear_51 : decode b_Island_clear 51 = .ok (.aload_n 0, 1) := by decide +kernel
theorem d_Island_clear_52 : decode b_Island_clear 52 = .ok (.bipush 8, 2) := by decide +kernel
theorem d_Island_clear_54 : decode b_Island_clear 54 = .ok (.putfield 49, 3) := by decide +kernel
theorem d_Island_clear_57 : decode b_Island_clear 57 = .ok (.aload_n 0, 1) := by decide +kernel
theorem d_Island_clear_58 : decode b_Island_clear 58 = .ok (.iconst 0, 1) := by decide +kernel
theorem d_Island_clear_59 : decode b_Island_clear 59 = .ok (.putfield 52, 3) := by decide +kernel
theorem d_Island_clear_62 : decode b_Island_clear 62 = .ok (.return_, 1) := by decide +kernel
noncomputable def f_Island_clear (z : Nat → Nat) (σ : Mm) (o : Nat) : Option (Mm) :=
  (f_Names_clear z σ (o + 1)).bind fun q4 =>
  (f_Names_clear z q4 (o + 3)).bind fun q11 =>
  (f_Row_fill z q11 (o + 5) (0 : Int32)).bind fun q19 =>
  (f_Row_fill z q19 (o + 7) (0 : Int32)).bind fun q27 =>
  (f_Row_fill z q27 (o + 9) (0 : Int32)).bind fun q35 =>
  (f_Row_fill z q35 (o + 11) ((-1) : Int32)).bind fun q43 =>
  mm_lt (kI q43 o 6 (1 : Int32)) fun m48 =>
  mm_lt (kI m48 o 7 (8 : Int32)) fun m54 =>
  mm_lt (kI m54 o 8 (0 : Int32)) fun m59 =>
  some m59
set_option maxHeartbeats 4000000 in
set_option maxRecDepth 100000 in
theorem c_Island_clear (l : Launch) {L : Ly} (hg : gd_ok L) {σ : Mm} {o : Nat} (k_o_0 : ly_k L o = 2) {res : Mm} (hf0 : f_Island_clear (ly_z L) σ o = some res) : CtV l y_Island_clear b_Island_clear 1 (none) rm_Island_clear L [.ref (ly_a L o)] σ res := by
  refine ct_v hg (by decide) (Nat.le_of_ble_eq_true rfl) ?_
  intro E A Q hE C hN
  subst hE
  have k_o_1 : ly_k L (o + 1) = 1 := gd_Island_surnames hg k_o_0
  have k_o_3 : ly_k L (o + 3) = 1 := gd_Island_houses hg k_o_0
  have k_o_5 : ly_k L (o + 5) = 0 := gd_Island_worths hg k_o_0
  have k_o_7 : ly_k L (o + 7) = 0 := gd_Island_kinds hg k_o_0
  have k_o_9 : ly_k L (o + 9) = 0 := gd_Island_feuds hg k_o_0
  have k_o_11 : ly_k L (o + 11) = 0 := gd_Island_wants hg k_o_0
  unfold f_Island_clear at hf0
  show GW E L A 1 0 0 Q σ 0 [(0, .ref (ly_a L o))] []
  refine gw_aload_n C 0 d_Island_clear_0 rfl rfl ?_
  refine gw_getA C 0 d_Island_clear_1 k_o_0 (by decide) i_Island rfl rfl (by decide) qw_124 rfl rfl (o + 1) rfl ?_
  obtain ⟨q4, hq4, hf0⟩ := mx_bd hf0
  refine gw_callV C (c_Names_clear _ hg k_o_1 hq4) d_Island_clear_4 0 qw_216 qw_217 qw_218 qw_7 qw_219 k_o_1 (by decide) rfl hd_Names_clear rfl rfl (Nat.le_of_ble_eq_true rfl) ⟨rfl, rfl, Nat.le_of_ble_eq_true rfl, Nat.le_of_ble_eq_true rfl⟩ ⟨Nat.zero_le _, Nat.zero_le _⟩ ?_
  refine gw_aload_n C 0 d_Island_clear_7 rfl rfl ?_
  refine gw_getA C 1 d_Island_clear_8 k_o_0 (by decide) i_Island rfl rfl (by decide) qw_129 rfl rfl (o + 3) rfl ?_
  obtain ⟨q11, hq11, hf0⟩ := mx_bd hf0
  refine gw_callV C (c_Names_clear _ hg k_o_3 hq11) d_Island_clear_11 0 qw_216 qw_217 qw_218 qw_7 qw_219 k_o_3 (by decide) rfl hd_Names_clear rfl rfl (Nat.le_of_ble_eq_true rfl) ⟨rfl, rfl, Nat.le_of_ble_eq_true rfl, Nat.le_of_ble_eq_true rfl⟩ ⟨Nat.zero_le _, Nat.zero_le _⟩ ?_
  refine gw_aload_n C 0 d_Island_clear_14 rfl rfl ?_
  refine gw_getA C 2 d_Island_clear_15 k_o_0 (by decide) i_Island rfl rfl (by decide) qw_137 rfl rfl (o + 5) rfl ?_
  refine gw_iconst C (0 : Int32) d_Island_clear_18 (by decide) ?_
  obtain ⟨q19, hq19, hf0⟩ := mx_bd hf0
  refine gw_callV C (c_Row_fill _ hg k_o_5 hq19) d_Island_clear_19 1 qw_220 qw_221 qw_222 qw_4 qw_223 k_o_5 (by decide) rfl hd_Row_fill rfl rfl (Nat.le_of_ble_eq_true rfl) ⟨rfl, rfl, Nat.le_of_ble_eq_true rfl, Nat.le_of_ble_eq_true rfl⟩ ⟨Nat.zero_le _, Nat.zero_le _⟩ ?_
  refine gw_aload_n C 0 d_Island_clear_22 rfl rfl ?_
  refine gw_getA C 3 d_Island_clear_23 k_o_0 (by decide) i_Island rfl rfl (by decide) qw_141 rfl rfl (o + 7) rfl ?_
  refine gw_iconst C (0 : Int32) d_Island_clear_26 (by decide) ?_
  obtain ⟨q27, hq27, hf0⟩ := mx_bd hf0
  refine gw_callV C (c_Row_fill _ hg k_o_7 hq27) d_Island_clear_27 1 qw_220 qw_221 qw_222 qw_4 qw_223 k_o_7 (by decide) rfl hd_Row_fill rfl rfl (Nat.le_of_ble_eq_true rfl) ⟨rfl, rfl, Nat.le_of_ble_eq_true rfl, Nat.le_of_ble_eq_true rfl⟩ ⟨Nat.zero_le _, Nat.zero_le _⟩ ?_
  refine gw_aload_n C 0 d_Island_clear_30 rfl rfl ?_
  refine gw_getA C 4 d_Island_clear_31 k_o_0 (by decide) i_Island rfl rfl (by decide) qw_144 rfl rfl (o + 9) rfl ?_
  refine gw_iconst C (0 : Int32) d_Island_clear_34 (by decide) ?_
  obtain ⟨q35, hq35, hf0⟩ := mx_bd hf0
  refine gw_callV C (c_Row_fill _ hg k_o_9 hq35) d_Island_clear_35 1 qw_220 qw_221 qw_222 qw_4 qw_223 k_o_9 (by decide) rfl hd_Row_fill rfl rfl (Nat.le_of_ble_eq_true rfl) ⟨rfl, rfl, Nat.le_of_ble_eq_true rfl, Nat.le_of_ble_eq_true rfl⟩ ⟨Nat.zero_le _, Nat.zero_le _⟩ ?_
  refine gw_aload_n C 0 d_Island_clear_38 rfl rfl ?_
  refine gw_getA C 5 d_Island_clear_39 k_o_0 (by decide) i_Island rfl rfl (by decide) qw_146 rfl rfl (o + 11) rfl ?_
  refine gw_iconst C ((-1) : Int32) d_Island_clear_42 (by decide) ?_
  obtain ⟨q43, hq43, hf0⟩ := mx_bd hf0
  refine gw_callV C (c_Row_fill _ hg k_o_11 hq43) d_Island_clear_43 1 qw_220 qw_221 qw_222 qw_4 qw_223 k_o_11 (by decide) rfl hd_Row_fill rfl rfl (Nat.le_of_ble_eq_true rfl) ⟨rfl, rfl, Nat.le_of_ble_eq_true rfl, Nat.le_of_ble_eq_true rfl⟩ ⟨Nat.zero_le _, Nat.zero_le _⟩ ?_
  refine gw_aload_n C 0 d_Island_clear_46 rfl rfl ?_
  refine gw_iconst C (1 : Int32) d_Island_clear_47 (by decide) ?_
  obtain ⟨m48, em48, hf0⟩ := mx_lt hf0
  refine gw_putI t_Island C 6 d_Island_clear_48 k_o_0 (by decide) i_Island rfl rfl (by decide) qw_148 rfl rfl t_Island_ok n_Island rfl (t_Island_ok 6 (by decide)) rfl rfl em48 ?_
  refine gw_aload_n C 0 d_Island_clear_51 rfl rfl ?_
  refine gw_bipush C (8 : Int32) d_Island_clear_52 (by decide) ?_
  obtain ⟨m54, em54, hf0⟩ := mx_lt hf0
  refine gw_putI t_Island C 7 d_Island_clear_54 k_o_0 (by decide) i_Island rfl rfl (by decide) qw_152 rfl rfl t_Island_ok n_Island rfl (t_Island_ok 7 (by decide)) rfl rfl em54 ?_
  refine gw_aload_n C 0 d_Island_clear_57 rfl rfl ?_
  refine gw_iconst C (0 : Int32) d_Island_clear_58 (by decide) ?_
  obtain ⟨m59, em59, hf0⟩ := mx_lt hf0
  refine gw_putI t_Island C 8 d_Island_clear_59 k_o_0 (by decide) i_Island rfl rfl (by decide) qw_156 rfl rfl t_Island_ok n_Island rfl (t_Island_ok 8 (by decide)) rfl rfl em59 ?_
  exact en_v hN hf0 d_Island_clear_62

/-! NameHat.Hands.clear()V -/
abbrev b_Hands_clear : ByteArray := prog_3_method_2_code
def y_Hands_clear : MethodName := ⟨"NameHat$Hands", "clear", "()V"⟩
abbrev rm_Hands_clear : Room := { frames := 1, cells := 0, slots := 0, locals := 22 }
theorem hd_Hands_clear : y_Hands_clear.cls ≠ "java/lang/invoke/MethodHandle" ∧ y_Hands_clear.cls ≠ "java/lang/invoke/VarHandle" ∧ (parseMethodDescriptor y_Hands_clear.desc).map (fun d => d.parameters.length) = some 0 := by decide +kernel
theorem d_Hands_clear_0 : decode b_Hands_clear 0 = .ok (.aload_n 0, 1) := by decide +kernel
theorem d_Hands_clear_1 : decode b_Hands_clear 1 = .ok (.getfield 14, 3) := by decide +kernel
theorem d_Hands_clear_4 : decode b_Hands_clear 4 = .ok (.iconst (-1), 1) := by decide +kernel
theorem d_Hands_clear_5 : decode b_Hands_clear 5 = .ok (.invokevirtual 29, 3) := by decide +kernel
theorem d_Hands_clear_8 : decode b_Hands_clear 8 = .ok (.aload_n 0, 1) := by decide +kernel
theorem d_Hands_clear_9 : decode b_Hands_clear 9 = .ok (.getfield 20, 3) := by decide +kernel
theorem d_Hands_clear_12 : decode b_Hands_clear 12 = .ok (.iconst 0, 1) := by decide +kernel
theorem d_Hands_clear_13 : decode b_Hands_clear 13 = .ok (.invokevirtual 29, 3) := by decide +kernel
theorem d_Hands_clear_16 : decode b_Hands_clear 16 = .ok (.return_, 1) := by decide +kernel
noncomputable def f_Hands_clear (z : Nat → Nat) (σ : Mm) (o : Nat) : Option (Mm) :=
  (f_Row_fill z σ (o + 1) ((-1) : Int32)).bind fun q5 =>
  (f_Row_fill z q5 (o + 3) (0 : Int32)).bind fun q13 =>
  some q13
set_option maxHeartbeats 4000000 in
set_option maxRecDepth 100000 in
theorem c_Hands_clear (l : Launch) {L : Ly} (hg : gd_ok L) {σ : Mm} {o : Nat} (k_o_0 : ly_k L o = 3) {res : Mm} (hf0 : f_Hands_clear (ly_z L) σ o = some res) : CtV l y_Hands_clear b_Hands_clear 1 (none) rm_Hands_clear L [.ref (ly_a L o)] σ res := by
  refine ct_v hg (by decide) (Nat.le_of_ble_eq_true rfl) ?_
  intro E A Q hE C hN
  subst hE
  have k_o_1 : ly_k L (o + 1) = 0 := gd_Hands_held hg k_o_0
  have k_o_3 : ly_k L (o + 3) = 0 := gd_Hands_sits hg k_o_0
  unfold f_Hands_clear at hf0
  show GW E L A 1 0 0 Q σ 0 [(0, .ref (ly_a L o))] []
  refine gw_aload_n C 0 d_Hands_clear_0 rfl rfl ?_
  refine gw_getA C 0 d_Hands_clear_1 k_o_0 (by decide) i_Hands rfl rfl (by decide) qw_186 rfl rfl (o + 1) rfl ?_
  refine gw_iconst C ((-1) : Int32) d_Hands_clear_4 (by decide) ?_
  obtain ⟨q5, hq5, hf0⟩ := mx_bd hf0
  refine gw_callV C (c_Row_fill _ hg k_o_1 hq5) d_Hands_clear_5 1 qw_228 qw_221 qw_222 qw_4 qw_223 k_o_1 (by decide) rfl hd_Row_fill rfl rfl (Nat.le_of_ble_eq_true rfl) ⟨rfl, rfl, Nat.le_of_ble_eq_true rfl, Nat.le_of_ble_eq_true rfl⟩ ⟨Nat.zero_le _, Nat.zero_le _⟩ ?_
  refine gw_aload_n C 0 d_Hands_clear_8 rfl rfl ?_
  refine gw_getA C 1 d_Hands_clear_9 k_o_0 (by decide) i_Hands rfl rfl (by decide) qw_191 rfl rfl (o + 3) rfl ?_
  refine gw_iconst C (0 : Int32) d_Hands_clear_12 (by decide) ?_
  obtain ⟨q13, hq13, hf0⟩ := mx_bd hf0
  refine gw_callV C (c_Row_fill _ hg k_o_3 hq13) d_Hands_clear_13 1 qw_228 qw_221 qw_222 qw_4 qw_223 k_o_3 (by decide) rfl hd_Row_fill rfl rfl (Nat.le_of_ble_eq_true rfl) ⟨rfl, rfl, Nat.le_of_ble_eq_true rfl, Nat.le_of_ble_eq_true rfl⟩ ⟨Nat.zero_le _, Nat.zero_le _⟩ ?_
  exact en_v hN hf0 d_Hands_clear_16

/-! NameHat.State.clearRoll()V -/
abbrev b_State_clearRoll : ByteArray := prog_10_method_3_code
def y_State_clearRoll : MethodName := ⟨"NameHat$State", "clearRoll", "()V"⟩
abbrev rm_State_clearRoll : Room := { frames := 1, cells := 0, slots := 0, locals := 22 }
theorem hd_State_clearRoll : y_State_clearRoll.cls ≠ "java/lang/invoke/MethodHandle" ∧ y_State_clearRoll.cls ≠ "java/lang/invoke/VarHandle" ∧ (parseMethodDescriptor y_State_clearRoll.desc).map (fun d => d.parameters.length) = some 0 := by decide +kernel
theorem d_State_clearRoll_0 : decode b_State_clearRoll 0 = .ok (.aload_n 0, 1) := by decide +kernel
theorem d_State_clearRoll_1 : decode b_State_clearRoll 1 = .ok (.iconst 0, 1) := by decide +kernel
theorem d_State_clearRoll_2 : decode b_State_clearRoll 2 = .ok (.putfield 67, 3) := by decide +kernel
theorem d_State_clearRoll_5 : decode b_State_clearRoll 5 = .ok (.aload_n 0, 1) := by decide +kernel
theorem d_State_clearRoll_6 : decode b_State_clearRoll 6 = .ok (.getfield 37, 3) := by decide +kernel
theorem d_State_clearRoll_9 : decode b_State_clearRoll 9 = .ok (.sipush 1023, 3) := by decide +kernel
theorem d_State_clearRoll_12 : decode b_State_clearRoll 12 = .ok (.invokevirtual 58, 3) := by decide +kernel
theorem d_State_clearRoll_15 : decode b_State_clearRoll 15 = .ok (.return_, 1) := by decide +kernel
noncomputable def f_State_clearRoll (z : Nat → Nat) (σ : Mm) (o : Nat) : Option (Mm) :=
  mm_lt (kI σ o 5 (0 : Int32)) fun m2 =>
  (f_Row_fill z m2 (o + 27) (1023 : Int32)).bind fun q12 =>
  some q12
set_option maxHeartbeats 4000000 in
set_option maxRecDepth 100000 in
theorem c_State_clearRoll (l : Launch) {L : Ly} (hg : gd_ok L) {σ : Mm} {o : Nat} (k_o_0 : ly_k L o = 4) {res : Mm} (hf0 : f_State_clearRoll (ly_z L) σ o = some res) : CtV l y_State_clearRoll b_State_clearRoll 1 (none) rm_State_clearRoll L [.ref (ly_a L o)] σ res := by
  refine ct_v hg (by decide) (Nat.le_of_ble_eq_true rfl) ?_
  intro E A Q hE C hN
  subst hE
  have k_o_27 : ly_k L (o + 27) = 0 := gd_State_fits hg k_o_0
  unfold f_State_clearRoll at hf0
  show GW E L A 1 0 0 Q σ 0 [(0, .ref (ly_a L o))] []
  refine gw_aload_n C 0 d_State_clearRoll_0 rfl rfl ?_
  refine gw_iconst C (0 : Int32) d_State_clearRoll_1 (by decide) ?_
  obtain ⟨m2, em2, hf0⟩ := mx_lt hf0
  refine gw_putI t_State C 5 d_State_clearRoll_2 k_o_0 (by decide) i_State rfl rfl (by decide) qw_245 rfl rfl t_State_ok n_State rfl (t_State_ok 5 (by decide)) rfl rfl em2 ?_
  refine gw_aload_n C 0 d_State_clearRoll_5 rfl rfl ?_
  refine gw_getA C 6 d_State_clearRoll_6 k_o_0 (by decide) i_State rfl rfl (by decide) qw_248 rfl rfl (o + 27) rfl ?_
  refine gw_sipush C (1023 : Int32) d_State_clearRoll_9 (by decide) ?_
  obtain ⟨q12, hq12, hf0⟩ := mx_bd hf0
  refine gw_callV C (c_Row_fill _ hg k_o_27 hq12) d_State_clearRoll_12 1 qw_229 qw_221 qw_222 qw_4 qw_223 k_o_27 (by decide) rfl hd_Row_fill rfl rfl (Nat.le_of_ble_eq_true rfl) ⟨rfl, rfl, Nat.le_of_ble_eq_true rfl, Nat.le_of_ble_eq_true rfl⟩ ⟨Nat.zero_le _, Nat.zero_le _⟩ ?_
  exact en_v hN hf0 d_State_clearRoll_15

/-! NameHat.State.clear()V -/
abbrev b_State_clear : ByteArray := prog_10_method_2_code
def y_State_clear : MethodName := ⟨"NameHat$State", "clear", "()V"⟩
abbrev rm_State_clear : Room := { frames := 2, cells := 0, slots := 0, locals := 42 }
theorem hd_State_clear : y_State_clear.cls ≠ "java/lang/invoke/MethodHandle" ∧ y_State_clear.cls ≠ "java/lang/invoke/VarHandle" ∧ (parseMethodDescriptor y_State_clear.desc).map (fun d => d.parameters.length) = some 0 := by decide +kernel
theorem d_State_clear_0 : decode b_State_clear 0 = .ok (.aload_n 0, 1) := by decide +kernel
theorem d_State_clear_1 : decode b_State_clear 1 = .ok (.getfield 12, 3) := by decide +kernel
theorem d_State_clear_4 : decode b_State_clear 4 = .ok (.invokevirtual 52, 3) := by decide +kernel
theorem d_State_clear_7 : decode b_State_clear 7 = .ok (.aload_n 0, 1) := by decide +kernel
theorem d_State_clear_8 : decode b_State_clear 8 = .ok (.getfield 21, 3) := by decide +kernel
theorem d_State_clear_11 : decode b_State_clear 11 = .ok (.invokevirtual 53, 3) := by decide +kernel
theorem d_State_clear_14 : decode b_State_clear 14 = .ok (.aload_n 0, 1) := by decide +kernel
theorem d_State_clear_15 : decode b_State_clear 15 = .ok (.iconst 0, 1) := by decide +kernel
theorem d_State_clear_16 : decode b_State_clear 16 = .ok (.putfield 54, 3) := by decide +kernel
theorem d_State_clear_19 : decode b_State_clear 19 = .ok (.aload_n 0, 1) := by decide +kernel
theorem d_State_clear_20 : decode b_State_clear 20 = .ok (.getfield 30, 3) := by decide +kernel
theorem d_State_clear_23 : decode b_State_clear 23 = .ok (.iconst (-1), 1) := by decide +kernel
theorem d_State_clear_24 : decode b_State_clear 24 = .ok (.invokevirtual 58, 3) := by decide +kernel
theorem d_State_clear_27 : decode b_State_clear 27 = .ok (.aload_n 0, 1) := by decide +kernel
theorem d_State_clear_28 : decode b_State_clear 28 = .ok (.getfield 34, 3) := by decide +kernel
theorem d_State_clear_31 : decode b_State_clear 31 = .ok (.iconst (-1), 1) := by decide +kernel
theorem d_State_clear_32 : decode b_State_clear 32 = .ok (.invokevirtual 58, 3) := by decide +kernel
theorem d_State_clear_35 : decode b_State_clear 35 = .ok (.aload_n 0, 1) := by decide +kernel
theorem d_State_clear_36 : decode b_State_clear 36 = .ok (.invokevirtual 61, 3) := by decide +kernel
theorem d_State_clear_39 : decode b_State_clear 39 = .ok (.aload_n 0, 1) := by decide +kernel
theorem d_State_clear_40 : decode b_State_clear 40 = .ok (.iconst 0, 1) := by decide +kernel
theorem d_State_clear_41 : decode b_State_clear 41 = .ok (.putfield 64, 3) := by decide +kernel
theorem d_State_clear_44 : decode b_State_clear 44 = .ok (.return_, 1) := by decide +kernel
noncomputable def f_State_clear (z : Nat → Nat) (σ : Mm) (o : Nat) : Option (Mm) :=
  (f_Island_clear z σ (o + 1)).bind fun q4 =>
  (f_Hands_clear z q4 (o + 14)).bind fun q11 =>
  mm_lt (kI q11 o 2 (0 : Int32)) fun m16 =>
  (f_Row_fill z m16 (o + 23) ((-1) : Int32)).bind fun q24 =>
  (f_Row_fill z q24 (o + 25) ((-1) : Int32)).bind fun q32 =>
  (f_State_clearRoll z q32 o).bind fun q36 =>
  mm_lt (kI q36 o 7 (0 : Int32)) fun m41 =>
  some m41
set_option maxHeartbeats 4000000 in
set_option maxRecDepth 100000 in
theorem c_State_clear (l : Launch) {L : Ly} (hg : gd_ok L) {σ : Mm} {o : Nat} (k_o_0 : ly_k L o = 4) {res : Mm} (hf0 : f_State_clear (ly_z L) σ o = some res) : CtV l y_State_clear b_State_clear 1 (none) rm_State_clear L [.ref (ly_a L o)] σ res := by
  refine ct_v hg (by decide) (Nat.le_of_ble_eq_true rfl) ?_
  intro E A Q hE C hN
  subst hE
  have k_o_1 : ly_k L (o + 1) = 2 := gd_State_island hg k_o_0
  have k_o_14 : ly_k L (o + 14) = 3 := gd_State_hands hg k_o_0
  have k_o_23 : ly_k L (o + 23) = 0 := gd_State_ended hg k_o_0
  have k_o_25 : ly_k L (o + 25) = 0 := gd_State_drawn hg k_o_0
  unfold f_State_clear at hf0
  show GW E L A 1 0 0 Q σ 0 [(0, .ref (ly_a L o))] []
  refine gw_aload_n C 0 d_State_clear_0 rfl rfl ?_
  refine gw_getA C 0 d_State_clear_1 k_o_0 (by decide) i_State rfl rfl (by decide) qw_234 rfl rfl (o + 1) rfl ?_
  obtain ⟨q4, hq4, hf0⟩ := mx_bd hf0
  refine gw_callV C (c_Island_clear _ hg k_o_1 hq4) d_State_clear_4 0 qw_212 qw_213 qw_214 qw_6 qw_215 k_o_1 (by decide) rfl hd_Island_clear rfl rfl (Nat.le_of_ble_eq_true rfl) ⟨rfl, rfl, Nat.le_of_ble_eq_true rfl, Nat.le_of_ble_eq_true rfl⟩ ⟨Nat.zero_le _, Nat.zero_le _⟩ ?_
  refine gw_aload_n C 0 d_State_clear_7 rfl rfl ?_
  refine gw_getA C 1 d_State_clear_8 k_o_0 (by decide) i_State rfl rfl (by decide) qw_238 rfl rfl (o + 14) rfl ?_
  obtain ⟨q11, hq11, hf0⟩ := mx_bd hf0
  refine gw_callV C (c_Hands_clear _ hg k_o_14 hq11) d_State_clear_11 0 qw_224 qw_225 qw_226 qw_8 qw_227 k_o_14 (by decide) rfl hd_Hands_clear rfl rfl (Nat.le_of_ble_eq_true rfl) ⟨rfl, rfl, Nat.le_of_ble_eq_true rfl, Nat.le_of_ble_eq_true rfl⟩ ⟨Nat.zero_le _, Nat.zero_le _⟩ ?_
  refine gw_aload_n C 0 d_State_clear_14 rfl rfl ?_
  refine gw_iconst C (0 : Int32) d_State_clear_15 (by decide) ?_
  obtain ⟨m16, em16, hf0⟩ := mx_lt hf0
  refine gw_putI t_State C 2 d_State_clear_16 k_o_0 (by decide) i_State rfl rfl (by decide) qw_241 rfl rfl t_State_ok n_State rfl (t_State_ok 2 (by decide)) rfl rfl em16 ?_
  refine gw_aload_n C 0 d_State_clear_19 rfl rfl ?_
  refine gw_getA C 3 d_State_clear_20 k_o_0 (by decide) i_State rfl rfl (by decide) qw_243 rfl rfl (o + 23) rfl ?_
  refine gw_iconst C ((-1) : Int32) d_State_clear_23 (by decide) ?_
  obtain ⟨q24, hq24, hf0⟩ := mx_bd hf0
  refine gw_callV C (c_Row_fill _ hg k_o_23 hq24) d_State_clear_24 1 qw_229 qw_221 qw_222 qw_4 qw_223 k_o_23 (by decide) rfl hd_Row_fill rfl rfl (Nat.le_of_ble_eq_true rfl) ⟨rfl, rfl, Nat.le_of_ble_eq_true rfl, Nat.le_of_ble_eq_true rfl⟩ ⟨Nat.zero_le _, Nat.zero_le _⟩ ?_
  refine gw_aload_n C 0 d_State_clear_27 rfl rfl ?_
  refine gw_getA C 4 d_State_clear_28 k_o_0 (by decide) i_State rfl rfl (by decide) qw_244 rfl rfl (o + 25) rfl ?_
  refine gw_iconst C ((-1) : Int32) d_State_clear_31 (by decide) ?_
  obtain ⟨q32, hq32, hf0⟩ := mx_bd hf0
  refine gw_callV C (c_Row_fill _ hg k_o_25 hq32) d_State_clear_32 1 qw_229 qw_221 qw_222 qw_4 qw_223 k_o_25 (by decide) rfl hd_Row_fill rfl rfl (Nat.le_of_ble_eq_true rfl) ⟨rfl, rfl, Nat.le_of_ble_eq_true rfl, Nat.le_of_ble_eq_true rfl⟩ ⟨Nat.zero_le _, Nat.zero_le _⟩ ?_
  refine gw_aload_n C 0 d_State_clear_35 rfl rfl ?_
  obtain ⟨q36, hq36, hf0⟩ := mx_bd hf0
  refine gw_callV C (c_State_clearRoll _ hg k_o_0 hq36) d_State_clear_36 0 qw_230 qw_231 qw_232 qw_5 qw_233 k_o_0 (by decide) rfl hd_State_clearRoll rfl rfl (Nat.le_of_ble_eq_true rfl) ⟨rfl, rfl, Nat.le_of_ble_eq_true rfl, Nat.le_of_ble_eq_true rfl⟩ ⟨Nat.zero_le _, Nat.zero_le _⟩ ?_
  refine gw_aload_n C 0 d_State_clear_39 rfl rfl ?_
  refine gw_iconst C (0 : Int32) d_State_clear_40 (by decide) ?_
  obtain ⟨m41, em41, hf0⟩ := mx_lt hf0
  refine gw_putI t_State C 7 d_State_clear_41 k_o_0 (by decide) i_State rfl rfl (by decide) qw_252 rfl rfl t_State_ok n_State rfl (t_State_ok 7 (by decide)) rfl rfl em41 ?_
  exact en_v hN hf0 d_State_clear_44

/-! NameHat.Row.put(II)V -/
abbrev b_Row_put : ByteArray := prog_8_method_3_code
def y_Row_put : MethodName := ⟨"NameHat$Row", "put", "(II)V"⟩
abbrev rm_Row_put : Room := { frames := 0, cells := 0, slots := 0, locals := 0 }
theorem hd_Row_put : y_Row_put.cls ≠ "java/lang/invoke/MethodHandle" ∧ y_Row_put.cls ≠ "java/lang/invoke/VarHandle" ∧ (parseMethodDescriptor y_Row_put.desc).map (fun d => d.parameters.length) = some 2 := by decide +kernel
theorem d_Row_put_0 : decode b_Row_put 0 = .ok (.iload_n 1, 1) := by decide +kernel
theorem d_Row_put_1 : decode b_Row_put 1 = .ok (.ifCond .lt 19, 3) := by decide +kernel
theorem d_Row_put_4 : decode b_Row_put 4 = .ok (.iload_n 1, 1) := by decide +kernel
theorem d_Row_put_5 : decode b_Row_put 5 = .ok (.aload_n 0, 1) := by decide +kernel
theorem d_Row_put_6 : decode b_Row_put 6 = .ok (.getfield 9, 3) := by decide +kernel
theorem d_Row_put_9 : decode b_Row_put 9 = .ok (.arraylength, 1) := by decide +kernel
theorem d_Row_put_10 : decode b_Row_put 10 = .ok (.if_icmp .ge 10, 3) := by decide +kernel
theorem d_Row_put_13 : decode b_Row_put 13 = .ok (.aload_n 0, 1) := by decide +kernel
theorem d_Row_put_14 : decode b_Row_put 14 = .ok (.getfield 9, 3) := by decide +kernel
theorem d_Row_put_17 : decode b_Row_put 17 = .ok (.iload_n 1, 1) := by decide +kernel
theorem d_Row_put_18 : decode b_Row_put 18 = .ok (.iload_n 2, 1) := by decide +kernel
theorem d_Row_put_19 : decode b_Row_put 19 = .ok (.iastore, 1) := by decide +kernel
theorem d_Row_put_20 : decode b_Row_put 20 = .ok (.return_, 1) := by decide +kernel
noncomputable def f_Row_put (z : Nat → Nat) (σ : Mm) (o : Nat) (p1 : Int32) (p2 : Int32) : Option (Mm) :=
  if p1 < 0 then (
    some σ
  ) else (
    if (nI (z (o + 1))) ≤ p1 then (
      some σ
    ) else (
      (mm_stI σ (o + 1) (z (o + 1)) p1 p2).bind fun m19 =>
      some m19
    )
  )
set_option maxHeartbeats 4000000 in
set_option maxRecDepth 100000 in
theorem c_Row_put (l : Launch) {L : Ly} (hg : gd_ok L) {σ : Mm} {o : Nat} {p1 : Int32} {p2 : Int32} (k_o_0 : ly_k L o = 0) {res : Mm} (hf0 : f_Row_put (ly_z L) σ o p1 p2 = some res) : CtV l y_Row_put b_Row_put 3 (none) rm_Row_put L [.ref (ly_a L o), .int p1, .int p2] σ res := by
  refine ct_v hg (by decide) (Nat.le_of_ble_eq_true rfl) ?_
  intro E A Q hE C hN
  subst hE
  have k_o_1 : ly_k L (o + 1) = 20 := gd_Row_cells hg k_o_0
  unfold f_Row_put at hf0
  show GW E L A 3 0 0 Q σ 0 [(0, .ref (ly_a L o)), (1, .int p1), (2, .int p2)] []
  refine gw_iload_n C 1 d_Row_put_0 rfl rfl ?_
  refine gw_if_lt C 20 d_Row_put_1 (by decide) (fun hc => ?_) (fun hc => ?_)
  · replace hf0 := mx_t hc hf0
    exact en_v hN hf0 d_Row_put_20
  · replace hf0 := mx_f hc hf0
    refine gw_iload_n C 1 d_Row_put_4 rfl rfl ?_
    refine gw_aload_n C 0 d_Row_put_5 rfl rfl ?_
    refine gw_getA C 0 d_Row_put_6 k_o_0 (by decide) i_Row rfl rfl (by decide) qw_50 rfl rfl (o + 1) rfl ?_
    refine gw_alen20 C d_Row_put_9 k_o_1 ?_
    refine gw_icmp_ge C 20 d_Row_put_10 (by decide) (fun hc => ?_) (fun hc => ?_)
    · replace hf0 := mx_t hc hf0
      exact en_v hN hf0 d_Row_put_20
    · replace hf0 := mx_f hc hf0
      refine gw_aload_n C 0 d_Row_put_13 rfl rfl ?_
      refine gw_getA C 0 d_Row_put_14 k_o_0 (by decide) i_Row rfl rfl (by decide) qw_50 rfl rfl (o + 1) rfl ?_
      refine gw_iload_n C 1 d_Row_put_17 rfl rfl ?_
      refine gw_iload_n C 2 d_Row_put_18 rfl rfl ?_
      obtain ⟨m19, hm19, hf0⟩ := mx_bd hf0
      obtain ⟨gm19, em19⟩ := mx_stI hm19
      refine gw_iast C d_Row_put_19 k_o_1 gm19 em19 ?_
      exact en_v hN hf0 d_Row_put_20

/-! NameHat.feedNumber(I)V -/
abbrev b_Hat_feedNumber : ByteArray := prog_1_method_3_code
def y_Hat_feedNumber : MethodName := ⟨"NameHat", "feedNumber", "(I)V"⟩
abbrev rm_Hat_feedNumber : Room := { frames := 1, cells := 0, slots := 0, locals := 22 }
theorem hd_Hat_feedNumber : y_Hat_feedNumber.cls ≠ "java/lang/invoke/MethodHandle" ∧ y_Hat_feedNumber.cls ≠ "java/lang/invoke/VarHandle" ∧ (parseMethodDescriptor y_Hat_feedNumber.desc).map (fun d => d.parameters.length) = some 1 := by decide +kernel
theorem d_Hat_feedNumber_0 : decode b_Hat_feedNumber 0 = .ok (.bipush 24, 2) := by decide +kernel
theorem d_Hat_feedNumber_2 : decode b_Hat_feedNumber 2 = .ok (.istore_n 2, 1) := by decide +kernel
theorem d_Hat_feedNumber_3 : decode b_Hat_feedNumber 3 = .ok (.iload_n 2, 1) := by decide +kernel
theorem d_Hat_feedNumber_4 : decode b_Hat_feedNumber 4 = .ok (.ifCond .lt 37, 3) := by decide +kernel
theorem d_Hat_feedNumber_7 : decode b_Hat_feedNumber 7 = .ok (.aload_n 0, 1) := by decide +kernel
theorem d_Hat_feedNumber_8 : decode b_Hat_feedNumber 8 = .ok (.getfield 26, 3) := by decide +kernel
theorem d_Hat_feedNumber_11 : decode b_Hat_feedNumber 11 = .ok (.aload_n 0, 1) := by decide +kernel
theorem d_Hat_feedNumber_12 : decode b_Hat_feedNumber 12 = .ok (.getfield 77, 3) := by decide +kernel
theorem d_Hat_feedNumber_15 : decode b_Hat_feedNumber 15 = .ok (.iload_n 1, 1) := by decide +kernel
theorem d_Hat_feedNumber_16 : decode b_Hat_feedNumber 16 = .ok (.iload_n 2, 1) := by decide +kernel
theorem d_Hat_feedNumber_17 : decode b_Hat_feedNumber 17 = .ok (.iushr, 1) := by decide +kernel
theorem d_Hat_feedNumber_18 : decode b_Hat_feedNumber 18 = .ok (.sipush 255, 3) := by decide +kernel
theorem d_Hat_feedNumber_21 : decode b_Hat_feedNumber 21 = .ok (.iand, 1) := by decide +kernel
theorem d_Hat_feedNumber_22 : decode b_Hat_feedNumber 22 = .ok (.invokevirtual 84, 3) := by decide +kernel
theorem d_Hat_feedNumber_25 : decode b_Hat_feedNumber 25 = .ok (.aload_n 0, 1) := by decide +kernel
theorem d_Hat_feedNumber_26 : decode b_Hat_feedNumber 26 = .ok (.dup, 1) := by decide +kernel
theorem d_Hat_feedNumber_27 : decode b_Hat_feedNumber 27 = .ok (.getfield 77, 3) := by decide +kernel
theorem d_Hat_feedNumber_30 : decode b_Hat_feedNumber 30 = .ok (.iconst 1, 1) := by decide +kernel
theorem d_Hat_feedNumber_31 : decode b_Hat_feedNumber 31 = .ok (.iadd, 1) := by decide +kernel
theorem d_Hat_feedNumber_32 : decode b_Hat_feedNumber 32 = .ok (.putfield 77, 3) := by decide +kernel
theorem d_Hat_feedNumber_35 : decode b_Hat_feedNumber 35 = .ok (.iinc 2 (-8), 3) := by decide +kernel
theorem d_Hat_feedNumber_38 : decode b_Hat_feedNumber 38 = .ok (.goto (-35), 3) := by decide +kernel
theorem d_Hat_feedNumber_41 : decode b_Hat_feedNumber 41 = .ok (.return_, 1) := by decide +kernel
noncomputable def f_Hat_feedNumber_L3 (z : Nat → Nat) (o : Nat) (v1 : Int32) (s3 : Int32 × Mm) : Option ((Int32 × Mm) ⊕ (Mm)) :=
  if s3.1 < 0 then (
    some (.inr s3.2)
  ) else (
    (f_Row_put z s3.2 (o + 3) (s3.2.1 o 1) (((Int32.toUInt32 v1 >>> (Int32.toUInt32 s3.1 &&& Int32.toUInt32 31)).toInt32) &&& (255 : Int32))).bind fun q22 =>
    mm_lt (kI q22 o 1 ((q22.1 o 1) + (1 : Int32))) fun m32 =>
    mm_lt (s3.1 + ((-8) : Int32)) fun x35 =>
    some (.inl (x35, m32))
  )
noncomputable def f_Hat_feedNumber (z : Nat → Nat) (σ : Mm) (o : Nat) (p1 : Int32) : Option (Mm) :=
  (mm_lp (f_Hat_feedNumber_L3 z o p1) ((24 : Int32), σ)).bind (fun q3 =>
    some q3)
set_option maxHeartbeats 4000000 in
set_option maxRecDepth 100000 in
theorem c_Hat_feedNumber (l : Launch) {L : Ly} (hg : gd_ok L) {σ : Mm} {o : Nat} {p1 : Int32} (k_o_0 : ly_k L o = 10) {res : Mm} (hf0 : f_Hat_feedNumber (ly_z L) σ o p1 = some res) : CtV l y_Hat_feedNumber b_Hat_feedNumber 3 (none) rm_Hat_feedNumber L [.ref (ly_a L o), .int p1] σ res := by
  refine ct_v hg (by decide) (Nat.le_of_ble_eq_true rfl) ?_
  intro E A Q hE C hN
  subst hE
  have k_o_3 : ly_k L (o + 3) = 0 := gd_Hat_tape hg k_o_0
  unfold f_Hat_feedNumber at hf0
  show GW E L A 3 0 0 Q σ 0 [(0, .ref (ly_a L o)), (1, .int p1)] []
  refine gw_bipush C (24 : Int32) d_Hat_feedNumber_0 (by decide) ?_
  refine gw_istore_n C [(2, .int (24 : Int32)), (0, .ref (ly_a L o)), (1, .int p1)] d_Hat_feedNumber_2 rfl (by decide) rfl ?_
  obtain ⟨q3, hq3, hf0⟩ := mx_bd hf0
  have hk3 : ∀ x9, q3 = x9 → GW E L A 3 0 0 Q x9 41 [] [] := by
    intro x9 hx9
    subst hx9
    exact en_v hN hf0 d_Hat_feedNumber_41
  refine gw_sub [1, 2, 0] (lv' := [(0, .ref (ly_a L o)), (1, .int p1), (2, .int (24 : Int32))]) rfl ?_
  refine mm_rule hq3 (P := fun (s3 : Int32 × Mm) => GW E L A 3 0 0 Q s3.2 3 [(0, .ref (ly_a L o)), (1, .int p1), (2, .int s3.1)] []) ?_
  intro s3 ih3 hx3 ⟨w3, hb3⟩
  have hf1 := hb3
  unfold f_Hat_feedNumber_L3 at hf1
  refine gw_iload_n C 2 d_Hat_feedNumber_3 rfl rfl ?_
  refine gw_if_lt C 41 d_Hat_feedNumber_4 (by decide) (fun hc => ?_) (fun hc => ?_)
  · replace hf1 := mx_t hc hf1
    exact gw_go [] (hk3 s3.2 (hx3 _ (hb3.trans hf1.symm)).symm) rfl
  · replace hf1 := mx_f hc hf1
    refine gw_aload_n C 0 d_Hat_feedNumber_7 rfl rfl ?_
    refine gw_getA C 0 d_Hat_feedNumber_8 k_o_0 (by decide) i_Hat rfl rfl (by decide) qw_403 rfl rfl (o + 3) rfl ?_
    refine gw_aload_n C 0 d_Hat_feedNumber_11 rfl rfl ?_
    refine gw_getI C 1 d_Hat_feedNumber_12 k_o_0 (by decide) i_Hat rfl rfl (by decide) qw_404 rfl rfl ?_
    refine gw_iload_n C 1 d_Hat_feedNumber_15 rfl rfl ?_
    refine gw_iload_n C 2 d_Hat_feedNumber_16 rfl rfl ?_
    refine gw_iushr C d_Hat_feedNumber_17 ?_
    refine gw_sipush C (255 : Int32) d_Hat_feedNumber_18 (by decide) ?_
    refine gw_iand C d_Hat_feedNumber_21 ?_
    obtain ⟨q22, hq22, hf1⟩ := mx_bd hf1
    refine gw_callV C (c_Row_put _ hg k_o_3 hq22) d_Hat_feedNumber_22 2 qw_460 qw_461 qw_462 qw_4 qw_463 k_o_3 (by decide) rfl hd_Row_put rfl rfl (Nat.le_of_ble_eq_true rfl) ⟨rfl, rfl, Nat.le_of_ble_eq_true rfl, Nat.le_of_ble_eq_true rfl⟩ ⟨Nat.zero_le _, Nat.zero_le _⟩ ?_
    refine gw_aload_n C 0 d_Hat_feedNumber_25 rfl rfl ?_
    refine gw_dup C d_Hat_feedNumber_26 rfl ?_
    refine gw_getI C 1 d_Hat_feedNumber_27 k_o_0 (by decide) i_Hat rfl rfl (by decide) qw_404 rfl rfl ?_
    refine gw_iconst C (1 : Int32) d_Hat_feedNumber_30 (by decide) ?_
    refine gw_iadd C d_Hat_feedNumber_31 ?_
    obtain ⟨m32, em32, hf1⟩ := mx_lt hf1
    refine gw_putI t_Hat C 1 d_Hat_feedNumber_32 k_o_0 (by decide) i_Hat rfl rfl (by decide) qw_404 rfl rfl t_Hat_ok n_Hat rfl (t_Hat_ok 1 (by decide)) rfl rfl em32 ?_
    obtain ⟨x35, ex35, hf1⟩ := mx_lt hf1
    refine gw_iinc C 2 [(2, .int x35), (0, .ref (ly_a L o)), (1, .int p1)] d_Hat_feedNumber_35 rfl (by rw [ex35]; rfl) (by decide) rfl ?_
    refine gw_goto C 3 d_Hat_feedNumber_38 (by decide) ?_
    exact gw_go [1, 2, 0] (ih3 (x35, m32) (hb3.trans hf1.symm)) rfl

/-! NameHat.feed(IIIII)I -/
abbrev b_Hat_feed : ByteArray := prog_1_method_2_code
def y_Hat_feed : MethodName := ⟨"NameHat", "feed", "(IIIII)I"⟩
abbrev rm_Hat_feed : Room := { frames := 2, cells := 0, slots := 0, locals := 44 }
theorem hd_Hat_feed : y_Hat_feed.cls ≠ "java/lang/invoke/MethodHandle" ∧ y_Hat_feed.cls ≠ "java/lang/invoke/VarHandle" ∧ (parseMethodDescriptor y_Hat_feed.desc).map (fun d => d.parameters.length) = some 5 := by decide +kernel
theorem d_Hat_feed_0 : decode b_Hat_feed 0 = .ok (.aload_n 0, 1) := by decide +kernel
theorem d_Hat_feed_1 : decode b_Hat_feed 1 = .ok (.getfield 77, 3) := by decide +kernel
theorem d_Hat_feed_4 : decode b_Hat_feed 4 = .ok (.bipush 20, 2) := by decide +kernel
theorem d_Hat_feed_6 : decode b_Hat_feed 6 = .ok (.iadd, 1) := by decide +kernel
theorem d_Hat_feed_7 : decode b_Hat_feed 7 = .ok (.sipush 940, 3) := by decide +kernel
theorem d_Hat_feed_10 : decode b_Hat_feed 10 = .ok (.if_icmp .le 5, 3) := by decide +kernel
theorem d_Hat_feed_13 : decode b_Hat_feed 13 = .ok (.iconst (-1), 1) := by decide +kernel
theorem d_Hat_feed_14 : decode b_Hat_feed 14 = .ok (.ireturn, 1) := by decide +kernel
theorem d_Hat_feed_15 : decode b_Hat_feed 15 = .ok (.aload_n 0, 1) := by decide +kernel
theorem d_Hat_feed_16 : decode b_Hat_feed 16 = .ok (.iload_n 1, 1) := by decide +kernel
theorem d_Hat_feed_17 : decode b_Hat_feed 17 = .ok (.invokevirtual 81, 3) := by decide +kernel
theorem d_Hat_feed_20 : decode b_Hat_feed 20 = .ok (.aload_n 0, 1) := by decide +kernel
theorem d_Hat_feed_21 : decode b_Hat_feed 21 = .ok (.iload_n 2, 1) := by decide +kernel
theorem d_Hat_feed_22 : decode b_Hat_feed 22 = .ok (.invokevirtual 81, 3) := by decide +kernel
theorem d_Hat_feed_25 : decode b_Hat_feed 25 = .ok (.aload_n 0, 1) := by decide +kernel
theorem d_Hat_feed_26 : decode b_Hat_feed 26 = .ok (.iload_n 3, 1) := by decide +kernel
theorem d_Hat_feed_27 : decode b_Hat_feed 27 = .ok (.invokevirtual 81, 3) := by decide +kernel
theorem d_Hat_feed_30 : decode b_Hat_feed 30 = .ok (.aload_n 0, 1) := by decide +kernel
theorem d_Hat_feed_31 : decode b_Hat_feed 31 = .ok (.iload 4, 2) := by decide +kernel
theorem d_Hat_feed_33 : decode b_Hat_feed 33 = .ok (.invokevirtual 81, 3) := by decide +kernel
theorem d_Hat_feed_36 : decode b_Hat_feed 36 = .ok (.aload_n 0, 1) := by decide +kernel
theorem d_Hat_feed_37 : decode b_Hat_feed 37 = .ok (.iload 5, 2) := by decide +kernel
theorem d_Hat_feed_39 : decode b_Hat_feed 39 = .ok (.invokevirtual 81, 3) := by decide +kernel
theorem d_Hat_feed_42 : decode b_Hat_feed 42 = .ok (.aload_n 0, 1) := by decide +kernel
theorem d_Hat_feed_43 : decode b_Hat_feed 43 = .ok (.getfield 77, 3) := by decide +kernel
theorem d_Hat_feed_46 : decode b_Hat_feed 46 = .ok (.ireturn, 1) := by decide +kernel
noncomputable def f_Hat_feed (z : Nat → Nat) (σ : Mm) (o : Nat) (p1 : Int32) (p2 : Int32) (p3 : Int32) (p4 : Int32) (p5 : Int32) : Option (Int32 × Mm) :=
  if ((σ.1 o 1) + (20 : Int32)) ≤ (940 : Int32) then (
    (f_Hat_feedNumber z σ o p1).bind fun q17 =>
    (f_Hat_feedNumber z q17 o p2).bind fun q22 =>
    (f_Hat_feedNumber z q22 o p3).bind fun q27 =>
    (f_Hat_feedNumber z q27 o p4).bind fun q33 =>
    (f_Hat_feedNumber z q33 o p5).bind fun q39 =>
    some ((q39.1 o 1), q39)
  ) else (
    some (((-1) : Int32), σ)
  )
set_option maxHeartbeats 4000000 in
set_option maxRecDepth 100000 in
theorem c_Hat_feed (l : Launch) {L : Ly} (hg : gd_ok L) {σ : Mm} {o : Nat} {p1 : Int32} {p2 : Int32} {p3 : Int32} {p4 : Int32} {p5 : Int32} (k_o_0 : ly_k L o = 10) {res : Int32 × Mm} (hf0 : f_Hat_feed (ly_z L) σ o p1 p2 p3 p4 p5 = some res) : CtI l y_Hat_feed b_Hat_feed 6 (some .int) rm_Hat_feed L [.ref (ly_a L o), .int p1, .int p2, .int p3, .int p4, .int p5] σ res.1 res.2 := by
  refine ct_i hg (by decide) (Nat.le_of_ble_eq_true rfl) ?_
  intro E A Q hE C hN
  subst hE
  unfold f_Hat_feed at hf0
  show GW E L A 6 0 0 Q σ 0 [(0, .ref (ly_a L o)), (1, .int p1), (2, .int p2), (3, .int p3), (4, .int p4), (5, .int p5)] []
  refine gw_aload_n C 0 d_Hat_feed_0 rfl rfl ?_
  refine gw_getI C 1 d_Hat_feed_1 k_o_0 (by decide) i_Hat rfl rfl (by decide) qw_404 rfl rfl ?_
  refine gw_bipush C (20 : Int32) d_Hat_feed_4 (by decide) ?_
  refine gw_iadd C d_Hat_feed_6 ?_
  refine gw_sipush C (940 : Int32) d_Hat_feed_7 (by decide) ?_
  refine gw_icmp_le C 15 d_Hat_feed_10 (by decide) (fun hc => ?_) (fun hc => ?_)
  · replace hf0 := mx_t hc hf0
    refine gw_aload_n C 0 d_Hat_feed_15 rfl rfl ?_
    refine gw_iload_n C 1 d_Hat_feed_16 rfl rfl ?_
    obtain ⟨q17, hq17, hf0⟩ := mx_bd hf0
    refine gw_callV C (c_Hat_feedNumber _ hg k_o_0 hq17) d_Hat_feed_17 1 qw_456 qw_458 qs_0 qw_1 qw_459 k_o_0 (by decide) rfl hd_Hat_feedNumber rfl rfl (Nat.le_of_ble_eq_true rfl) ⟨rfl, rfl, Nat.le_of_ble_eq_true rfl, Nat.le_of_ble_eq_true rfl⟩ ⟨Nat.zero_le _, Nat.zero_le _⟩ ?_
    refine gw_aload_n C 0 d_Hat_feed_20 rfl rfl ?_
    refine gw_iload_n C 2 d_Hat_feed_21 rfl rfl ?_
    obtain ⟨q22, hq22, hf0⟩ := mx_bd hf0
    refine gw_callV C (c_Hat_feedNumber _ hg k_o_0 hq22) d_Hat_feed_22 1 qw_456 qw_458 qs_0 qw_1 qw_459 k_o_0 (by decide) rfl hd_Hat_feedNumber rfl rfl (Nat.le_of_ble_eq_true rfl) ⟨rfl, rfl, Nat.le_of_ble_eq_true rfl, Nat.le_of_ble_eq_true rfl⟩ ⟨Nat.zero_le _, Nat.zero_le _⟩ ?_
    refine gw_aload_n C 0 d_Hat_feed_25 rfl rfl ?_
    refine gw_iload_n C 3 d_Hat_feed_26 rfl rfl ?_
    obtain ⟨q27, hq27, hf0⟩ := mx_bd hf0
    refine gw_callV C (c_Hat_feedNumber _ hg k_o_0 hq27) d_Hat_feed_27 1 qw_456 qw_458 qs_0 qw_1 qw_459 k_o_0 (by decide) rfl hd_Hat_feedNumber rfl rfl (Nat.le_of_ble_eq_true rfl) ⟨rfl, rfl, Nat.le_of_ble_eq_true rfl, Nat.le_of_ble_eq_true rfl⟩ ⟨Nat.zero_le _, Nat.zero_le _⟩ ?_
    refine gw_aload_n C 0 d_Hat_feed_30 rfl rfl ?_
    refine gw_iload C 4 d_Hat_feed_31 rfl ?_
    obtain ⟨q33, hq33, hf0⟩ := mx_bd hf0
    refine gw_callV C (c_Hat_feedNumber _ hg k_o_0 hq33) d_Hat_feed_33 1 qw_456 qw_458 qs_0 qw_1 qw_459 k_o_0 (by decide) rfl hd_Hat_feedNumber rfl rfl (Nat.le_of_ble_eq_true rfl) ⟨rfl, rfl, Nat.le_of_ble_eq_true rfl, Nat.le_of_ble_eq_true rfl⟩ ⟨Nat.zero_le _, Nat.zero_le _⟩ ?_
    refine gw_aload_n C 0 d_Hat_feed_36 rfl rfl ?_
    refine gw_iload C 5 d_Hat_feed_37 rfl ?_
    obtain ⟨q39, hq39, hf0⟩ := mx_bd hf0
    refine gw_callV C (c_Hat_feedNumber _ hg k_o_0 hq39) d_Hat_feed_39 1 qw_456 qw_458 qs_0 qw_1 qw_459 k_o_0 (by decide) rfl hd_Hat_feedNumber rfl rfl (Nat.le_of_ble_eq_true rfl) ⟨rfl, rfl, Nat.le_of_ble_eq_true rfl, Nat.le_of_ble_eq_true rfl⟩ ⟨Nat.zero_le _, Nat.zero_le _⟩ ?_
    refine gw_aload_n C 0 d_Hat_feed_42 rfl rfl ?_
    refine gw_getI C 1 d_Hat_feed_43 k_o_0 (by decide) i_Hat rfl rfl (by decide) qw_404 rfl rfl ?_
    exact en_i hN hf0 d_Hat_feed_46
  · replace hf0 := mx_f hc hf0
    refine gw_iconst C ((-1) : Int32) d_Hat_feed_13 (by decide) ?_
    exact en_i hN hf0 d_Hat_feed_14

/-! NameHat.end(I)Z -/
abbrev b_Hat_end : ByteArray := prog_1_method_4_code
def y_Hat_end : MethodName := ⟨"NameHat", "end", "(I)Z"⟩
abbrev rm_Hat_end : Room := { frames := 0, cells := 0, slots := 0, locals := 0 }
theorem hd_Hat_end : y_Hat_end.cls ≠ "java/lang/invoke/MethodHandle" ∧ y_Hat_end.cls ≠ "java/lang/invoke/VarHandle" ∧ (parseMethodDescriptor y_Hat_end.desc).map (fun d => d.parameters.length) = some 1 := by decide +kernel
theorem d_Hat_end_0 : decode b_Hat_end 0 = .ok (.iload_n 1, 1) := by decide +kernel
theorem d_Hat_end_1 : decode b_Hat_end 1 = .ok (.ifCond .lt 11, 3) := by decide +kernel
theorem d_Hat_end_4 : decode b_Hat_end 4 = .ok (.iload_n 1, 1) := by decide +kernel
theorem d_Hat_end_5 : decode b_Hat_end 5 = .ok (.aload_n 0, 1) := by decide +kernel
theorem d_Hat_end_6 : decode b_Hat_end 6 = .ok (.getfield 77, 3) := by decide +kernel
theorem d_Hat_end_9 : decode b_Hat_end 9 = .ok (.if_icmp .le 5, 3) := by decide +kernel
theorem d_Hat_end_12 : decode b_Hat_end 12 = .ok (.iconst 0, 1) := by decide +kernel
theorem d_Hat_end_13 : decode b_Hat_end 13 = .ok (.ireturn, 1) := by decide +kernel
theorem d_Hat_end_14 : decode b_Hat_end 14 = .ok (.aload_n 0, 1) := by decide +kernel
theorem d_Hat_end_15 : decode b_Hat_end 15 = .ok (.iload_n 1, 1) := by decide +kernel
theorem d_Hat_end_16 : decode b_Hat_end 16 = .ok (.putfield 77, 3) := by decide +kernel
theorem d_Hat_end_19 : decode b_Hat_end 19 = .ok (.iconst 1, 1) := by decide +kernel
theorem d_Hat_end_20 : decode b_Hat_end 20 = .ok (.ireturn, 1) := by decide +kernel
noncomputable def f_Hat_end (z : Nat → Nat) (σ : Mm) (o : Nat) (p1 : Int32) : Option (Int32 × Mm) :=
  if p1 < 0 then (
    some ((0 : Int32), σ)
  ) else (
    if p1 ≤ (σ.1 o 1) then (
      mm_lt (kI σ o 1 p1) fun m16 =>
      some ((1 : Int32), m16)
    ) else (
      some ((0 : Int32), σ)
    )
  )
set_option maxHeartbeats 4000000 in
set_option maxRecDepth 100000 in
theorem c_Hat_end (l : Launch) {L : Ly} (hg : gd_ok L) {σ : Mm} {o : Nat} {p1 : Int32} (k_o_0 : ly_k L o = 10) {res : Int32 × Mm} (hf0 : f_Hat_end (ly_z L) σ o p1 = some res) : CtI l y_Hat_end b_Hat_end 2 (some .boolean) rm_Hat_end L [.ref (ly_a L o), .int p1] σ res.1 res.2 := by
  refine ct_z hg (by decide) (Nat.le_of_ble_eq_true rfl) ?_
  intro E A Q hE C hN
  subst hE
  unfold f_Hat_end at hf0
  show GW E L A 2 0 0 Q σ 0 [(0, .ref (ly_a L o)), (1, .int p1)] []
  refine gw_iload_n C 1 d_Hat_end_0 rfl rfl ?_
  refine gw_if_lt C 12 d_Hat_end_1 (by decide) (fun hc => ?_) (fun hc => ?_)
  · replace hf0 := mx_t hc hf0
    refine gw_iconst C (0 : Int32) d_Hat_end_12 (by decide) ?_
    exact en_z hN (Or.inl rfl) hf0 d_Hat_end_13
  · replace hf0 := mx_f hc hf0
    refine gw_iload_n C 1 d_Hat_end_4 rfl rfl ?_
    refine gw_aload_n C 0 d_Hat_end_5 rfl rfl ?_
    refine gw_getI C 1 d_Hat_end_6 k_o_0 (by decide) i_Hat rfl rfl (by decide) qw_404 rfl rfl ?_
    refine gw_icmp_le C 14 d_Hat_end_9 (by decide) (fun hc => ?_) (fun hc => ?_)
    · replace hf0 := mx_t hc hf0
      refine gw_aload_n C 0 d_Hat_end_14 rfl rfl ?_
      refine gw_iload_n C 1 d_Hat_end_15 rfl rfl ?_
      obtain ⟨m16, em16, hf0⟩ := mx_lt hf0
      refine gw_putI t_Hat C 1 d_Hat_end_16 k_o_0 (by decide) i_Hat rfl rfl (by decide) qw_404 rfl rfl t_Hat_ok n_Hat rfl (t_Hat_ok 1 (by decide)) rfl rfl em16 ?_
      refine gw_iconst C (1 : Int32) d_Hat_end_19 (by decide) ?_
      exact en_z hN (Or.inr rfl) hf0 d_Hat_end_20
    · replace hf0 := mx_f hc hf0
      refine gw_iconst C (0 : Int32) d_Hat_end_12 (by decide) ?_
      exact en_z hN (Or.inl rfl) hf0 d_Hat_end_13

/-! NameHat.Tokens.start(II)V -/
abbrev b_Tokens_start : ByteArray := prog_11_method_2_code
def y_Tokens_start : MethodName := ⟨"NameHat$Tokens", "start", "(II)V"⟩
abbrev rm_Tokens_start : Room := { frames := 0, cells := 0, slots := 0, locals := 0 }
theorem hd_Tokens_start : y_Tokens_start.cls ≠ "java/lang/invoke/MethodHandle" ∧ y_Tokens_start.cls ≠ "java/lang/invoke/VarHandle" ∧ (parseMethodDescriptor y_Tokens_start.desc).map (fun d => d.parameters.length) = some 2 := by decide +kernel
theorem d_Tokens_start_0 : decode b_Tokens_start 0 = .ok (.aload_n 0, 1) := by decide +kernel
theorem d_Tokens_start_1 : decode b_Tokens_start 1 = .ok (.iload_n 1, 1) := by decide +kernel
theorem d_Tokens_start_2 : decode b_Tokens_start 2 = .ok (.putfield 20, 3) := by decide +kernel
theorem d_Tokens_start_5 : decode b_Tokens_start 5 = .ok (.aload_n 0, 1) := by decide +kernel
theorem d_Tokens_start_6 : decode b_Tokens_start 6 = .ok (.iload_n 2, 1) := by decide +kernel
theorem d_Tokens_start_7 : decode b_Tokens_start 7 = .ok (.putfield 24, 3) := by decide +kernel
theorem d_Tokens_start_10 : decode b_Tokens_start 10 = .ok (.aload_n 0, 1) := by decide +kernel
theorem d_Tokens_start_11 : decode b_Tokens_start 11 = .ok (.iconst 0, 1) := by decide +kernel
theorem d_Tokens_start_12 : decode b_Tokens_start 12 = .ok (.putfield 27, 3) := by decide +kernel
theorem d_Tokens_start_15 : decode b_Tokens_start 15 = .ok (.return_, 1) := by decide +kernel
noncomputable def f_Tokens_start (z : Nat → Nat) (σ : Mm) (o : Nat) (p1 : Int32) (p2 : Int32) : Option (Mm) :=
  mm_lt (kI σ o 1 p1) fun m2 =>
  mm_lt (kI m2 o 2 p2) fun m7 =>
  mm_lt (kI m7 o 3 (0 : Int32)) fun m12 =>
  some m12
set_option maxHeartbeats 4000000 in
set_option maxRecDepth 100000 in
theorem c_Tokens_start (l : Launch) {L : Ly} (hg : gd_ok L) {σ : Mm} {o : Nat} {p1 : Int32} {p2 : Int32} (k_o_0 : ly_k L o = 8) {res : Mm} (hf0 : f_Tokens_start (ly_z L) σ o p1 p2 = some res) : CtV l y_Tokens_start b_Tokens_start 3 (none) rm_Tokens_start L [.ref (ly_a L o), .int p1, .int p2] σ res := by
  refine ct_v hg (by decide) (Nat.le_of_ble_eq_true rfl) ?_
  intro E A Q hE C hN
  subst hE
  unfold f_Tokens_start at hf0
  show GW E L A 3 0 0 Q σ 0 [(0, .ref (ly_a L o)), (1, .int p1), (2, .int p2)] []
  refine gw_aload_n C 0 d_Tokens_start_0 rfl rfl ?_
  refine gw_iload_n C 1 d_Tokens_start_1 rfl rfl ?_
  obtain ⟨m2, em2, hf0⟩ := mx_lt hf0
  refine gw_putI t_Tokens C 1 d_Tokens_start_2 k_o_0 (by decide) i_Tokens rfl rfl (by decide) qw_57 rfl rfl t_Tokens_ok n_Tokens rfl (t_Tokens_ok 1 (by decide)) rfl rfl em2 ?_
  refine gw_aload_n C 0 d_Tokens_start_5 rfl rfl ?_
  refine gw_iload_n C 2 d_Tokens_start_6 rfl rfl ?_
  obtain ⟨m7, em7, hf0⟩ := mx_lt hf0
  refine gw_putI t_Tokens C 2 d_Tokens_start_7 k_o_0 (by decide) i_Tokens rfl rfl (by decide) qw_58 rfl rfl t_Tokens_ok n_Tokens rfl (t_Tokens_ok 2 (by decide)) rfl rfl em7 ?_
  refine gw_aload_n C 0 d_Tokens_start_10 rfl rfl ?_
  refine gw_iconst C (0 : Int32) d_Tokens_start_11 (by decide) ?_
  obtain ⟨m12, em12, hf0⟩ := mx_lt hf0
  refine gw_putI t_Tokens C 3 d_Tokens_start_12 k_o_0 (by decide) i_Tokens rfl rfl (by decide) qw_59 rfl rfl t_Tokens_ok n_Tokens rfl (t_Tokens_ok 3 (by decide)) rfl rfl em12 ?_
  exact en_v hN hf0 d_Tokens_start_15

/-! NameHat.Row.at(I)I -/
abbrev b_Row_at : ByteArray := prog_8_method_2_code
def y_Row_at : MethodName := ⟨"NameHat$Row", "at", "(I)I"⟩
abbrev rm_Row_at : Room := { frames := 0, cells := 0, slots := 0, locals := 0 }
theorem hd_Row_at : y_Row_at.cls ≠ "java/lang/invoke/MethodHandle" ∧ y_Row_at.cls ≠ "java/lang/invoke/VarHandle" ∧ (parseMethodDescriptor y_Row_at.desc).map (fun d => d.parameters.length) = some 1 := by decide +kernel
theorem d_Row_at_0 : decode b_Row_at 0 = .ok (.iload_n 1, 1) := by decide +kernel
theorem d_Row_at_1 : decode b_Row_at 1 = .ok (.ifCond .lt 21, 3) := by decide +kernel
theorem d_Row_at_4 : decode b_Row_at 4 = .ok (.iload_n 1, 1) := by decide +kernel
theorem d_Row_at_5 : decode b_Row_at 5 = .ok (.aload_n 0, 1) := by decide +kernel
theorem d_Row_at_6 : decode b_Row_at 6 = .ok (.getfield 9, 3) := by decide +kernel
theorem d_Row_at_9 : decode b_Row_at 9 = .ok (.arraylength, 1) := by decide +kernel
theorem d_Row_at_10 : decode b_Row_at 10 = .ok (.if_icmp .ge 12, 3) := by decide +kernel
theorem d_Row_at_13 : decode b_Row_at 13 = .ok (.aload_n 0, 1) := by decide +kernel
theorem d_Row_at_14 : decode b_Row_at 14 = .ok (.getfield 9, 3) := by decide +kernel
theorem d_Row_at_17 : decode b_Row_at 17 = .ok (.iload_n 1, 1) := by decide +kernel
theorem d_Row_at_18 : decode b_Row_at 18 = .ok (.iaload, 1) := by decide +kernel
theorem d_Row_at_19 : decode b_Row_at 19 = .ok (.goto 4, 3) := by decide +kernel
theorem d_Row_at_22 : decode b_Row_at 22 = .ok (.iconst (-1), 1) := by decide +kernel
theorem d_Row_at_23 : decode b_Row_at 23 = .ok (.ireturn, 1) := by decide +kernel
noncomputable def f_Row_at (z : Nat → Nat) (σ : Mm) (o : Nat) (p1 : Int32) : Option (Int32) :=
  if p1 < 0 then (
    some ((-1) : Int32)
  ) else (
    if (nI (z (o + 1))) ≤ p1 then (
      some ((-1) : Int32)
    ) else (
      (mm_ldI (σ.1 (o + 1)) (z (o + 1)) p1).bind fun x18 =>
      some x18
    )
  )
set_option maxHeartbeats 4000000 in
set_option maxRecDepth 100000 in
theorem c_Row_at (l : Launch) {L : Ly} (hg : gd_ok L) {σ : Mm} {o : Nat} {p1 : Int32} (k_o_0 : ly_k L o = 0) {res : Int32} (hf0 : f_Row_at (ly_z L) σ o p1 = some res) : CtI l y_Row_at b_Row_at 2 (some .int) rm_Row_at L [.ref (ly_a L o), .int p1] σ res σ := by
  refine ct_i hg (by decide) (Nat.le_of_ble_eq_true rfl) ?_
  intro E A Q hE C hN
  subst hE
  have k_o_1 : ly_k L (o + 1) = 20 := gd_Row_cells hg k_o_0
  unfold f_Row_at at hf0
  show GW E L A 2 0 0 Q σ 0 [(0, .ref (ly_a L o)), (1, .int p1)] []
  refine gw_iload_n C 1 d_Row_at_0 rfl rfl ?_
  refine gw_if_lt C 22 d_Row_at_1 (by decide) (fun hc => ?_) (fun hc => ?_)
  · replace hf0 := mx_t hc hf0
    refine gw_iconst C ((-1) : Int32) d_Row_at_22 (by decide) ?_
    exact en_ip hN hf0 d_Row_at_23
  · replace hf0 := mx_f hc hf0
    refine gw_iload_n C 1 d_Row_at_4 rfl rfl ?_
    refine gw_aload_n C 0 d_Row_at_5 rfl rfl ?_
    refine gw_getA C 0 d_Row_at_6 k_o_0 (by decide) i_Row rfl rfl (by decide) qw_50 rfl rfl (o + 1) rfl ?_
    refine gw_alen20 C d_Row_at_9 k_o_1 ?_
    refine gw_icmp_ge C 22 d_Row_at_10 (by decide) (fun hc => ?_) (fun hc => ?_)
    · replace hf0 := mx_t hc hf0
      refine gw_iconst C ((-1) : Int32) d_Row_at_22 (by decide) ?_
      exact en_ip hN hf0 d_Row_at_23
    · replace hf0 := mx_f hc hf0
      refine gw_aload_n C 0 d_Row_at_13 rfl rfl ?_
      refine gw_getA C 0 d_Row_at_14 k_o_0 (by decide) i_Row rfl rfl (by decide) qw_50 rfl rfl (o + 1) rfl ?_
      refine gw_iload_n C 1 d_Row_at_17 rfl rfl ?_
      obtain ⟨x18, hx18, hf0⟩ := mx_bd hf0
      obtain ⟨gx18, ex18⟩ := mx_ldI hx18
      refine gw_iald C d_Row_at_18 k_o_1 gx18 ex18 ?_
      refine gw_goto C 23 d_Row_at_19 (by decide) ?_
      exact en_ip hN hf0 d_Row_at_23

/-! NameHat.Tokens.isDigit(I)Z -/
abbrev b_Tokens_isDigit : ByteArray := prog_11_method_5_code
def y_Tokens_isDigit : MethodName := ⟨"NameHat$Tokens", "isDigit", "(I)Z"⟩
abbrev rm_Tokens_isDigit : Room := { frames := 0, cells := 0, slots := 0, locals := 0 }
theorem hd_Tokens_isDigit : y_Tokens_isDigit.cls ≠ "java/lang/invoke/MethodHandle" ∧ y_Tokens_isDigit.cls ≠ "java/lang/invoke/VarHandle" ∧ (parseMethodDescriptor y_Tokens_isDigit.desc).map (fun d => d.parameters.length) = some 1 := by decide +kernel
theorem d_Tokens_isDigit_0 : decode b_Tokens_isDigit 0 = .ok (.iload_n 0, 1) := by decide +kernel
theorem d_Tokens_isDigit_1 : decode b_Tokens_isDigit 1 = .ok (.bipush 48, 2) := by decide +kernel
theorem d_Tokens_isDigit_3 : decode b_Tokens_isDigit 3 = .ok (.if_icmp .lt 13, 3) := by decide +kernel
theorem d_Tokens_isDigit_6 : decode b_Tokens_isDigit 6 = .ok (.iload_n 0, 1) := by decide +kernel
theorem d_Tokens_isDigit_7 : decode b_Tokens_isDigit 7 = .ok (.bipush 57, 2) := by decide +kernel
theorem d_Tokens_isDigit_9 : decode b_Tokens_isDigit 9 = .ok (.if_icmp .gt 7, 3) := by decide +kernel
theorem d_Tokens_isDigit_12 : decode b_Tokens_isDigit 12 = .ok (.iconst 1, 1) := by decide +kernel
theorem d_Tokens_isDigit_13 : decode b_Tokens_isDigit 13 = .ok (.goto 4, 3) := by decide +kernel
theorem d_Tokens_isDigit_16 : decode b_Tokens_isDigit 16 = .ok (.iconst 0, 1) := by decide +kernel
theorem d_Tokens_isDigit_17 : decode b_Tokens_isDigit 17 = .ok (.ireturn, 1) := by decide +kernel
noncomputable def f_Tokens_isDigit (z : Nat → Nat) (σ : Mm) (p1 : Int32) : Option (Int32) :=
  if p1 < (48 : Int32) then (
    some (0 : Int32)
  ) else (
    if (57 : Int32) < p1 then (
      some (0 : Int32)
    ) else (
      some (1 : Int32)
    )
  )
set_option maxHeartbeats 4000000 in
set_option maxRecDepth 100000 in
theorem c_Tokens_isDigit (l : Launch) {L : Ly} (hg : gd_ok L) {σ : Mm} {p1 : Int32} {res : Int32} (hf0 : f_Tokens_isDigit (ly_z L) σ p1 = some res) : CtI l y_Tokens_isDigit b_Tokens_isDigit 1 (some .boolean) rm_Tokens_isDigit L [.int p1] σ res σ := by
  refine ct_z hg (by decide) (Nat.le_of_ble_eq_true rfl) ?_
  intro E A Q hE C hN
  subst hE
  unfold f_Tokens_isDigit at hf0
  show GW E L A 1 0 0 Q σ 0 [(0, .int p1)] []
  refine gw_iload_n C 0 d_Tokens_isDigit_0 rfl rfl ?_
  refine gw_bipush C (48 : Int32) d_Tokens_isDigit_1 (by decide) ?_
  refine gw_icmp_lt C 16 d_Tokens_isDigit_3 (by decide) (fun hc => ?_) (fun hc => ?_)
  · replace hf0 := mx_t hc hf0
    refine gw_iconst C (0 : Int32) d_Tokens_isDigit_16 (by decide) ?_
    exact en_zp hN (Or.inl rfl) hf0 d_Tokens_isDigit_17
  · replace hf0 := mx_f hc hf0
    refine gw_iload_n C 0 d_Tokens_isDigit_6 rfl rfl ?_
    refine gw_bipush C (57 : Int32) d_Tokens_isDigit_7 (by decide) ?_
    refine gw_icmp_gt C 16 d_Tokens_isDigit_9 (by decide) (fun hc => ?_) (fun hc => ?_)
    · replace hf0 := mx_t hc hf0
      refine gw_iconst C (0 : Int32) d_Tokens_isDigit_16 (by decide) ?_
      exact en_zp hN (Or.inl rfl) hf0 d_Tokens_isDigit_17
    · replace hf0 := mx_f hc hf0
      refine gw_iconst C (1 : Int32) d_Tokens_isDigit_12 (by decide) ?_
      refine gw_goto C 17 d_Tokens_isDigit_13 (by decide) ?_
      exact en_zp hN (Or.inr rfl) hf0 d_Tokens_isDigit_17

/-! NameHat.Tokens.isLetter(I)Z -/
abbrev b_Tokens_isLetter : ByteArray := prog_11_method_6_code
def y_Tokens_isLetter : MethodName := ⟨"NameHat$Tokens", "isLetter", "(I)Z"⟩
abbrev rm_Tokens_isLetter : Room := { frames := 0, cells := 0, slots := 0, locals := 0 }
theorem hd_Tokens_isLetter : y_Tokens_isLetter.cls ≠ "java/lang/invoke/MethodHandle" ∧ y_Tokens_isLetter.cls ≠ "java/lang/invoke/VarHandle" ∧ (parseMethodDescriptor y_Tokens_isLetter.desc).map (fun d => d.parameters.length) = some 1 := by decide +kernel
theorem d_Tokens_isLetter_0 : decode b_Tokens_isLetter 0 = .ok (.iload_n 0, 1) := by decide +kernel
theorem d_Tokens_isLetter_1 : decode b_Tokens_isLetter 1 = .ok (.bipush 97, 2) := by decide +kernel
theorem d_Tokens_isLetter_3 : decode b_Tokens_isLetter 3 = .ok (.if_icmp .lt 13, 3) := by decide +kernel
theorem d_Tokens_isLetter_6 : decode b_Tokens_isLetter 6 = .ok (.iload_n 0, 1) := by decide +kernel
theorem d_Tokens_isLetter_7 : decode b_Tokens_isLetter 7 = .ok (.bipush 122, 2) := by decide +kernel
theorem d_Tokens_isLetter_9 : decode b_Tokens_isLetter 9 = .ok (.if_icmp .gt 7, 3) := by decide +kernel
theorem d_Tokens_isLetter_12 : decode b_Tokens_isLetter 12 = .ok (.iconst 1, 1) := by decide +kernel
theorem d_Tokens_isLetter_13 : decode b_Tokens_isLetter 13 = .ok (.goto 4, 3) := by decide +kernel
theorem d_Tokens_isLetter_16 : decode b_Tokens_isLetter 16 = .ok (.iconst 0, 1) := by decide +kernel
theorem d_Tokens_isLetter_17 : decode b_Tokens_isLetter 17 = .ok (.ireturn, 1) := by decide +kernel
noncomputable def f_Tokens_isLetter (z : Nat → Nat) (σ : Mm) (p1 : Int32) : Option (Int32) :=
  if p1 < (97 : Int32) then (
    some (0 : Int32)
  ) else (
    if (122 : Int32) < p1 then (
      some (0 : Int32)
    ) else (
      some (1 : Int32)
    )
  )
set_option maxHeartbeats 4000000 in
set_option maxRecDepth 100000 in
theorem c_Tokens_isLetter (l : Launch) {L : Ly} (hg : gd_ok L) {σ : Mm} {p1 : Int32} {res : Int32} (hf0 : f_Tokens_isLetter (ly_z L) σ p1 = some res) : CtI l y_Tokens_isLetter b_Tokens_isLetter 1 (some .boolean) rm_Tokens_isLetter L [.int p1] σ res σ := by
  refine ct_z hg (by decide) (Nat.le_of_ble_eq_true rfl) ?_
  intro E A Q hE C hN
  subst hE
  unfold f_Tokens_isLetter at hf0
  show GW E L A 1 0 0 Q σ 0 [(0, .int p1)] []
  refine gw_iload_n C 0 d_Tokens_isLetter_0 rfl rfl ?_
  refine gw_bipush C (97 : Int32) d_Tokens_isLetter_1 (by decide) ?_
  refine gw_icmp_lt C 16 d_Tokens_isLetter_3 (by decide) (fun hc => ?_) (fun hc => ?_)
  · replace hf0 := mx_t hc hf0
    refine gw_iconst C (0 : Int32) d_Tokens_isLetter_16 (by decide) ?_
    exact en_zp hN (Or.inl rfl) hf0 d_Tokens_isLetter_17
  · replace hf0 := mx_f hc hf0
    refine gw_iload_n C 0 d_Tokens_isLetter_6 rfl rfl ?_
    refine gw_bipush C (122 : Int32) d_Tokens_isLetter_7 (by decide) ?_
    refine gw_icmp_gt C 16 d_Tokens_isLetter_9 (by decide) (fun hc => ?_) (fun hc => ?_)
    · replace hf0 := mx_t hc hf0
      refine gw_iconst C (0 : Int32) d_Tokens_isLetter_16 (by decide) ?_
      exact en_zp hN (Or.inl rfl) hf0 d_Tokens_isLetter_17
    · replace hf0 := mx_f hc hf0
      refine gw_iconst C (1 : Int32) d_Tokens_isLetter_12 (by decide) ?_
      refine gw_goto C 17 d_Tokens_isLetter_13 (by decide) ?_
      exact en_zp hN (Or.inr rfl) hf0 d_Tokens_isLetter_17

/-! NameHat.Names.isFull()Z -/
abbrev b_Names_isFull : ByteArray := prog_5_method_3_code
def y_Names_isFull : MethodName := ⟨"NameHat$Names", "isFull", "()Z"⟩
abbrev rm_Names_isFull : Room := { frames := 0, cells := 0, slots := 0, locals := 0 }
theorem hd_Names_isFull : y_Names_isFull.cls ≠ "java/lang/invoke/MethodHandle" ∧ y_Names_isFull.cls ≠ "java/lang/invoke/VarHandle" ∧ (parseMethodDescriptor y_Names_isFull.desc).map (fun d => d.parameters.length) = some 0 := by decide +kernel
theorem d_Names_isFull_0 : decode b_Names_isFull 0 = .ok (.aload_n 0, 1) := by decide +kernel
theorem d_Names_isFull_1 : decode b_Names_isFull 1 = .ok (.getfield 15, 3) := by decide +kernel
theorem d_Names_isFull_4 : decode b_Names_isFull 4 = .ok (.aload_n 0, 1) := by decide +kernel
theorem d_Names_isFull_5 : decode b_Names_isFull 5 = .ok (.getfield 9, 3) := by decide +kernel
theorem d_Names_isFull_8 : decode b_Names_isFull 8 = .ok (.arraylength, 1) := by decide +kernel
theorem d_Names_isFull_9 : decode b_Names_isFull 9 = .ok (.if_icmp .lt 7, 3) := by decide +kernel
theorem d_Names_isFull_12 : decode b_Names_isFull 12 = .ok (.iconst 1, 1) := by decide +kernel
theorem d_Names_isFull_13 : decode b_Names_isFull 13 = .ok (.goto 4, 3) := by decide +kernel
theorem d_Names_isFull_16 : decode b_Names_isFull 16 = .ok (.iconst 0, 1) := by decide +kernel
theorem d_Names_isFull_17 : decode b_Names_isFull 17 = .ok (.ireturn, 1) := by decide +kernel
noncomputable def f_Names_isFull (z : Nat → Nat) (σ : Mm) (o : Nat) : Option (Int32) :=
  if (σ.1 o 1) < (nI (z (o + 1))) then (
    some (0 : Int32)
  ) else (
    some (1 : Int32)
  )
set_option maxHeartbeats 4000000 in
set_option maxRecDepth 100000 in
theorem c_Names_isFull (l : Launch) {L : Ly} (hg : gd_ok L) {σ : Mm} {o : Nat} (k_o_0 : ly_k L o = 1) {res : Int32} (hf0 : f_Names_isFull (ly_z L) σ o = some res) : CtI l y_Names_isFull b_Names_isFull 1 (some .boolean) rm_Names_isFull L [.ref (ly_a L o)] σ res σ := by
  refine ct_z hg (by decide) (Nat.le_of_ble_eq_true rfl) ?_
  intro E A Q hE C hN
  subst hE
  have k_o_1 : ly_k L (o + 1) = 21 := gd_Names_letters hg k_o_0
  unfold f_Names_isFull at hf0
  show GW E L A 1 0 0 Q σ 0 [(0, .ref (ly_a L o))] []
  refine gw_aload_n C 0 d_Names_isFull_0 rfl rfl ?_
  refine gw_getI C 1 d_Names_isFull_1 k_o_0 (by decide) i_Names rfl rfl (by decide) qw_109 rfl rfl ?_
  refine gw_aload_n C 0 d_Names_isFull_4 rfl rfl ?_
  refine gw_getA C 0 d_Names_isFull_5 k_o_0 (by decide) i_Names rfl rfl (by decide) qw_107 rfl rfl (o + 1) rfl ?_
  refine gw_alen21 C d_Names_isFull_8 k_o_1 ?_
  refine gw_icmp_lt C 16 d_Names_isFull_9 (by decide) (fun hc => ?_) (fun hc => ?_)
  · replace hf0 := mx_t hc hf0
    refine gw_iconst C (0 : Int32) d_Names_isFull_16 (by decide) ?_
    exact en_zp hN (Or.inl rfl) hf0 d_Names_isFull_17
  · replace hf0 := mx_f hc hf0
    refine gw_iconst C (1 : Int32) d_Names_isFull_12 (by decide) ?_
    refine gw_goto C 17 d_Names_isFull_13 (by decide) ?_
    exact en_zp hN (Or.inr rfl) hf0 d_Names_isFull_17

/-! NameHat.Reader.fail(I)Z -/
abbrev b_Reader_fail : ByteArray := prog_6_method_3_code
def y_Reader_fail : MethodName := ⟨"NameHat$Reader", "fail", "(I)Z"⟩
abbrev rm_Reader_fail : Room := { frames := 0, cells := 0, slots := 0, locals := 0 }
theorem hd_Reader_fail : y_Reader_fail.cls ≠ "java/lang/invoke/MethodHandle" ∧ y_Reader_fail.cls ≠ "java/lang/invoke/VarHandle" ∧ (parseMethodDescriptor y_Reader_fail.desc).map (fun d => d.parameters.length) = some 1 := by decide +kernel
theorem d_Reader_fail_0 : decode b_Reader_fail 0 = .ok (.aload_n 0, 1) := by decide +kernel
theorem d_Reader_fail_1 : decode b_Reader_fail 1 = .ok (.iload_n 1, 1) := by decide +kernel
theorem d_Reader_fail_2 : decode b_Reader_fail 2 = .ok (.putfield 33, 3) := by decide +kernel
theorem d_Reader_fail_5 : decode b_Reader_fail 5 = .ok (.aload_n 0, 1) := by decide +kernel
theorem d_Reader_fail_6 : decode b_Reader_fail 6 = .ok (.aload_n 0, 1) := by decide +kernel
theorem d_Reader_fail_7 : decode b_Reader_fail 7 = .ok (.getfield 12, 3) := by decide +kernel
theorem d_Reader_fail_10 : decode b_Reader_fail 10 = .ok (.getfield 65, 3) := by decide +kernel
theorem d_Reader_fail_13 : decode b_Reader_fail 13 = .ok (.putfield 68, 3) := by decide +kernel
theorem d_Reader_fail_16 : decode b_Reader_fail 16 = .ok (.iconst 0, 1) := by decide +kernel
theorem d_Reader_fail_17 : decode b_Reader_fail 17 = .ok (.ireturn, 1) := by decide +kernel
noncomputable def f_Reader_fail (z : Nat → Nat) (σ : Mm) (o : Nat) (p1 : Int32) : Option (Int32 × Mm) :=
  mm_lt (kI σ o 3 p1) fun m2 =>
  mm_lt (kI m2 o 4 (m2.1 (o + 1) 5)) fun m13 =>
  some ((0 : Int32), m13)
set_option maxHeartbeats 4000000 in
set_option maxRecDepth 100000 in
theorem c_Reader_fail (l : Launch) {L : Ly} (hg : gd_ok L) {σ : Mm} {o : Nat} {p1 : Int32} (k_o_0 : ly_k L o = 9) {res : Int32 × Mm} (hf0 : f_Reader_fail (ly_z L) σ o p1 = some res) : CtI l y_Reader_fail b_Reader_fail 2 (some .boolean) rm_Reader_fail L [.ref (ly_a L o), .int p1] σ res.1 res.2 := by
  refine ct_z hg (by decide) (Nat.le_of_ble_eq_true rfl) ?_
  intro E A Q hE C hN
  subst hE
  have k_o_1 : ly_k L (o + 1) = 8 := gd_Reader_tokens hg k_o_0
  unfold f_Reader_fail at hf0
  show GW E L A 2 0 0 Q σ 0 [(0, .ref (ly_a L o)), (1, .int p1)] []
  refine gw_aload_n C 0 d_Reader_fail_0 rfl rfl ?_
  refine gw_iload_n C 1 d_Reader_fail_1 rfl rfl ?_
  obtain ⟨m2, em2, hf0⟩ := mx_lt hf0
  refine gw_putI t_Reader C 3 d_Reader_fail_2 k_o_0 (by decide) i_Reader rfl rfl (by decide) qw_293 rfl rfl t_Reader_ok n_Reader rfl (t_Reader_ok 3 (by decide)) rfl rfl em2 ?_
  refine gw_aload_n C 0 d_Reader_fail_5 rfl rfl ?_
  refine gw_aload_n C 0 d_Reader_fail_6 rfl rfl ?_
  refine gw_getA C 0 d_Reader_fail_7 k_o_0 (by decide) i_Reader rfl rfl (by decide) qw_287 rfl rfl (o + 1) rfl ?_
  refine gw_getIN C 5 d_Reader_fail_10 k_o_1 (by decide) i_Tokens rfl rfl (by decide) qw_62 rfl rfl ?_
  obtain ⟨m13, em13, hf0⟩ := mx_lt hf0
  refine gw_putI t_Reader C 4 d_Reader_fail_13 k_o_0 (by decide) i_Reader rfl rfl (by decide) qw_295 rfl rfl t_Reader_ok n_Reader rfl (t_Reader_ok 4 (by decide)) rfl rfl em13 ?_
  refine gw_iconst C (0 : Int32) d_Reader_fail_16 (by decide) ?_
  exact en_z hN (Or.inl rfl) hf0 d_Reader_fail_17

/-! NameHat.Reader.isName()Z -/
abbrev b_Reader_isName : ByteArray := prog_6_method_6_code
def y_Reader_isName : MethodName := ⟨"NameHat$Reader", "isName", "()Z"⟩
abbrev rm_Reader_isName : Room := { frames := 1, cells := 0, slots := 0, locals := 21 }
theorem hd_Reader_isName : y_Reader_isName.cls ≠ "java/lang/invoke/MethodHandle" ∧ y_Reader_isName.cls ≠ "java/lang/invoke/VarHandle" ∧ (parseMethodDescriptor y_Reader_isName.desc).map (fun d => d.parameters.length) = some 0 := by decide +kernel
theorem d_Reader_isName_0 : decode b_Reader_isName 0 = .ok (.aload_n 0, 1) := by decide +kernel
theorem d_Reader_isName_1 : decode b_Reader_isName 1 = .ok (.getfield 12, 3) := by decide +kernel
theorem d_Reader_isName_4 : decode b_Reader_isName 4 = .ok (.getfield 49, 3) := by decide +kernel
theorem d_Reader_isName_7 : decode b_Reader_isName 7 = .ok (.iconst 1, 1) := by decide +kernel
theorem d_Reader_isName_8 : decode b_Reader_isName 8 = .ok (.if_icmp .ne 14, 3) := by decide +kernel
theorem d_Reader_isName_11 : decode b_Reader_isName 11 = .ok (.aload_n 0, 1) := by decide +kernel
theorem d_Reader_isName_12 : decode b_Reader_isName 12 = .ok (.getfield 12, 3) := by decide +kernel
theorem d_Reader_isName_15 : decode b_Reader_isName 15 = .ok (.getfield 78, 3) := by decide +kernel
theorem d_Reader_isName_18 : decode b_Reader_isName 18 = .ok (.iconst (-1), 1) := by decide +kernel
theorem d_Reader_isName_19 : decode b_Reader_isName 19 = .ok (.if_icmp .eq 11, 3) := by decide +kernel
theorem d_Reader_isName_22 : decode b_Reader_isName 22 = .ok (.aload_n 0, 1) := by decide +kernel
theorem d_Reader_isName_23 : decode b_Reader_isName 23 = .ok (.iconst 1, 1) := by decide +kernel
theorem d_Reader_isName_24 : decode b_Reader_isName 24 = .ok (.invokevirtual 71, 3) := by decide +kernel
theorem d_Reader_isName_27 : decode b_Reader_isName 27 = .ok (.ifCond .eq 7, 3) := by decide +kernel
theorem d_Reader_isName_30 : decode b_Reader_isName 30 = .ok (.iconst 1, 1) := by decide +kernel
theorem d_Reader_isName_31 : decode b_Reader_isName 31 = .ok (.goto 4, 3) := by decide +kernel
theorem d_Reader_isName_34 : decode b_Reader_isName 34 = .ok (.iconst 0, 1) := by decide +kernel
theorem d_Reader_isName_35 : decode b_Reader_isName 35 = .ok (.ireturn, 1) := by decide +kernel
noncomputable def f_Reader_isName_J22 (z : Nat → Nat) (o : Nat) (m22 : Mm) : Option (Int32 × Mm) :=
  (f_Reader_fail z m22 o (1 : Int32)).bind fun q24 =>
  if q24.1 = 0 then (
    some ((0 : Int32), q24.2)
  ) else (
    some ((1 : Int32), q24.2)
  )
noncomputable def f_Reader_isName (z : Nat → Nat) (σ : Mm) (o : Nat) : Option (Int32 × Mm) :=
  if (σ.1 (o + 1) 4) = (1 : Int32) then (
    if (σ.1 (o + 1) 8) = ((-1) : Int32) then (
      some ((1 : Int32), σ)
    ) else (
      f_Reader_isName_J22 z o σ
    )
  ) else (
    f_Reader_isName_J22 z o σ
  )
set_option maxHeartbeats 4000000 in
set_option maxRecDepth 100000 in
theorem c_Reader_isName (l : Launch) {L : Ly} (hg : gd_ok L) {σ : Mm} {o : Nat} (k_o_0 : ly_k L o = 9) {res : Int32 × Mm} (hf0 : f_Reader_isName (ly_z L) σ o = some res) : CtI l y_Reader_isName b_Reader_isName 1 (some .boolean) rm_Reader_isName L [.ref (ly_a L o)] σ res.1 res.2 := by
  refine ct_z hg (by decide) (Nat.le_of_ble_eq_true rfl) ?_
  intro E A Q hE C hN
  subst hE
  have k_o_1 : ly_k L (o + 1) = 8 := gd_Reader_tokens hg k_o_0
  unfold f_Reader_isName at hf0
  show GW E L A 1 0 0 Q σ 0 [(0, .ref (ly_a L o))] []
  have hj22 : ∀ (m22 : Mm), f_Reader_isName_J22 (ly_z L) o m22 = some res → GW E L A 1 0 0 Q m22 22 [(0, .ref (ly_a L o))] [] := by
    intro m22 hf0
    unfold f_Reader_isName_J22 at hf0
    refine gw_aload_n C 0 d_Reader_isName_22 rfl rfl ?_
    refine gw_iconst C (1 : Int32) d_Reader_isName_23 (by decide) ?_
    obtain ⟨q24, hq24, hf0⟩ := mx_bd hf0
    refine gw_callI C (c_Reader_fail _ hg k_o_0 hq24) d_Reader_isName_24 1 qw_568 qw_570 qs_4 qw_2 qw_571 k_o_0 (by decide) rfl hd_Reader_fail rfl rfl (Nat.le_of_ble_eq_true rfl) ⟨rfl, rfl, Nat.le_of_ble_eq_true rfl, Nat.le_of_ble_eq_true rfl⟩ ⟨Nat.zero_le _, Nat.zero_le _⟩ ?_
    refine gw_if_eq C 34 d_Reader_isName_27 (by decide) (fun hc => ?_) (fun hc => ?_)
    · replace hf0 := mx_t hc hf0
      refine gw_iconst C (0 : Int32) d_Reader_isName_34 (by decide) ?_
      exact en_z hN (Or.inl rfl) hf0 d_Reader_isName_35
    · replace hf0 := mx_f hc hf0
      refine gw_iconst C (1 : Int32) d_Reader_isName_30 (by decide) ?_
      refine gw_goto C 35 d_Reader_isName_31 (by decide) ?_
      exact en_z hN (Or.inr rfl) hf0 d_Reader_isName_35
  refine gw_aload_n C 0 d_Reader_isName_0 rfl rfl ?_
  refine gw_getA C 0 d_Reader_isName_1 k_o_0 (by decide) i_Reader rfl rfl (by decide) qw_287 rfl rfl (o + 1) rfl ?_
  refine gw_getIN C 4 d_Reader_isName_4 k_o_1 (by decide) i_Tokens rfl rfl (by decide) qw_60 rfl rfl ?_
  refine gw_iconst C (1 : Int32) d_Reader_isName_7 (by decide) ?_
  refine gw_icmp_ne C 22 d_Reader_isName_8 (by decide) (fun hc => ?_) (fun hc => ?_)
  · replace hf0 := mx_f hc hf0
    exact gw_go [0] (hj22 _ hf0) rfl
  · replace hf0 := mx_t hc hf0
    refine gw_aload_n C 0 d_Reader_isName_11 rfl rfl ?_
    refine gw_getA C 0 d_Reader_isName_12 k_o_0 (by decide) i_Reader rfl rfl (by decide) qw_287 rfl rfl (o + 1) rfl ?_
    refine gw_getIN C 8 d_Reader_isName_15 k_o_1 (by decide) i_Tokens rfl rfl (by decide) qw_69 rfl rfl ?_
    refine gw_iconst C ((-1) : Int32) d_Reader_isName_18 (by decide) ?_
    refine gw_icmp_eq C 30 d_Reader_isName_19 (by decide) (fun hc => ?_) (fun hc => ?_)
    · replace hf0 := mx_t hc hf0
      refine gw_iconst C (1 : Int32) d_Reader_isName_30 (by decide) ?_
      refine gw_goto C 35 d_Reader_isName_31 (by decide) ?_
      exact en_z hN (Or.inr rfl) hf0 d_Reader_isName_35
    · replace hf0 := mx_f hc hf0
      exact gw_go [0] (hj22 _ hf0) rfl

/-! NameHat.Names.find(J)I -/
abbrev b_Names_find : ByteArray := prog_5_method_5_code
def y_Names_find : MethodName := ⟨"NameHat$Names", "find", "(J)I"⟩
abbrev rm_Names_find : Room := { frames := 0, cells := 0, slots := 0, locals := 0 }
theorem hd_Names_find : y_Names_find.cls ≠ "java/lang/invoke/MethodHandle" ∧ y_Names_find.cls ≠ "java/lang/invoke/VarHandle" ∧ (parseMethodDescriptor y_Names_find.desc).map (fun d => d.parameters.length) = some 1 := by decide +kernel
theorem d_Names_find_0 : decode b_Names_find 0 = .ok (.iconst 0, 1) := by decide +kernel
theorem d_Names_find_1 : decode b_Names_find 1 = .ok (.istore_n 3, 1) := by decide +kernel
theorem d_Names_find_2 : decode b_Names_find 2 = .ok (.iload_n 3, 1) := by decide +kernel
theorem d_Names_find_3 : decode b_Names_find 3 = .ok (.aload_n 0, 1) := by decide +kernel
theorem d_Names_find_4 : decode b_Names_find 4 = .ok (.getfield 15, 3) := by decide +kernel
theorem d_Names_find_7 : decode b_Names_find 7 = .ok (.if_icmp .ge 31, 3) := by decide +kernel
theorem d_Names_find_10 : decode b_Names_find 10 = .ok (.iload_n 3, 1) := by decide +kernel
theorem d_Names_find_11 : decode b_Names_find 11 = .ok (.aload_n 0, 1) := by decide +kernel
theorem d_Names_find_12 : decode b_Names_find 12 = .ok (.getfield 9, 3) := by decide +kernel
theorem d_Names_find_15 : decode b_Names_find 15 = .ok (.arraylength, 1) := by decide +kernel
theorem d_Names_find_16 : decode b_Names_find 16 = .ok (.if_icmp .ge 22, 3) := by decide +kernel
theorem d_Names_find_19 : decode b_Names_find 19 = .ok (.aload_n 0, 1) := by decide +kernel
theorem d_Names_find_20 : decode b_Names_find 20 = .ok (.getfield 9, 3) := by decide +kernel
theorem d_Names_find_23 : decode b_Names_find 23 = .ok (.iload_n 3, 1) := by decide +kernel
theorem d_Names_find_24 : decode b_Names_find 24 = .ok (.laload, 1) := by decide +kernel
theorem d_Names_find_25 : decode b_Names_find 25 = .ok (.lload_n 1, 1) := by decide +kernel
theorem d_Names_find_26 : decode b_Names_find 26 = .ok (.lcmp, 1) := by decide +kernel
theorem d_Names_find_27 : decode b_Names_find 27 = .ok (.ifCond .ne 5, 3) := by decide +kernel
theorem d_Names_find_30 : decode b_Names_find 30 = .ok (.iload_n 3, 1) := by decide +kernel
theorem d_Names_find_31 : decode b_Names_find 31 = .ok (.ireturn, 1) := by decide +kernel
theorem d_Names_find_32 : decode b_Names_find 32 = .ok (.iinc 3 1, 3) := by decide +kernel
theorem d_Names_find_35 : decode b_Names_find 35 = .ok (.goto (-33), 3) := by decide +kernel
theorem d_Names_find_38 : decode b_Names_find 38 = .ok (.iconst (-1), 1) := by decide +kernel
theorem d_Names_find_39 : decode b_Names_find 39 = .ok (.ireturn, 1) := by decide +kernel
noncomputable def f_Names_find_L2 (z : Nat → Nat) (σ : Mm) (o : Nat) (v1 : Int64) (s2 : Int32) : Option ((Int32) ⊕ ((Int32) ⊕ (Unit))) :=
  if (σ.1 o 1) ≤ s2 then (
    some (.inr (.inr ()))
  ) else (
    if (nI (z (o + 1))) ≤ s2 then (
      some (.inr (.inr ()))
    ) else (
      (mm_ldL (σ.2 (o + 1)) (z (o + 1)) s2).bind fun x24 =>
      if (lg_cmp x24 v1) = 0 then (
        some (.inr (.inl s2))
      ) else (
        mm_lt (s2 + (1 : Int32)) fun x32 =>
        some (.inl x32)
      )
    )
  )
noncomputable def f_Names_find (z : Nat → Nat) (σ : Mm) (o : Nat) (p1 : Int64) : Option (Int32) :=
  (mm_lp (f_Names_find_L2 z σ o p1) (0 : Int32)).bind (Sum.elim (fun r9 => some r9) (fun x2_ =>
    some ((-1) : Int32)))
set_option maxHeartbeats 4000000 in
set_option maxRecDepth 100000 in
theorem c_Names_find (l : Launch) {L : Ly} (hg : gd_ok L) {σ : Mm} {o : Nat} {p1 : Int64} (k_o_0 : ly_k L o = 1) {res : Int32} (hf0 : f_Names_find (ly_z L) σ o p1 = some res) : CtI l y_Names_find b_Names_find 4 (some .int) rm_Names_find L [.ref (ly_a L o), .long p1] σ res σ := by
  refine ct_i hg (by decide) (Nat.le_of_ble_eq_true rfl) ?_
  intro E A Q hE C hN
  subst hE
  have k_o_1 : ly_k L (o + 1) = 21 := gd_Names_letters hg k_o_0
  unfold f_Names_find at hf0
  show GW E L A 4 0 0 Q σ 0 [(0, .ref (ly_a L o)), (1, .long p1)] []
  refine gw_iconst C (0 : Int32) d_Names_find_0 (by decide) ?_
  refine gw_istore_n C [(3, .int (0 : Int32)), (0, .ref (ly_a L o)), (1, .long p1)] d_Names_find_1 rfl (by decide) rfl ?_
  obtain ⟨q2, hq2, hf0⟩ := mx_bd hf0
  have hk2 : ∀ x2_, q2 = .inr x2_ → GW E L A 4 0 0 Q σ 38 [] [] := by
    intro x2_ hx9
    subst hx9
    replace hf0 := mx_sr hf0
    refine gw_iconst C ((-1) : Int32) d_Names_find_38 (by decide) ?_
    exact en_ip hN hf0 d_Names_find_39
  refine gw_sub [1, 2, 0] (lv' := [(0, .ref (ly_a L o)), (1, .long p1), (3, .int (0 : Int32))]) rfl ?_
  refine mm_rule hq2 (P := fun (s2 : Int32) => GW E L A 4 0 0 Q σ 2 [(0, .ref (ly_a L o)), (1, .long p1), (3, .int s2)] []) ?_
  intro s2 ih2 hx2 ⟨w2, hb2⟩
  have hf1 := hb2
  unfold f_Names_find_L2 at hf1
  refine gw_iload_n C 2 d_Names_find_2 rfl rfl ?_
  refine gw_aload_n C 0 d_Names_find_3 rfl rfl ?_
  refine gw_getI C 1 d_Names_find_4 k_o_0 (by decide) i_Names rfl rfl (by decide) qw_109 rfl rfl ?_
  refine gw_icmp_ge C 38 d_Names_find_7 (by decide) (fun hc => ?_) (fun hc => ?_)
  · replace hf1 := mx_t hc hf1
    exact gw_go [] (hk2 () (hx2 _ (hb2.trans hf1.symm)).symm) rfl
  · replace hf1 := mx_f hc hf1
    refine gw_iload_n C 2 d_Names_find_10 rfl rfl ?_
    refine gw_aload_n C 0 d_Names_find_11 rfl rfl ?_
    refine gw_getA C 0 d_Names_find_12 k_o_0 (by decide) i_Names rfl rfl (by decide) qw_107 rfl rfl (o + 1) rfl ?_
    refine gw_alen21 C d_Names_find_15 k_o_1 ?_
    refine gw_icmp_ge C 38 d_Names_find_16 (by decide) (fun hc => ?_) (fun hc => ?_)
    · replace hf1 := mx_t hc hf1
      exact gw_go [] (hk2 () (hx2 _ (hb2.trans hf1.symm)).symm) rfl
    · replace hf1 := mx_f hc hf1
      refine gw_aload_n C 0 d_Names_find_19 rfl rfl ?_
      refine gw_getA C 0 d_Names_find_20 k_o_0 (by decide) i_Names rfl rfl (by decide) qw_107 rfl rfl (o + 1) rfl ?_
      refine gw_iload_n C 2 d_Names_find_23 rfl rfl ?_
      obtain ⟨x24, hx24, hf1⟩ := mx_bd hf1
      obtain ⟨gx24, ex24⟩ := mx_ldL hx24
      refine gw_lald C d_Names_find_24 k_o_1 gx24 ex24 ?_
      refine gw_lload_n C 1 d_Names_find_25 rfl rfl ?_
      refine gw_lcmp C d_Names_find_26 ?_
      refine gw_if_ne C 32 d_Names_find_27 (by decide) (fun hc => ?_) (fun hc => ?_)
      · replace hf1 := mx_f hc hf1
        obtain ⟨x32, ex32, hf1⟩ := mx_lt hf1
        refine gw_iinc C 2 [(3, .int x32), (0, .ref (ly_a L o)), (1, .long p1)] d_Names_find_32 rfl (by rw [ex32]; rfl) (by decide) rfl ?_
        refine gw_goto C 2 d_Names_find_35 (by decide) ?_
        exact gw_go [1, 2, 0] (ih2 x32 (hb2.trans hf1.symm)) rfl
      · replace hf1 := mx_t hc hf1
        refine gw_iload_n C 2 d_Names_find_30 rfl rfl ?_
        have hr2 := hx2 _ (hb2.trans hf1.symm)
        subst hr2
        replace hf0 := mx_sl hf0
        exact en_ip hN hf0 d_Names_find_31

/-! NameHat.Reader.isNewName()Z -/
abbrev b_Reader_isNewName : ByteArray := prog_6_method_7_code
def y_Reader_isNewName : MethodName := ⟨"NameHat$Reader", "isNewName", "()Z"⟩
abbrev rm_Reader_isNewName : Room := { frames := 2, cells := 0, slots := 0, locals := 41 }
theorem hd_Reader_isNewName : y_Reader_isNewName.cls ≠ "java/lang/invoke/MethodHandle" ∧ y_Reader_isNewName.cls ≠ "java/lang/invoke/VarHandle" ∧ (parseMethodDescriptor y_Reader_isNewName.desc).map (fun d => d.parameters.length) = some 0 := by decide +kernel
theorem d_Reader_isNewName_0 : decode b_Reader_isNewName 0 = .ok (.aload_n 0, 1) := by decide +kernel
theorem d_Reader_isNewName_1 : decode b_Reader_isNewName 1 = .ok (.invokevirtual 81, 3) := by decide +kernel
theorem d_Reader_isNewName_4 : decode b_Reader_isNewName 4 = .ok (.ifCond .ne 5, 3) := by decide +kernel
theorem d_Reader_isNewName_7 : decode b_Reader_isNewName 7 = .ok (.iconst 0, 1) := by decide +kernel
theorem d_Reader_isNewName_8 : decode b_Reader_isNewName 8 = .ok (.ireturn, 1) := by decide +kernel
theorem d_Reader_isNewName_9 : decode b_Reader_isNewName 9 = .ok (.aload_n 0, 1) := by decide +kernel
theorem d_Reader_isNewName_10 : decode b_Reader_isNewName 10 = .ok (.getfield 21, 3) := by decide +kernel
theorem d_Reader_isNewName_13 : decode b_Reader_isNewName 13 = .ok (.getfield 84, 3) := by decide +kernel
theorem d_Reader_isNewName_16 : decode b_Reader_isNewName 16 = .ok (.getfield 88, 3) := by decide +kernel
theorem d_Reader_isNewName_19 : decode b_Reader_isNewName 19 = .ok (.aload_n 0, 1) := by decide +kernel
theorem d_Reader_isNewName_20 : decode b_Reader_isNewName 20 = .ok (.getfield 12, 3) := by decide +kernel
theorem d_Reader_isNewName_23 : decode b_Reader_isNewName 23 = .ok (.getfield 94, 3) := by decide +kernel
theorem d_Reader_isNewName_26 : decode b_Reader_isNewName 26 = .ok (.invokevirtual 98, 3) := by decide +kernel
theorem d_Reader_isNewName_29 : decode b_Reader_isNewName 29 = .ok (.iconst (-1), 1) := by decide +kernel
theorem d_Reader_isNewName_30 : decode b_Reader_isNewName 30 = .ok (.if_icmp .ne 27, 3) := by decide +kernel
theorem d_Reader_isNewName_33 : decode b_Reader_isNewName 33 = .ok (.aload_n 0, 1) := by decide +kernel
theorem d_Reader_isNewName_34 : decode b_Reader_isNewName 34 = .ok (.getfield 21, 3) := by decide +kernel
theorem d_Reader_isNewName_37 : decode b_Reader_isNewName 37 = .ok (.getfield 84, 3) := by decide +kernel
theorem d_Reader_isNewName_40 : decode b_Reader_isNewName 40 = .ok (.getfield 104, 3) := by decide +kernel
theorem d_Reader_isNewName_43 : decode b_Reader_isNewName 43 = .ok (.aload_n 0, 1) := by decide +kernel
theorem d_Reader_isNewName_44 : decode b_Reader_isNewName 44 = .ok (.getfield 12, 3) := by decide +kernel
theorem d_Reader_isNewName_47 : decode b_Reader_isNewName 47 = .ok (.getfield 94, 3) := by decide +kernel
theorem d_Reader_isNewName_50 : decode b_Reader_isNewName 50 = .ok (.invokevirtual 98, 3) := by decide +kernel
theorem d_Reader_isNewName_53 : decode b_Reader_isNewName 53 = .ok (.iconst (-1), 1) := by decide +kernel
theorem d_Reader_isNewName_54 : decode b_Reader_isNewName 54 = .ok (.if_icmp .eq 7, 3) := by decide +kernel
theorem d_Reader_isNewName_57 : decode b_Reader_isNewName 57 = .ok (.iconst 1, 1) := by decide +kernel
theorem d_Reader_isNewName_58 : decode b_Reader_isNewName 58 = .ok (.goto 4, 3) := by decide +kernel
theorem d_Reader_isNewName_61 : decode b_Reader_isNewName 61 = .ok (.iconst 0, 1) := by decide +kernel
theorem d_Reader_isNewName_62 : decode b_Reader_isNewName 62 = .ok (.istore_n 1, 1) := by decide +kernel
theorem d_Reader_isNewName_63 : decode b_Reader_isNewName 63 = .ok (.iload_n 1, 1) := by decide +kernel
theorem d_Reader_isNewName_64 : decode b_Reader_isNewName 64 = .ok (.ifCond .eq 11, 3) := by decide +kernel
theorem d_Reader_isNewName_67 : decode b_Reader_isNewName 67 = .ok (.aload_n 0, 1) := by decide +kernel
theorem d_Reader_isNewName_68 : decode b_Reader_isNewName 68 = .ok (.iconst 3, 1) := by decide +kernel
theorem d_Reader_isNewName_69 : decode b_Reader_isNewName 69 = .ok (.invokevirtual 71, 3) := by decide +kernel
theorem d_Reader_isNewName_72 : decode b_Reader_isNewName 72 = .ok (.ifCond .eq 7, 3) := by decide +kernel
theorem d_Reader_isNewName_75 : decode b_Reader_isNewName 75 = .ok (.iconst 1, 1) := by decide +kernel
theorem d_Reader_isNewName_76 : decode b_Reader_isNewName 76 = .ok (.goto 4, 3) := by decide +kernel
theorem d_Reader_isNewName_79 : decode b_Reader_isNewName 79 = .ok (.iconst 0, 1) := by decide +kernel
theorem d_Reader_isNewName_80 : decode b_Reader_isNewName 80 = .ok (.ireturn, 1) := by decide +kernel
noncomputable def f_Reader_isNewName_J62 (z : Nat → Nat) (o : Nat) (t62_0 : Int32) (m62 : Mm) : Option (Int32 × Mm) :=
  if t62_0 = 0 then (
    some ((1 : Int32), m62)
  ) else (
    (f_Reader_fail z m62 o (3 : Int32)).bind fun q69 =>
    if q69.1 = 0 then (
      some ((0 : Int32), q69.2)
    ) else (
      some ((1 : Int32), q69.2)
    )
  )
noncomputable def f_Reader_isNewName (z : Nat → Nat) (σ : Mm) (o : Nat) : Option (Int32 × Mm) :=
  (f_Reader_isName z σ o).bind fun q1 =>
  if q1.1 = 0 then (
    some ((0 : Int32), q1.2)
  ) else (
    (f_Names_find z q1.2 (o + 6) (q1.2.2 (o + 1) 7)).bind fun q26 =>
    if q26 = ((-1) : Int32) then (
      (f_Names_find z q1.2 (o + 8) (q1.2.2 (o + 1) 7)).bind fun q50 =>
      if q50 = ((-1) : Int32) then (
        f_Reader_isNewName_J62 z o (0 : Int32) q1.2
      ) else (
        f_Reader_isNewName_J62 z o (1 : Int32) q1.2
      )
    ) else (
      f_Reader_isNewName_J62 z o (1 : Int32) q1.2
    )
  )
set_option maxHeartbeats 4000000 in
set_option maxRecDepth 100000 in
theorem c_Reader_isNewName (l : Launch) {L : Ly} (hg : gd_ok L) {σ : Mm} {o : Nat} (k_o_0 : ly_k L o = 9) {res : Int32 × Mm} (hf0 : f_Reader_isNewName (ly_z L) σ o = some res) : CtI l y_Reader_isNewName b_Reader_isNewName 2 (some .boolean) rm_Reader_isNewName L [.ref (ly_a L o)] σ res.1 res.2 := by
  refine ct_z hg (by decide) (Nat.le_of_ble_eq_true rfl) ?_
  intro E A Q hE C hN
  subst hE
  have k_o_4 : ly_k L (o + 4) = 4 := gd_Reader_draft hg k_o_0
  have k_o_5 : ly_k L (o + 5) = 2 := gd_State_island hg k_o_4
  have k_o_1 : ly_k L (o + 1) = 8 := gd_Reader_tokens hg k_o_0
  have k_o_6 : ly_k L (o + 6) = 1 := gd_Island_surnames hg k_o_5
  have k_o_8 : ly_k L (o + 8) = 1 := gd_Island_houses hg k_o_5
  unfold f_Reader_isNewName at hf0
  show GW E L A 2 0 0 Q σ 0 [(0, .ref (ly_a L o))] []
  have hj62 : ∀ (t62_0 : Int32) (m62 : Mm), f_Reader_isNewName_J62 (ly_z L) o t62_0 m62 = some res → GW E L A 2 0 0 Q m62 62 [(0, .ref (ly_a L o))] [.int t62_0] := by
    intro t62_0 m62 hf0
    unfold f_Reader_isNewName_J62 at hf0
    refine gw_istore_n C [(1, .int t62_0), (0, .ref (ly_a L o))] d_Reader_isNewName_62 rfl (by decide) rfl ?_
    refine gw_iload_n C 0 d_Reader_isNewName_63 rfl rfl ?_
    refine gw_if_eq C 75 d_Reader_isNewName_64 (by decide) (fun hc => ?_) (fun hc => ?_)
    · replace hf0 := mx_t hc hf0
      refine gw_iconst C (1 : Int32) d_Reader_isNewName_75 (by decide) ?_
      refine gw_goto C 80 d_Reader_isNewName_76 (by decide) ?_
      exact en_z hN (Or.inr rfl) hf0 d_Reader_isNewName_80
    · replace hf0 := mx_f hc hf0
      refine gw_aload_n C 1 d_Reader_isNewName_67 rfl rfl ?_
      refine gw_iconst C (3 : Int32) d_Reader_isNewName_68 (by decide) ?_
      obtain ⟨q69, hq69, hf0⟩ := mx_bd hf0
      refine gw_callI C (c_Reader_fail _ hg k_o_0 hq69) d_Reader_isNewName_69 1 qw_568 qw_570 qs_4 qw_2 qw_571 k_o_0 (by decide) rfl hd_Reader_fail rfl rfl (Nat.le_of_ble_eq_true rfl) ⟨rfl, rfl, Nat.le_of_ble_eq_true rfl, Nat.le_of_ble_eq_true rfl⟩ ⟨Nat.zero_le _, Nat.zero_le _⟩ ?_
      refine gw_if_eq C 79 d_Reader_isNewName_72 (by decide) (fun hc => ?_) (fun hc => ?_)
      · replace hf0 := mx_t hc hf0
        refine gw_iconst C (0 : Int32) d_Reader_isNewName_79 (by decide) ?_
        exact en_z hN (Or.inl rfl) hf0 d_Reader_isNewName_80
      · replace hf0 := mx_f hc hf0
        refine gw_iconst C (1 : Int32) d_Reader_isNewName_75 (by decide) ?_
        refine gw_goto C 80 d_Reader_isNewName_76 (by decide) ?_
        exact en_z hN (Or.inr rfl) hf0 d_Reader_isNewName_80
  refine gw_aload_n C 0 d_Reader_isNewName_0 rfl rfl ?_
  obtain ⟨q1, hq1, hf0⟩ := mx_bd hf0
  refine gw_callI C (c_Reader_isName _ hg k_o_0 hq1) d_Reader_isNewName_1 0 qw_576 qw_578 qs_6 qw_2 qw_579 k_o_0 (by decide) rfl hd_Reader_isName rfl rfl (Nat.le_of_ble_eq_true rfl) ⟨rfl, rfl, Nat.le_of_ble_eq_true rfl, Nat.le_of_ble_eq_true rfl⟩ ⟨Nat.zero_le _, Nat.zero_le _⟩ ?_
  refine gw_if_ne C 9 d_Reader_isNewName_4 (by decide) (fun hc => ?_) (fun hc => ?_)
  · replace hf0 := mx_f hc hf0
    refine gw_aload_n C 0 d_Reader_isNewName_9 rfl rfl ?_
    refine gw_getA C 1 d_Reader_isNewName_10 k_o_0 (by decide) i_Reader rfl rfl (by decide) qw_289 rfl rfl (o + 4) rfl ?_
    refine gw_getAN C 0 d_Reader_isNewName_13 k_o_4 (by decide) i_State rfl rfl (by decide) qw_236 rfl rfl (o + 5) rfl ?_
    refine gw_getAN C 0 d_Reader_isNewName_16 k_o_5 (by decide) i_Island rfl rfl (by decide) qw_127 rfl rfl (o + 6) rfl ?_
    refine gw_aload_n C 0 d_Reader_isNewName_19 rfl rfl ?_
    refine gw_getA C 0 d_Reader_isNewName_20 k_o_0 (by decide) i_Reader rfl rfl (by decide) qw_287 rfl rfl (o + 1) rfl ?_
    refine gw_getLN C 7 d_Reader_isNewName_23 k_o_1 (by decide) i_Tokens rfl rfl (by decide) qw_67 rfl rfl ?_
    obtain ⟨q26, hq26, hf0⟩ := mx_bd hf0
    refine gw_callI C (c_Names_find _ hg k_o_6 hq26) d_Reader_isNewName_26 1 qw_580 qw_581 qw_582 qw_7 qw_583 k_o_6 (by decide) rfl hd_Names_find rfl rfl (Nat.le_of_ble_eq_true rfl) ⟨rfl, rfl, Nat.le_of_ble_eq_true rfl, Nat.le_of_ble_eq_true rfl⟩ ⟨Nat.zero_le _, Nat.zero_le _⟩ ?_
    refine gw_iconst C ((-1) : Int32) d_Reader_isNewName_29 (by decide) ?_
    refine gw_icmp_ne C 57 d_Reader_isNewName_30 (by decide) (fun hc => ?_) (fun hc => ?_)
    · replace hf0 := mx_f hc hf0
      refine gw_iconst C (1 : Int32) d_Reader_isNewName_57 (by decide) ?_
      refine gw_goto C 62 d_Reader_isNewName_58 (by decide) ?_
      exact gw_go [0] (hj62 _ _ hf0) rfl
    · replace hf0 := mx_t hc hf0
      refine gw_aload_n C 0 d_Reader_isNewName_33 rfl rfl ?_
      refine gw_getA C 1 d_Reader_isNewName_34 k_o_0 (by decide) i_Reader rfl rfl (by decide) qw_289 rfl rfl (o + 4) rfl ?_
      refine gw_getAN C 0 d_Reader_isNewName_37 k_o_4 (by decide) i_State rfl rfl (by decide) qw_236 rfl rfl (o + 5) rfl ?_
      refine gw_getAN C 1 d_Reader_isNewName_40 k_o_5 (by decide) i_Island rfl rfl (by decide) qw_135 rfl rfl (o + 8) rfl ?_
      refine gw_aload_n C 0 d_Reader_isNewName_43 rfl rfl ?_
      refine gw_getA C 0 d_Reader_isNewName_44 k_o_0 (by decide) i_Reader rfl rfl (by decide) qw_287 rfl rfl (o + 1) rfl ?_
      refine gw_getLN C 7 d_Reader_isNewName_47 k_o_1 (by decide) i_Tokens rfl rfl (by decide) qw_67 rfl rfl ?_
      obtain ⟨q50, hq50, hf0⟩ := mx_bd hf0
      refine gw_callI C (c_Names_find _ hg k_o_8 hq50) d_Reader_isNewName_50 1 qw_580 qw_581 qw_582 qw_7 qw_583 k_o_8 (by decide) rfl hd_Names_find rfl rfl (Nat.le_of_ble_eq_true rfl) ⟨rfl, rfl, Nat.le_of_ble_eq_true rfl, Nat.le_of_ble_eq_true rfl⟩ ⟨Nat.zero_le _, Nat.zero_le _⟩ ?_
      refine gw_iconst C ((-1) : Int32) d_Reader_isNewName_53 (by decide) ?_
      refine gw_icmp_eq C 61 d_Reader_isNewName_54 (by decide) (fun hc => ?_) (fun hc => ?_)
      · replace hf0 := mx_t hc hf0
        refine gw_iconst C (0 : Int32) d_Reader_isNewName_61 (by decide) ?_
        exact gw_go [0] (hj62 _ _ hf0) rfl
      · replace hf0 := mx_f hc hf0
        refine gw_iconst C (1 : Int32) d_Reader_isNewName_57 (by decide) ?_
        refine gw_goto C 62 d_Reader_isNewName_58 (by decide) ?_
        exact gw_go [0] (hj62 _ _ hf0) rfl
  · replace hf0 := mx_t hc hf0
    refine gw_iconst C (0 : Int32) d_Reader_isNewName_7 (by decide) ?_
    exact en_z hN (Or.inl rfl) hf0 d_Reader_isNewName_8

/-! NameHat.Names.add(J)I -/
abbrev b_Names_add : ByteArray := prog_5_method_6_code
def y_Names_add : MethodName := ⟨"NameHat$Names", "add", "(J)I"⟩
abbrev rm_Names_add : Room := { frames := 0, cells := 0, slots := 0, locals := 0 }
theorem hd_Names_add : y_Names_add.cls ≠ "java/lang/invoke/MethodHandle" ∧ y_Names_add.cls ≠ "java/lang/invoke/VarHandle" ∧ (parseMethodDescriptor y_Names_add.desc).map (fun d => d.parameters.length) = some 1 := by decide +kernel
theorem d_Names_add_0 : decode b_Names_add 0 = .ok (.aload_n 0, 1) := by decide +kernel
theorem d_Names_add_1 : decode b_Names_add 1 = .ok (.getfield 15, 3) := by decide +kernel
theorem d_Names_add_4 : decode b_Names_add 4 = .ok (.ifCond .lt 15, 3) := by decide +kernel
theorem d_Names_add_7 : decode b_Names_add 7 = .ok (.aload_n 0, 1) := by decide +kernel
theorem d_Names_add_8 : decode b_Names_add 8 = .ok (.getfield 15, 3) := by decide +kernel
theorem d_Names_add_11 : decode b_Names_add 11 = .ok (.aload_n 0, 1) := by decide +kernel
theorem d_Names_add_12 : decode b_Names_add 12 = .ok (.getfield 9, 3) := by decide +kernel
theorem d_Names_add_15 : decode b_Names_add 15 = .ok (.arraylength, 1) := by decide +kernel
theorem d_Names_add_16 : decode b_Names_add 16 = .ok (.if_icmp .lt 5, 3) := by decide +kernel
theorem d_Names_add_19 : decode b_Names_add 19 = .ok (.iconst (-1), 1) := by decide +kernel
theorem d_Names_add_20 : decode b_Names_add 20 = .ok (.ireturn, 1) := by decide +kernel
theorem d_Names_add_21 : decode b_Names_add 21 = .ok (.aload_n 0, 1) := by decide +kernel
theorem d_Names_add_22 : decode b_Names_add 22 = .ok (.getfield 9, 3) := by decide +kernel
theorem d_Names_add_25 : decode b_Names_add 25 = .ok (.aload_n 0, 1) := by decide +kernel
theorem d_Names_add_26 : decode b_Names_add 26 = .ok (.getfield 15, 3) := by decide +kernel
theorem d_Names_add_29 : decode b_Names_add 29 = .ok (.lload_n 1, 1) := by decide +kernel
theorem d_Names_add_30 : decode b_Names_add 30 = .ok (.lastore, 1) := by decide +kernel
theorem d_Names_add_31 : decode b_Names_add 31 = .ok (.aload_n 0, 1) := by decide +kernel
theorem d_Names_add_32 : decode b_Names_add 32 = .ok (.dup, 1) := by decide +kernel
theorem d_Names_add_33 : decode b_Names_add 33 = .ok (.getfield 15, 3) := by decide +kernel
theorem d_Names_add_36 : decode b_Names_add 36 = .ok (.iconst 1, 1) := by decide +kernel
theorem d_Names_add_37 : decode b_Names_add 37 = .ok (.iadd, 1) := by decide +kernel
theorem d_Names_add_38 : decode b_Names_add 38 = .ok (.putfield 15, 3) := by decide +kernel
theorem d_Names_add_41 : decode b_Names_add 41 = .ok (.aload_n 0, 1) := by decide +kernel
theorem d_Names_add_42 : decode b_Names_add 42 = .ok (.getfield 15, 3) := by decide +kernel
theorem d_Names_add_45 : decode b_Names_add 45 = .ok (.iconst 1, 1) := by decide +kernel
theorem d_Names_add_46 : decode b_Names_add 46 = .ok (.isub, 1) := by decide +kernel
theorem d_Names_add_47 : decode b_Names_add 47 = .ok (.ireturn, 1) := by decide +kernel
noncomputable def f_Names_add (z : Nat → Nat) (σ : Mm) (o : Nat) (p1 : Int64) : Option (Int32 × Mm) :=
  if (σ.1 o 1) < 0 then (
    some (((-1) : Int32), σ)
  ) else (
    if (σ.1 o 1) < (nI (z (o + 1))) then (
      (mm_stL σ (o + 1) (z (o + 1)) (σ.1 o 1) p1).bind fun m30 =>
      mm_lt (kI m30 o 1 ((m30.1 o 1) + (1 : Int32))) fun m38 =>
      some (((m38.1 o 1) - (1 : Int32)), m38)
    ) else (
      some (((-1) : Int32), σ)
    )
  )
set_option maxHeartbeats 4000000 in
set_option maxRecDepth 100000 in
theorem c_Names_add (l : Launch) {L : Ly} (hg : gd_ok L) {σ : Mm} {o : Nat} {p1 : Int64} (k_o_0 : ly_k L o = 1) {res : Int32 × Mm} (hf0 : f_Names_add (ly_z L) σ o p1 = some res) : CtI l y_Names_add b_Names_add 3 (some .int) rm_Names_add L [.ref (ly_a L o), .long p1] σ res.1 res.2 := by
  refine ct_i hg (by decide) (Nat.le_of_ble_eq_true rfl) ?_
  intro E A Q hE C hN
  subst hE
  have k_o_1 : ly_k L (o + 1) = 21 := gd_Names_letters hg k_o_0
  unfold f_Names_add at hf0
  show GW E L A 3 0 0 Q σ 0 [(0, .ref (ly_a L o)), (1, .long p1)] []
  refine gw_aload_n C 0 d_Names_add_0 rfl rfl ?_
  refine gw_getI C 1 d_Names_add_1 k_o_0 (by decide) i_Names rfl rfl (by decide) qw_109 rfl rfl ?_
  refine gw_if_lt C 19 d_Names_add_4 (by decide) (fun hc => ?_) (fun hc => ?_)
  · replace hf0 := mx_t hc hf0
    refine gw_iconst C ((-1) : Int32) d_Names_add_19 (by decide) ?_
    exact en_i hN hf0 d_Names_add_20
  · replace hf0 := mx_f hc hf0
    refine gw_aload_n C 0 d_Names_add_7 rfl rfl ?_
    refine gw_getI C 1 d_Names_add_8 k_o_0 (by decide) i_Names rfl rfl (by decide) qw_109 rfl rfl ?_
    refine gw_aload_n C 0 d_Names_add_11 rfl rfl ?_
    refine gw_getA C 0 d_Names_add_12 k_o_0 (by decide) i_Names rfl rfl (by decide) qw_107 rfl rfl (o + 1) rfl ?_
    refine gw_alen21 C d_Names_add_15 k_o_1 ?_
    refine gw_icmp_lt C 21 d_Names_add_16 (by decide) (fun hc => ?_) (fun hc => ?_)
    · replace hf0 := mx_t hc hf0
      refine gw_aload_n C 0 d_Names_add_21 rfl rfl ?_
      refine gw_getA C 0 d_Names_add_22 k_o_0 (by decide) i_Names rfl rfl (by decide) qw_107 rfl rfl (o + 1) rfl ?_
      refine gw_aload_n C 0 d_Names_add_25 rfl rfl ?_
      refine gw_getI C 1 d_Names_add_26 k_o_0 (by decide) i_Names rfl rfl (by decide) qw_109 rfl rfl ?_
      refine gw_lload_n C 1 d_Names_add_29 rfl rfl ?_
      obtain ⟨m30, hm30, hf0⟩ := mx_bd hf0
      obtain ⟨gm30, em30⟩ := mx_stL hm30
      refine gw_last C d_Names_add_30 k_o_1 gm30 em30 ?_
      refine gw_aload_n C 0 d_Names_add_31 rfl rfl ?_
      refine gw_dup C d_Names_add_32 rfl ?_
      refine gw_getI C 1 d_Names_add_33 k_o_0 (by decide) i_Names rfl rfl (by decide) qw_109 rfl rfl ?_
      refine gw_iconst C (1 : Int32) d_Names_add_36 (by decide) ?_
      refine gw_iadd C d_Names_add_37 ?_
      obtain ⟨m38, em38, hf0⟩ := mx_lt hf0
      refine gw_putI t_Names C 1 d_Names_add_38 k_o_0 (by decide) i_Names rfl rfl (by decide) qw_109 rfl rfl t_Names_ok n_Names rfl (t_Names_ok 1 (by decide)) rfl rfl em38 ?_
      refine gw_aload_n C 0 d_Names_add_41 rfl rfl ?_
      refine gw_getI C 1 d_Names_add_42 k_o_0 (by decide) i_Names rfl rfl (by decide) qw_109 rfl rfl ?_
      refine gw_iconst C (1 : Int32) d_Names_add_45 (by decide) ?_
      refine gw_isub C d_Names_add_46 ?_
      exact en_i hN hf0 d_Names_add_47
    · replace hf0 := mx_f hc hf0
      refine gw_iconst C ((-1) : Int32) d_Names_add_19 (by decide) ?_
      exact en_i hN hf0 d_Names_add_20

/-! NameHat.Reader.isNumber(II)Z -/
abbrev b_Reader_isNumber : ByteArray := prog_6_method_5_code
def y_Reader_isNumber : MethodName := ⟨"NameHat$Reader", "isNumber", "(II)Z"⟩
abbrev rm_Reader_isNumber : Room := { frames := 1, cells := 0, slots := 0, locals := 21 }
theorem hd_Reader_isNumber : y_Reader_isNumber.cls ≠ "java/lang/invoke/MethodHandle" ∧ y_Reader_isNumber.cls ≠ "java/lang/invoke/VarHandle" ∧ (parseMethodDescriptor y_Reader_isNumber.desc).map (fun d => d.parameters.length) = some 2 := by decide +kernel
theorem d_Reader_isNumber_0 : decode b_Reader_isNumber 0 = .ok (.aload_n 0, 1) := by decide +kernel
theorem d_Reader_isNumber_1 : decode b_Reader_isNumber 1 = .ok (.getfield 12, 3) := by decide +kernel
theorem d_Reader_isNumber_4 : decode b_Reader_isNumber 4 = .ok (.getfield 49, 3) := by decide +kernel
theorem d_Reader_isNumber_7 : decode b_Reader_isNumber 7 = .ok (.iconst 2, 1) := by decide +kernel
theorem d_Reader_isNumber_8 : decode b_Reader_isNumber 8 = .ok (.if_icmp .eq 9, 3) := by decide +kernel
theorem d_Reader_isNumber_11 : decode b_Reader_isNumber 11 = .ok (.aload_n 0, 1) := by decide +kernel
theorem d_Reader_isNumber_12 : decode b_Reader_isNumber 12 = .ok (.iconst 1, 1) := by decide +kernel
theorem d_Reader_isNumber_13 : decode b_Reader_isNumber 13 = .ok (.invokevirtual 71, 3) := by decide +kernel
theorem d_Reader_isNumber_16 : decode b_Reader_isNumber 16 = .ok (.ireturn, 1) := by decide +kernel
theorem d_Reader_isNumber_17 : decode b_Reader_isNumber 17 = .ok (.aload_n 0, 1) := by decide +kernel
theorem d_Reader_isNumber_18 : decode b_Reader_isNumber 18 = .ok (.getfield 12, 3) := by decide +kernel
theorem d_Reader_isNumber_21 : decode b_Reader_isNumber 21 = .ok (.getfield 75, 3) := by decide +kernel
theorem d_Reader_isNumber_24 : decode b_Reader_isNumber 24 = .ok (.iload_n 1, 1) := by decide +kernel
theorem d_Reader_isNumber_25 : decode b_Reader_isNumber 25 = .ok (.if_icmp .lt 14, 3) := by decide +kernel
theorem d_Reader_isNumber_28 : decode b_Reader_isNumber 28 = .ok (.aload_n 0, 1) := by decide +kernel
theorem d_Reader_isNumber_29 : decode b_Reader_isNumber 29 = .ok (.getfield 12, 3) := by decide +kernel
theorem d_Reader_isNumber_32 : decode b_Reader_isNumber 32 = .ok (.getfield 75, 3) := by decide +kernel
theorem d_Reader_isNumber_35 : decode b_Reader_isNumber 35 = .ok (.iload_n 2, 1) := by decide +kernel
theorem d_Reader_isNumber_36 : decode b_Reader_isNumber 36 = .ok (.if_icmp .le 11, 3) := by decide +kernel
theorem d_Reader_isNumber_39 : decode b_Reader_isNumber 39 = .ok (.aload_n 0, 1) := by decide +kernel
theorem d_Reader_isNumber_40 : decode b_Reader_isNumber 40 = .ok (.iconst 2, 1) := by decide +kernel
theorem d_Reader_isNumber_41 : decode b_Reader_isNumber 41 = .ok (.invokevirtual 71, 3) := by decide +kernel
theorem d_Reader_isNumber_44 : decode b_Reader_isNumber 44 = .ok (.ifCond .eq 7, 3) := by decide +kernel
theorem d_Reader_isNumber_47 : decode b_Reader_isNumber 47 = .ok (.iconst 1, 1) := by decide +kernel
theorem d_Reader_isNumber_48 : decode b_Reader_isNumber 48 = .ok (.goto 4, 3) := by decide +kernel
theorem d_Reader_isNumber_51 : decode b_Reader_isNumber 51 = .ok (.iconst 0, 1) := by decide +kernel
theorem d_Reader_isNumber_52 : decode b_Reader_isNumber 52 = .ok (.ireturn, 1) := by decide +kernel
noncomputable def f_Reader_isNumber_J39 (z : Nat → Nat) (o : Nat) (m39 : Mm) : Option (Int32 × Mm) :=
  (f_Reader_fail z m39 o (2 : Int32)).bind fun q41 =>
  if q41.1 = 0 then (
    some ((0 : Int32), q41.2)
  ) else (
    some ((1 : Int32), q41.2)
  )
noncomputable def f_Reader_isNumber (z : Nat → Nat) (σ : Mm) (o : Nat) (p1 : Int32) (p2 : Int32) : Option (Int32 × Mm) :=
  if (σ.1 (o + 1) 4) = (2 : Int32) then (
    if (σ.1 (o + 1) 6) < p1 then (
      f_Reader_isNumber_J39 z o σ
    ) else (
      if (σ.1 (o + 1) 6) ≤ p2 then (
        some ((1 : Int32), σ)
      ) else (
        f_Reader_isNumber_J39 z o σ
      )
    )
  ) else (
    (f_Reader_fail z σ o (1 : Int32)).bind fun q13 =>
    (mm_zb q13.1).bind fun y16 =>
    some (y16, q13.2)
  )
set_option maxHeartbeats 4000000 in
set_option maxRecDepth 100000 in
theorem c_Reader_isNumber (l : Launch) {L : Ly} (hg : gd_ok L) {σ : Mm} {o : Nat} {p1 : Int32} {p2 : Int32} (k_o_0 : ly_k L o = 9) {res : Int32 × Mm} (hf0 : f_Reader_isNumber (ly_z L) σ o p1 p2 = some res) : CtI l y_Reader_isNumber b_Reader_isNumber 3 (some .boolean) rm_Reader_isNumber L [.ref (ly_a L o), .int p1, .int p2] σ res.1 res.2 := by
  refine ct_z hg (by decide) (Nat.le_of_ble_eq_true rfl) ?_
  intro E A Q hE C hN
  subst hE
  have k_o_1 : ly_k L (o + 1) = 8 := gd_Reader_tokens hg k_o_0
  unfold f_Reader_isNumber at hf0
  show GW E L A 3 0 0 Q σ 0 [(0, .ref (ly_a L o)), (1, .int p1), (2, .int p2)] []
  have hj39 : ∀ (m39 : Mm), f_Reader_isNumber_J39 (ly_z L) o m39 = some res → GW E L A 3 0 0 Q m39 39 [(0, .ref (ly_a L o))] [] := by
    intro m39 hf0
    unfold f_Reader_isNumber_J39 at hf0
    refine gw_aload_n C 0 d_Reader_isNumber_39 rfl rfl ?_
    refine gw_iconst C (2 : Int32) d_Reader_isNumber_40 (by decide) ?_
    obtain ⟨q41, hq41, hf0⟩ := mx_bd hf0
    refine gw_callI C (c_Reader_fail _ hg k_o_0 hq41) d_Reader_isNumber_41 1 qw_568 qw_570 qs_4 qw_2 qw_571 k_o_0 (by decide) rfl hd_Reader_fail rfl rfl (Nat.le_of_ble_eq_true rfl) ⟨rfl, rfl, Nat.le_of_ble_eq_true rfl, Nat.le_of_ble_eq_true rfl⟩ ⟨Nat.zero_le _, Nat.zero_le _⟩ ?_
    refine gw_if_eq C 51 d_Reader_isNumber_44 (by decide) (fun hc => ?_) (fun hc => ?_)
    · replace hf0 := mx_t hc hf0
      refine gw_iconst C (0 : Int32) d_Reader_isNumber_51 (by decide) ?_
      exact en_z hN (Or.inl rfl) hf0 d_Reader_isNumber_52
    · replace hf0 := mx_f hc hf0
      refine gw_iconst C (1 : Int32) d_Reader_isNumber_47 (by decide) ?_
      refine gw_goto C 52 d_Reader_isNumber_48 (by decide) ?_
      exact en_z hN (Or.inr rfl) hf0 d_Reader_isNumber_52
  refine gw_aload_n C 0 d_Reader_isNumber_0 rfl rfl ?_
  refine gw_getA C 0 d_Reader_isNumber_1 k_o_0 (by decide) i_Reader rfl rfl (by decide) qw_287 rfl rfl (o + 1) rfl ?_
  refine gw_getIN C 4 d_Reader_isNumber_4 k_o_1 (by decide) i_Tokens rfl rfl (by decide) qw_60 rfl rfl ?_
  refine gw_iconst C (2 : Int32) d_Reader_isNumber_7 (by decide) ?_
  refine gw_icmp_eq C 17 d_Reader_isNumber_8 (by decide) (fun hc => ?_) (fun hc => ?_)
  · replace hf0 := mx_t hc hf0
    refine gw_aload_n C 0 d_Reader_isNumber_17 rfl rfl ?_
    refine gw_getA C 0 d_Reader_isNumber_18 k_o_0 (by decide) i_Reader rfl rfl (by decide) qw_287 rfl rfl (o + 1) rfl ?_
    refine gw_getIN C 6 d_Reader_isNumber_21 k_o_1 (by decide) i_Tokens rfl rfl (by decide) qw_65 rfl rfl ?_
    refine gw_iload_n C 1 d_Reader_isNumber_24 rfl rfl ?_
    refine gw_icmp_lt C 39 d_Reader_isNumber_25 (by decide) (fun hc => ?_) (fun hc => ?_)
    · replace hf0 := mx_t hc hf0
      exact gw_go [0] (hj39 _ hf0) rfl
    · replace hf0 := mx_f hc hf0
      refine gw_aload_n C 0 d_Reader_isNumber_28 rfl rfl ?_
      refine gw_getA C 0 d_Reader_isNumber_29 k_o_0 (by decide) i_Reader rfl rfl (by decide) qw_287 rfl rfl (o + 1) rfl ?_
      refine gw_getIN C 6 d_Reader_isNumber_32 k_o_1 (by decide) i_Tokens rfl rfl (by decide) qw_65 rfl rfl ?_
      refine gw_iload_n C 2 d_Reader_isNumber_35 rfl rfl ?_
      refine gw_icmp_le C 47 d_Reader_isNumber_36 (by decide) (fun hc => ?_) (fun hc => ?_)
      · replace hf0 := mx_t hc hf0
        refine gw_iconst C (1 : Int32) d_Reader_isNumber_47 (by decide) ?_
        refine gw_goto C 52 d_Reader_isNumber_48 (by decide) ?_
        exact en_z hN (Or.inr rfl) hf0 d_Reader_isNumber_52
      · replace hf0 := mx_f hc hf0
        exact gw_go [0] (hj39 _ hf0) rfl
  · replace hf0 := mx_f hc hf0
    refine gw_aload_n C 0 d_Reader_isNumber_11 rfl rfl ?_
    refine gw_iconst C (1 : Int32) d_Reader_isNumber_12 (by decide) ?_
    obtain ⟨q13, hq13, hf0⟩ := mx_bd hf0
    refine gw_callI C (c_Reader_fail _ hg k_o_0 hq13) d_Reader_isNumber_13 1 qw_568 qw_570 qs_4 qw_2 qw_571 k_o_0 (by decide) rfl hd_Reader_fail rfl rfl (Nat.le_of_ble_eq_true rfl) ⟨rfl, rfl, Nat.le_of_ble_eq_true rfl, Nat.le_of_ble_eq_true rfl⟩ ⟨Nat.zero_le _, Nat.zero_le _⟩ ?_
    obtain ⟨y16, hy16, hf0⟩ := mx_bd hf0
    obtain ⟨zy16, ey16⟩ := mx_zb hy16
    refine gw_topi ey16 ?_
    exact en_z hN zy16 hf0 d_Reader_isNumber_16

/-! NameHat.Tokens.isWord(I)Z -/
abbrev b_Tokens_isWord : ByteArray := prog_11_method_7_code
def y_Tokens_isWord : MethodName := ⟨"NameHat$Tokens", "isWord", "(I)Z"⟩
abbrev rm_Tokens_isWord : Room := { frames := 0, cells := 0, slots := 0, locals := 0 }
theorem hd_Tokens_isWord : y_Tokens_isWord.cls ≠ "java/lang/invoke/MethodHandle" ∧ y_Tokens_isWord.cls ≠ "java/lang/invoke/VarHandle" ∧ (parseMethodDescriptor y_Tokens_isWord.desc).map (fun d => d.parameters.length) = some 1 := by decide +kernel
theorem d_Tokens_isWord_0 : decode b_Tokens_isWord 0 = .ok (.aload_n 0, 1) := by decide +kernel
theorem d_Tokens_isWord_1 : decode b_Tokens_isWord 1 = .ok (.getfield 46, 3) := by decide +kernel
theorem d_Tokens_isWord_4 : decode b_Tokens_isWord 4 = .ok (.iconst 1, 1) := by decide +kernel
theorem d_Tokens_isWord_5 : decode b_Tokens_isWord 5 = .ok (.if_icmp .ne 15, 3) := by decide +kernel
theorem d_Tokens_isWord_8 : decode b_Tokens_isWord 8 = .ok (.aload_n 0, 1) := by decide +kernel
theorem d_Tokens_isWord_9 : decode b_Tokens_isWord 9 = .ok (.getfield 43, 3) := by decide +kernel
theorem d_Tokens_isWord_12 : decode b_Tokens_isWord 12 = .ok (.iload_n 1, 1) := by decide +kernel
theorem d_Tokens_isWord_13 : decode b_Tokens_isWord 13 = .ok (.if_icmp .ne 7, 3) := by decide +kernel
theorem d_Tokens_isWord_16 : decode b_Tokens_isWord 16 = .ok (.iconst 1, 1) := by decide +kernel
theorem d_Tokens_isWord_17 : decode b_Tokens_isWord 17 = .ok (.goto 4, 3) := by decide +kernel
theorem d_Tokens_isWord_20 : decode b_Tokens_isWord 20 = .ok (.iconst 0, 1) := by decide +kernel
theorem d_Tokens_isWord_21 : decode b_Tokens_isWord 21 = .ok (.ireturn, 1) := by decide +kernel
noncomputable def f_Tokens_isWord (z : Nat → Nat) (σ : Mm) (o : Nat) (p1 : Int32) : Option (Int32) :=
  if (σ.1 o 4) = (1 : Int32) then (
    if (σ.1 o 8) = p1 then (
      some (1 : Int32)
    ) else (
      some (0 : Int32)
    )
  ) else (
    some (0 : Int32)
  )
set_option maxHeartbeats 4000000 in
set_option maxRecDepth 100000 in
theorem c_Tokens_isWord (l : Launch) {L : Ly} (hg : gd_ok L) {σ : Mm} {o : Nat} {p1 : Int32} (k_o_0 : ly_k L o = 8) {res : Int32} (hf0 : f_Tokens_isWord (ly_z L) σ o p1 = some res) : CtI l y_Tokens_isWord b_Tokens_isWord 2 (some .boolean) rm_Tokens_isWord L [.ref (ly_a L o), .int p1] σ res σ := by
  refine ct_z hg (by decide) (Nat.le_of_ble_eq_true rfl) ?_
  intro E A Q hE C hN
  subst hE
  unfold f_Tokens_isWord at hf0
  show GW E L A 2 0 0 Q σ 0 [(0, .ref (ly_a L o)), (1, .int p1)] []
  refine gw_aload_n C 0 d_Tokens_isWord_0 rfl rfl ?_
  refine gw_getI C 4 d_Tokens_isWord_1 k_o_0 (by decide) i_Tokens rfl rfl (by decide) qw_61 rfl rfl ?_
  refine gw_iconst C (1 : Int32) d_Tokens_isWord_4 (by decide) ?_
  refine gw_icmp_ne C 20 d_Tokens_isWord_5 (by decide) (fun hc => ?_) (fun hc => ?_)
  · replace hf0 := mx_f hc hf0
    refine gw_iconst C (0 : Int32) d_Tokens_isWord_20 (by decide) ?_
    exact en_zp hN (Or.inl rfl) hf0 d_Tokens_isWord_21
  · replace hf0 := mx_t hc hf0
    refine gw_aload_n C 0 d_Tokens_isWord_8 rfl rfl ?_
    refine gw_getI C 8 d_Tokens_isWord_9 k_o_0 (by decide) i_Tokens rfl rfl (by decide) qw_68 rfl rfl ?_
    refine gw_iload_n C 1 d_Tokens_isWord_12 rfl rfl ?_
    refine gw_icmp_ne C 20 d_Tokens_isWord_13 (by decide) (fun hc => ?_) (fun hc => ?_)
    · replace hf0 := mx_f hc hf0
      refine gw_iconst C (0 : Int32) d_Tokens_isWord_20 (by decide) ?_
      exact en_zp hN (Or.inl rfl) hf0 d_Tokens_isWord_21
    · replace hf0 := mx_t hc hf0
      refine gw_iconst C (1 : Int32) d_Tokens_isWord_16 (by decide) ?_
      refine gw_goto C 21 d_Tokens_isWord_17 (by decide) ?_
      exact en_zp hN (Or.inr rfl) hf0 d_Tokens_isWord_21

/-! NameHat.Reader.isOneOf(LNameHat.Names;)Z -/
abbrev b_Reader_isOneOf : ByteArray := prog_6_method_8_code
def y_Reader_isOneOf : MethodName := ⟨"NameHat$Reader", "isOneOf", "(LNameHat$Names;)Z"⟩
abbrev rm_Reader_isOneOf : Room := { frames := 2, cells := 0, slots := 0, locals := 41 }
theorem hd_Reader_isOneOf : y_Reader_isOneOf.cls ≠ "java/lang/invoke/MethodHandle" ∧ y_Reader_isOneOf.cls ≠ "java/lang/invoke/VarHandle" ∧ (parseMethodDescriptor y_Reader_isOneOf.desc).map (fun d => d.parameters.length) = some 1 := by decide +kernel
theorem d_Reader_isOneOf_0 : decode b_Reader_isOneOf 0 = .ok (.aload_n 0, 1) := by decide +kernel
theorem d_Reader_isOneOf_1 : decode b_Reader_isOneOf 1 = .ok (.invokevirtual 81, 3) := by decide +kernel
theorem d_Reader_isOneOf_4 : decode b_Reader_isOneOf 4 = .ok (.ifCond .ne 5, 3) := by decide +kernel
theorem d_Reader_isOneOf_7 : decode b_Reader_isOneOf 7 = .ok (.iconst 0, 1) := by decide +kernel
theorem d_Reader_isOneOf_8 : decode b_Reader_isOneOf 8 = .ok (.ireturn, 1) := by decide +kernel
theorem d_Reader_isOneOf_9 : decode b_Reader_isOneOf 9 = .ok (.aload_n 0, 1) := by decide +kernel
theorem d_Reader_isOneOf_10 : decode b_Reader_isOneOf 10 = .ok (.aload_n 1, 1) := by decide +kernel
theorem d_Reader_isOneOf_11 : decode b_Reader_isOneOf 11 = .ok (.aload_n 0, 1) := by decide +kernel
theorem d_Reader_isOneOf_12 : decode b_Reader_isOneOf 12 = .ok (.getfield 12, 3) := by decide +kernel
theorem d_Reader_isOneOf_15 : decode b_Reader_isOneOf 15 = .ok (.getfield 94, 3) := by decide +kernel
theorem d_Reader_isOneOf_18 : decode b_Reader_isOneOf 18 = .ok (.invokevirtual 98, 3) := by decide +kernel
theorem d_Reader_isOneOf_21 : decode b_Reader_isOneOf 21 = .ok (.putfield 107, 3) := by decide +kernel
theorem d_Reader_isOneOf_24 : decode b_Reader_isOneOf 24 = .ok (.aload_n 0, 1) := by decide +kernel
theorem d_Reader_isOneOf_25 : decode b_Reader_isOneOf 25 = .ok (.getfield 107, 3) := by decide +kernel
theorem d_Reader_isOneOf_28 : decode b_Reader_isOneOf 28 = .ok (.iconst (-1), 1) := by decide +kernel
theorem d_Reader_isOneOf_29 : decode b_Reader_isOneOf 29 = .ok (.if_icmp .ne 11, 3) := by decide +kernel
theorem d_Reader_isOneOf_32 : decode b_Reader_isOneOf 32 = .ok (.aload_n 0, 1) := by decide +kernel
theorem d_Reader_isOneOf_33 : decode b_Reader_isOneOf 33 = .ok (.iconst 3, 1) := by decide +kernel
theorem d_Reader_isOneOf_34 : decode b_Reader_isOneOf 34 = .ok (.invokevirtual 71, 3) := by decide +kernel
theorem d_Reader_isOneOf_37 : decode b_Reader_isOneOf 37 = .ok (.ifCond .eq 7, 3) := by decide +kernel
theorem d_Reader_isOneOf_40 : decode b_Reader_isOneOf 40 = .ok (.iconst 1, 1) := by decide +kernel
theorem d_Reader_isOneOf_41 : decode b_Reader_isOneOf 41 = .ok (.goto 4, 3) := by decide +kernel
theorem d_Reader_isOneOf_44 : decode b_Reader_isOneOf 44 = .ok (.iconst 0, 1) := by decide +kernel
theorem d_Reader_isOneOf_45 : decode b_Reader_isOneOf 45 = .ok (.ireturn, 1) := by decide +kernel
noncomputable def f_Reader_isOneOf (z : Nat → Nat) (σ : Mm) (o : Nat) (o1 : Nat) : Option (Int32 × Mm) :=
  (f_Reader_isName z σ o).bind fun q1 =>
  if q1.1 = 0 then (
    some ((0 : Int32), q1.2)
  ) else (
    (f_Names_find z q1.2 o1 (q1.2.2 (o + 1) 7)).bind fun q18 =>
    mm_lt (kI q1.2 o 5 q18) fun m21 =>
    if (m21.1 o 5) = ((-1) : Int32) then (
      (f_Reader_fail z m21 o (3 : Int32)).bind fun q34 =>
      if q34.1 = 0 then (
        some ((0 : Int32), q34.2)
      ) else (
        some ((1 : Int32), q34.2)
      )
    ) else (
      some ((1 : Int32), m21)
    )
  )
set_option maxHeartbeats 4000000 in
set_option maxRecDepth 100000 in
theorem c_Reader_isOneOf (l : Launch) {L : Ly} (hg : gd_ok L) {σ : Mm} {o : Nat} {o1 : Nat} (k_o_0 : ly_k L o = 9) (k_o1_0 : ly_k L o1 = 1) {res : Int32 × Mm} (hf0 : f_Reader_isOneOf (ly_z L) σ o o1 = some res) : CtI l y_Reader_isOneOf b_Reader_isOneOf 2 (some .boolean) rm_Reader_isOneOf L [.ref (ly_a L o), .ref (ly_a L o1)] σ res.1 res.2 := by
  refine ct_z hg (by decide) (Nat.le_of_ble_eq_true rfl) ?_
  intro E A Q hE C hN
  subst hE
  have k_o_1 : ly_k L (o + 1) = 8 := gd_Reader_tokens hg k_o_0
  unfold f_Reader_isOneOf at hf0
  show GW E L A 2 0 0 Q σ 0 [(0, .ref (ly_a L o)), (1, .ref (ly_a L o1))] []
  refine gw_aload_n C 0 d_Reader_isOneOf_0 rfl rfl ?_
  obtain ⟨q1, hq1, hf0⟩ := mx_bd hf0
  refine gw_callI C (c_Reader_isName _ hg k_o_0 hq1) d_Reader_isOneOf_1 0 qw_576 qw_578 qs_6 qw_2 qw_579 k_o_0 (by decide) rfl hd_Reader_isName rfl rfl (Nat.le_of_ble_eq_true rfl) ⟨rfl, rfl, Nat.le_of_ble_eq_true rfl, Nat.le_of_ble_eq_true rfl⟩ ⟨Nat.zero_le _, Nat.zero_le _⟩ ?_
  refine gw_if_ne C 9 d_Reader_isOneOf_4 (by decide) (fun hc => ?_) (fun hc => ?_)
  · replace hf0 := mx_f hc hf0
    refine gw_aload_n C 0 d_Reader_isOneOf_9 rfl rfl ?_
    refine gw_aload_n C 1 d_Reader_isOneOf_10 rfl rfl ?_
    refine gw_aload_n C 0 d_Reader_isOneOf_11 rfl rfl ?_
    refine gw_getA C 0 d_Reader_isOneOf_12 k_o_0 (by decide) i_Reader rfl rfl (by decide) qw_287 rfl rfl (o + 1) rfl ?_
    refine gw_getLN C 7 d_Reader_isOneOf_15 k_o_1 (by decide) i_Tokens rfl rfl (by decide) qw_67 rfl rfl ?_
    obtain ⟨q18, hq18, hf0⟩ := mx_bd hf0
    refine gw_callI C (c_Names_find _ hg k_o1_0 hq18) d_Reader_isOneOf_18 1 qw_580 qw_581 qw_582 qw_7 qw_583 k_o1_0 (by decide) rfl hd_Names_find rfl rfl (Nat.le_of_ble_eq_true rfl) ⟨rfl, rfl, Nat.le_of_ble_eq_true rfl, Nat.le_of_ble_eq_true rfl⟩ ⟨Nat.zero_le _, Nat.zero_le _⟩ ?_
    obtain ⟨m21, em21, hf0⟩ := mx_lt hf0
    refine gw_putI t_Reader C 5 d_Reader_isOneOf_21 k_o_0 (by decide) i_Reader rfl rfl (by decide) qw_297 rfl rfl t_Reader_ok n_Reader rfl (t_Reader_ok 5 (by decide)) rfl rfl em21 ?_
    refine gw_aload_n C 0 d_Reader_isOneOf_24 rfl rfl ?_
    refine gw_getI C 5 d_Reader_isOneOf_25 k_o_0 (by decide) i_Reader rfl rfl (by decide) qw_297 rfl rfl ?_
    refine gw_iconst C ((-1) : Int32) d_Reader_isOneOf_28 (by decide) ?_
    refine gw_icmp_ne C 40 d_Reader_isOneOf_29 (by decide) (fun hc => ?_) (fun hc => ?_)
    · replace hf0 := mx_f hc hf0
      refine gw_iconst C (1 : Int32) d_Reader_isOneOf_40 (by decide) ?_
      refine gw_goto C 45 d_Reader_isOneOf_41 (by decide) ?_
      exact en_z hN (Or.inr rfl) hf0 d_Reader_isOneOf_45
    · replace hf0 := mx_t hc hf0
      refine gw_aload_n C 0 d_Reader_isOneOf_32 rfl rfl ?_
      refine gw_iconst C (3 : Int32) d_Reader_isOneOf_33 (by decide) ?_
      obtain ⟨q34, hq34, hf0⟩ := mx_bd hf0
      refine gw_callI C (c_Reader_fail _ hg k_o_0 hq34) d_Reader_isOneOf_34 1 qw_568 qw_570 qs_4 qw_2 qw_571 k_o_0 (by decide) rfl hd_Reader_fail rfl rfl (Nat.le_of_ble_eq_true rfl) ⟨rfl, rfl, Nat.le_of_ble_eq_true rfl, Nat.le_of_ble_eq_true rfl⟩ ⟨Nat.zero_le _, Nat.zero_le _⟩ ?_
      refine gw_if_eq C 44 d_Reader_isOneOf_37 (by decide) (fun hc => ?_) (fun hc => ?_)
      · replace hf0 := mx_t hc hf0
        refine gw_iconst C (0 : Int32) d_Reader_isOneOf_44 (by decide) ?_
        exact en_z hN (Or.inl rfl) hf0 d_Reader_isOneOf_45
      · replace hf0 := mx_f hc hf0
        refine gw_iconst C (1 : Int32) d_Reader_isOneOf_40 (by decide) ?_
        refine gw_goto C 45 d_Reader_isOneOf_41 (by decide) ?_
        exact en_z hN (Or.inr rfl) hf0 d_Reader_isOneOf_45
  · replace hf0 := mx_t hc hf0
    refine gw_iconst C (0 : Int32) d_Reader_isOneOf_7 (by decide) ?_
    exact en_z hN (Or.inl rfl) hf0 d_Reader_isOneOf_8

/-! NameHat.Hands.holderOf(I)I -/
abbrev b_Hands_holderOf : ByteArray := prog_3_method_4_code
def y_Hands_holderOf : MethodName := ⟨"NameHat$Hands", "holderOf", "(I)I"⟩
abbrev rm_Hands_holderOf : Room := { frames := 1, cells := 0, slots := 0, locals := 21 }
theorem hd_Hands_holderOf : y_Hands_holderOf.cls ≠ "java/lang/invoke/MethodHandle" ∧ y_Hands_holderOf.cls ≠ "java/lang/invoke/VarHandle" ∧ (parseMethodDescriptor y_Hands_holderOf.desc).map (fun d => d.parameters.length) = some 1 := by decide +kernel
theorem d_Hands_holderOf_0 : decode b_Hands_holderOf 0 = .ok (.iconst 0, 1) := by decide +kernel
theorem d_Hands_holderOf_1 : decode b_Hands_holderOf 1 = .ok (.istore_n 2, 1) := by decide +kernel
theorem d_Hands_holderOf_2 : decode b_Hands_holderOf 2 = .ok (.iload_n 2, 1) := by decide +kernel
theorem d_Hands_holderOf_3 : decode b_Hands_holderOf 3 = .ok (.bipush 8, 2) := by decide +kernel
theorem d_Hands_holderOf_5 : decode b_Hands_holderOf 5 = .ok (.if_icmp .ge 28, 3) := by decide +kernel
theorem d_Hands_holderOf_8 : decode b_Hands_holderOf 8 = .ok (.iload_n 1, 1) := by decide +kernel
theorem d_Hands_holderOf_9 : decode b_Hands_holderOf 9 = .ok (.iconst (-1), 1) := by decide +kernel
theorem d_Hands_holderOf_10 : decode b_Hands_holderOf 10 = .ok (.if_icmp .eq 23, 3) := by decide +kernel
theorem d_Hands_holderOf_13 : decode b_Hands_holderOf 13 = .ok (.aload_n 0, 1) := by decide +kernel
theorem d_Hands_holderOf_14 : decode b_Hands_holderOf 14 = .ok (.getfield 14, 3) := by decide +kernel
theorem d_Hands_holderOf_17 : decode b_Hands_holderOf 17 = .ok (.iload_n 2, 1) := by decide +kernel
theorem d_Hands_holderOf_18 : decode b_Hands_holderOf 18 = .ok (.invokevirtual 36, 3) := by decide +kernel
theorem d_Hands_holderOf_21 : decode b_Hands_holderOf 21 = .ok (.iload_n 1, 1) := by decide +kernel
theorem d_Hands_holderOf_22 : decode b_Hands_holderOf 22 = .ok (.if_icmp .ne 5, 3) := by decide +kernel
theorem d_Hands_holderOf_25 : decode b_Hands_holderOf 25 = .ok (.iload_n 2, 1) := by decide +kernel
theorem d_Hands_holderOf_26 : decode b_Hands_holderOf 26 = .ok (.ireturn, 1) := by decide +kernel
theorem d_Hands_holderOf_27 : decode b_Hands_holderOf 27 = .ok (.iinc 2 1, 3) := by decide +kernel
theorem d_Hands_holderOf_30 : decode b_Hands_holderOf 30 = .ok (.goto (-28), 3) := by decide +kernel
theorem d_Hands_holderOf_33 : decode b_Hands_holderOf 33 = .ok (.iconst (-1), 1) := by decide +kernel
theorem d_Hands_holderOf_34 : decode b_Hands_holderOf 34 = .ok (.ireturn, 1) := by decide +kernel
noncomputable def f_Hands_holderOf_L2 (z : Nat → Nat) (σ : Mm) (o : Nat) (v1 : Int32) (s2 : Int32) : Option ((Int32) ⊕ ((Int32) ⊕ (Unit))) :=
  if (8 : Int32) ≤ s2 then (
    some (.inr (.inr ()))
  ) else (
    if v1 = ((-1) : Int32) then (
      some (.inr (.inr ()))
    ) else (
      (f_Row_at z σ (o + 1) s2).bind fun q18 =>
      if q18 = v1 then (
        some (.inr (.inl s2))
      ) else (
        mm_lt (s2 + (1 : Int32)) fun x27 =>
        some (.inl x27)
      )
    )
  )
noncomputable def f_Hands_holderOf (z : Nat → Nat) (σ : Mm) (o : Nat) (p1 : Int32) : Option (Int32) :=
  (mm_lp (f_Hands_holderOf_L2 z σ o p1) (0 : Int32)).bind (Sum.elim (fun r9 => some r9) (fun x2_ =>
    some ((-1) : Int32)))
set_option maxHeartbeats 4000000 in
set_option maxRecDepth 100000 in
theorem c_Hands_holderOf (l : Launch) {L : Ly} (hg : gd_ok L) {σ : Mm} {o : Nat} {p1 : Int32} (k_o_0 : ly_k L o = 3) {res : Int32} (hf0 : f_Hands_holderOf (ly_z L) σ o p1 = some res) : CtI l y_Hands_holderOf b_Hands_holderOf 3 (some .int) rm_Hands_holderOf L [.ref (ly_a L o), .int p1] σ res σ := by
  refine ct_i hg (by decide) (Nat.le_of_ble_eq_true rfl) ?_
  intro E A Q hE C hN
  subst hE
  have k_o_1 : ly_k L (o + 1) = 0 := gd_Hands_held hg k_o_0
  unfold f_Hands_holderOf at hf0
  show GW E L A 3 0 0 Q σ 0 [(0, .ref (ly_a L o)), (1, .int p1)] []
  refine gw_iconst C (0 : Int32) d_Hands_holderOf_0 (by decide) ?_
  refine gw_istore_n C [(2, .int (0 : Int32)), (0, .ref (ly_a L o)), (1, .int p1)] d_Hands_holderOf_1 rfl (by decide) rfl ?_
  obtain ⟨q2, hq2, hf0⟩ := mx_bd hf0
  have hk2 : ∀ x2_, q2 = .inr x2_ → GW E L A 3 0 0 Q σ 33 [] [] := by
    intro x2_ hx9
    subst hx9
    replace hf0 := mx_sr hf0
    refine gw_iconst C ((-1) : Int32) d_Hands_holderOf_33 (by decide) ?_
    exact en_ip hN hf0 d_Hands_holderOf_34
  refine gw_sub [1, 2, 0] (lv' := [(0, .ref (ly_a L o)), (1, .int p1), (2, .int (0 : Int32))]) rfl ?_
  refine mm_rule hq2 (P := fun (s2 : Int32) => GW E L A 3 0 0 Q σ 2 [(0, .ref (ly_a L o)), (1, .int p1), (2, .int s2)] []) ?_
  intro s2 ih2 hx2 ⟨w2, hb2⟩
  have hf1 := hb2
  unfold f_Hands_holderOf_L2 at hf1
  refine gw_iload_n C 2 d_Hands_holderOf_2 rfl rfl ?_
  refine gw_bipush C (8 : Int32) d_Hands_holderOf_3 (by decide) ?_
  refine gw_icmp_ge C 33 d_Hands_holderOf_5 (by decide) (fun hc => ?_) (fun hc => ?_)
  · replace hf1 := mx_t hc hf1
    exact gw_go [] (hk2 () (hx2 _ (hb2.trans hf1.symm)).symm) rfl
  · replace hf1 := mx_f hc hf1
    refine gw_iload_n C 1 d_Hands_holderOf_8 rfl rfl ?_
    refine gw_iconst C ((-1) : Int32) d_Hands_holderOf_9 (by decide) ?_
    refine gw_icmp_eq C 33 d_Hands_holderOf_10 (by decide) (fun hc => ?_) (fun hc => ?_)
    · replace hf1 := mx_t hc hf1
      exact gw_go [] (hk2 () (hx2 _ (hb2.trans hf1.symm)).symm) rfl
    · replace hf1 := mx_f hc hf1
      refine gw_aload_n C 0 d_Hands_holderOf_13 rfl rfl ?_
      refine gw_getA C 0 d_Hands_holderOf_14 k_o_0 (by decide) i_Hands rfl rfl (by decide) qw_186 rfl rfl (o + 1) rfl ?_
      refine gw_iload_n C 2 d_Hands_holderOf_17 rfl rfl ?_
      obtain ⟨q18, hq18, hf1⟩ := mx_bd hf1
      refine gw_callI C (c_Row_at _ hg k_o_1 hq18) d_Hands_holderOf_18 1 qw_609 qw_489 qw_490 qw_4 qw_491 k_o_1 (by decide) rfl hd_Row_at rfl rfl (Nat.le_of_ble_eq_true rfl) ⟨rfl, rfl, Nat.le_of_ble_eq_true rfl, Nat.le_of_ble_eq_true rfl⟩ ⟨Nat.zero_le _, Nat.zero_le _⟩ ?_
      refine gw_iload_n C 1 d_Hands_holderOf_21 rfl rfl ?_
      refine gw_icmp_ne C 27 d_Hands_holderOf_22 (by decide) (fun hc => ?_) (fun hc => ?_)
      · replace hf1 := mx_f hc hf1
        obtain ⟨x27, ex27, hf1⟩ := mx_lt hf1
        refine gw_iinc C 2 [(2, .int x27), (0, .ref (ly_a L o)), (1, .int p1)] d_Hands_holderOf_27 rfl (by rw [ex27]; rfl) (by decide) rfl ?_
        refine gw_goto C 2 d_Hands_holderOf_30 (by decide) ?_
        exact gw_go [1, 2, 0] (ih2 x27 (hb2.trans hf1.symm)) rfl
      · replace hf1 := mx_t hc hf1
        refine gw_iload_n C 2 d_Hands_holderOf_25 rfl rfl ?_
        have hr2 := hx2 _ (hb2.trans hf1.symm)
        subst hr2
        replace hf0 := mx_sl hf0
        exact en_ip hN hf0 d_Hands_holderOf_26

/-! NameHat.Island.wanted(II)I -/
abbrev b_Island_wanted : ByteArray := prog_4_method_4_code
def y_Island_wanted : MethodName := ⟨"NameHat$Island", "wanted", "(II)I"⟩
abbrev rm_Island_wanted : Room := { frames := 1, cells := 0, slots := 0, locals := 21 }
theorem hd_Island_wanted : y_Island_wanted.cls ≠ "java/lang/invoke/MethodHandle" ∧ y_Island_wanted.cls ≠ "java/lang/invoke/VarHandle" ∧ (parseMethodDescriptor y_Island_wanted.desc).map (fun d => d.parameters.length) = some 2 := by decide +kernel
theorem d_Island_wanted_0 : decode b_Island_wanted 0 = .ok (.aload_n 0, 1) := by decide +kernel
theorem d_Island_wanted_1 : decode b_Island_wanted 1 = .ok (.getfield 36, 3) := by decide +kernel
theorem d_Island_wanted_4 : decode b_Island_wanted 4 = .ok (.iload_n 1, 1) := by decide +kernel
theorem d_Island_wanted_5 : decode b_Island_wanted 5 = .ok (.bipush 10, 2) := by decide +kernel
theorem d_Island_wanted_7 : decode b_Island_wanted 7 = .ok (.imul, 1) := by decide +kernel
theorem d_Island_wanted_8 : decode b_Island_wanted 8 = .ok (.iload_n 2, 1) := by decide +kernel
theorem d_Island_wanted_9 : decode b_Island_wanted 9 = .ok (.iadd, 1) := by decide +kernel
theorem d_Island_wanted_10 : decode b_Island_wanted 10 = .ok (.invokevirtual 62, 3) := by decide +kernel
theorem d_Island_wanted_13 : decode b_Island_wanted 13 = .ok (.ireturn, 1) := by decide +kernel
noncomputable def f_Island_wanted (z : Nat → Nat) (σ : Mm) (o : Nat) (p1 : Int32) (p2 : Int32) : Option (Int32) :=
  (f_Row_at z σ (o + 11) ((p1 * (10 : Int32)) + p2)).bind fun q10 =>
  some q10
set_option maxHeartbeats 4000000 in
set_option maxRecDepth 100000 in
theorem c_Island_wanted (l : Launch) {L : Ly} (hg : gd_ok L) {σ : Mm} {o : Nat} {p1 : Int32} {p2 : Int32} (k_o_0 : ly_k L o = 2) {res : Int32} (hf0 : f_Island_wanted (ly_z L) σ o p1 p2 = some res) : CtI l y_Island_wanted b_Island_wanted 3 (some .int) rm_Island_wanted L [.ref (ly_a L o), .int p1, .int p2] σ res σ := by
  refine ct_i hg (by decide) (Nat.le_of_ble_eq_true rfl) ?_
  intro E A Q hE C hN
  subst hE
  have k_o_11 : ly_k L (o + 11) = 0 := gd_Island_wants hg k_o_0
  unfold f_Island_wanted at hf0
  show GW E L A 3 0 0 Q σ 0 [(0, .ref (ly_a L o)), (1, .int p1), (2, .int p2)] []
  refine gw_aload_n C 0 d_Island_wanted_0 rfl rfl ?_
  refine gw_getA C 5 d_Island_wanted_1 k_o_0 (by decide) i_Island rfl rfl (by decide) qw_146 rfl rfl (o + 11) rfl ?_
  refine gw_iload_n C 1 d_Island_wanted_4 rfl rfl ?_
  refine gw_bipush C (10 : Int32) d_Island_wanted_5 (by decide) ?_
  refine gw_imul C d_Island_wanted_7 ?_
  refine gw_iload_n C 2 d_Island_wanted_8 rfl rfl ?_
  refine gw_iadd C d_Island_wanted_9 ?_
  obtain ⟨q10, hq10, hf0⟩ := mx_bd hf0
  refine gw_callI C (c_Row_at _ hg k_o_11 hq10) d_Island_wanted_10 1 qw_618 qw_489 qw_490 qw_4 qw_491 k_o_11 (by decide) rfl hd_Row_at rfl rfl (Nat.le_of_ble_eq_true rfl) ⟨rfl, rfl, Nat.le_of_ble_eq_true rfl, Nat.le_of_ble_eq_true rfl⟩ ⟨Nat.zero_le _, Nat.zero_le _⟩ ?_
  exact en_ip hN hf0 d_Island_wanted_13

/-! NameHat.Island.want(III)V -/
abbrev b_Island_want : ByteArray := prog_4_method_5_code
def y_Island_want : MethodName := ⟨"NameHat$Island", "want", "(III)V"⟩
abbrev rm_Island_want : Room := { frames := 1, cells := 0, slots := 0, locals := 22 }
theorem hd_Island_want : y_Island_want.cls ≠ "java/lang/invoke/MethodHandle" ∧ y_Island_want.cls ≠ "java/lang/invoke/VarHandle" ∧ (parseMethodDescriptor y_Island_want.desc).map (fun d => d.parameters.length) = some 3 := by decide +kernel
theorem d_Island_want_0 : decode b_Island_want 0 = .ok (.aload_n 0, 1) := by decide +kernel
theorem d_Island_want_1 : decode b_Island_want 1 = .ok (.getfield 36, 3) := by decide +kernel
theorem d_Island_want_4 : decode b_Island_want 4 = .ok (.iload_n 1, 1) := by decide +kernel
theorem d_Island_want_5 : decode b_Island_want 5 = .ok (.bipush 10, 2) := by decide +kernel
theorem d_Island_want_7 : decode b_Island_want 7 = .ok (.imul, 1) := by decide +kernel
theorem d_Island_want_8 : decode b_Island_want 8 = .ok (.iload_n 2, 1) := by decide +kernel
theorem d_Island_want_9 : decode b_Island_want 9 = .ok (.iadd, 1) := by decide +kernel
theorem d_Island_want_10 : decode b_Island_want 10 = .ok (.iload_n 3, 1) := by decide +kernel
theorem d_Island_want_11 : decode b_Island_want 11 = .ok (.invokevirtual 66, 3) := by decide +kernel
theorem d_Island_want_14 : decode b_Island_want 14 = .ok (.return_, 1) := by decide +kernel
noncomputable def f_Island_want (z : Nat → Nat) (σ : Mm) (o : Nat) (p1 : Int32) (p2 : Int32) (p3 : Int32) : Option (Mm) :=
  (f_Row_put z σ (o + 11) ((p1 * (10 : Int32)) + p2) p3).bind fun q11 =>
  some q11
set_option maxHeartbeats 4000000 in
set_option maxRecDepth 100000 in
theorem c_Island_want (l : Launch) {L : Ly} (hg : gd_ok L) {σ : Mm} {o : Nat} {p1 : Int32} {p2 : Int32} {p3 : Int32} (k_o_0 : ly_k L o = 2) {res : Mm} (hf0 : f_Island_want (ly_z L) σ o p1 p2 p3 = some res) : CtV l y_Island_want b_Island_want 4 (none) rm_Island_want L [.ref (ly_a L o), .int p1, .int p2, .int p3] σ res := by
  refine ct_v hg (by decide) (Nat.le_of_ble_eq_true rfl) ?_
  intro E A Q hE C hN
  subst hE
  have k_o_11 : ly_k L (o + 11) = 0 := gd_Island_wants hg k_o_0
  unfold f_Island_want at hf0
  show GW E L A 4 0 0 Q σ 0 [(0, .ref (ly_a L o)), (1, .int p1), (2, .int p2), (3, .int p3)] []
  refine gw_aload_n C 0 d_Island_want_0 rfl rfl ?_
  refine gw_getA C 5 d_Island_want_1 k_o_0 (by decide) i_Island rfl rfl (by decide) qw_146 rfl rfl (o + 11) rfl ?_
  refine gw_iload_n C 1 d_Island_want_4 rfl rfl ?_
  refine gw_bipush C (10 : Int32) d_Island_want_5 (by decide) ?_
  refine gw_imul C d_Island_want_7 ?_
  refine gw_iload_n C 2 d_Island_want_8 rfl rfl ?_
  refine gw_iadd C d_Island_want_9 ?_
  refine gw_iload_n C 3 d_Island_want_10 rfl rfl ?_
  obtain ⟨q11, hq11, hf0⟩ := mx_bd hf0
  refine gw_callV C (c_Row_put _ hg k_o_11 hq11) d_Island_want_11 2 qw_623 qw_461 qw_462 qw_4 qw_463 k_o_11 (by decide) rfl hd_Row_put rfl rfl (Nat.le_of_ble_eq_true rfl) ⟨rfl, rfl, Nat.le_of_ble_eq_true rfl, Nat.le_of_ble_eq_true rfl⟩ ⟨Nat.zero_le _, Nat.zero_le _⟩ ?_
  exact en_v hN hf0 d_Island_want_14

/-! NameHat.Island.feud(II)Z -/
abbrev b_Island_feud : ByteArray := prog_4_method_9_code
def y_Island_feud : MethodName := ⟨"NameHat$Island", "feud", "(II)Z"⟩
abbrev rm_Island_feud : Room := { frames := 1, cells := 0, slots := 0, locals := 21 }
theorem hd_Island_feud : y_Island_feud.cls ≠ "java/lang/invoke/MethodHandle" ∧ y_Island_feud.cls ≠ "java/lang/invoke/VarHandle" ∧ (parseMethodDescriptor y_Island_feud.desc).map (fun d => d.parameters.length) = some 2 := by decide +kernel
theorem d_Island_feud_0 : decode b_Island_feud 0 = .ok (.iload_n 1, 1) := by decide +kernel
theorem d_Island_feud_1 : decode b_Island_feud 1 = .ok (.iconst (-1), 1) := by decide +kernel
theorem d_Island_feud_2 : decode b_Island_feud 2 = .ok (.if_icmp .eq 28, 3) := by decide +kernel
theorem d_Island_feud_5 : decode b_Island_feud 5 = .ok (.iload_n 2, 1) := by decide +kernel
theorem d_Island_feud_6 : decode b_Island_feud 6 = .ok (.iconst (-1), 1) := by decide +kernel
theorem d_Island_feud_7 : decode b_Island_feud 7 = .ok (.if_icmp .eq 23, 3) := by decide +kernel
theorem d_Island_feud_10 : decode b_Island_feud 10 = .ok (.aload_n 0, 1) := by decide +kernel
theorem d_Island_feud_11 : decode b_Island_feud 11 = .ok (.getfield 33, 3) := by decide +kernel
theorem d_Island_feud_14 : decode b_Island_feud 14 = .ok (.iload_n 1, 1) := by decide +kernel
theorem d_Island_feud_15 : decode b_Island_feud 15 = .ok (.invokevirtual 62, 3) := by decide +kernel
theorem d_Island_feud_18 : decode b_Island_feud 18 = .ok (.iload_n 2, 1) := by decide +kernel
theorem d_Island_feud_19 : decode b_Island_feud 19 = .ok (.ishr, 1) := by decide +kernel
theorem d_Island_feud_20 : decode b_Island_feud 20 = .ok (.iconst 1, 1) := by decide +kernel
theorem d_Island_feud_21 : decode b_Island_feud 21 = .ok (.iand, 1) := by decide +kernel
theorem d_Island_feud_22 : decode b_Island_feud 22 = .ok (.iconst 1, 1) := by decide +kernel
theorem d_Island_feud_23 : decode b_Island_feud 23 = .ok (.if_icmp .ne 7, 3) := by decide +kernel
theorem d_Island_feud_26 : decode b_Island_feud 26 = .ok (.iconst 1, 1) := by decide +kernel
theorem d_Island_feud_27 : decode b_Island_feud 27 = .ok (.goto 4, 3) := by decide +kernel
theorem d_Island_feud_30 : decode b_Island_feud 30 = .ok (.iconst 0, 1) := by decide +kernel
theorem d_Island_feud_31 : decode b_Island_feud 31 = .ok (.ireturn, 1) := by decide +kernel
noncomputable def f_Island_feud (z : Nat → Nat) (σ : Mm) (o : Nat) (p1 : Int32) (p2 : Int32) : Option (Int32) :=
  if p1 = ((-1) : Int32) then (
    some (0 : Int32)
  ) else (
    if p2 = ((-1) : Int32) then (
      some (0 : Int32)
    ) else (
      (f_Row_at z σ (o + 9) p1).bind fun q15 =>
      if ((q15 >>> (p2 &&& 31)) &&& (1 : Int32)) = (1 : Int32) then (
        some (1 : Int32)
      ) else (
        some (0 : Int32)
      )
    )
  )
set_option maxHeartbeats 4000000 in
set_option maxRecDepth 100000 in
theorem c_Island_feud (l : Launch) {L : Ly} (hg : gd_ok L) {σ : Mm} {o : Nat} {p1 : Int32} {p2 : Int32} (k_o_0 : ly_k L o = 2) {res : Int32} (hf0 : f_Island_feud (ly_z L) σ o p1 p2 = some res) : CtI l y_Island_feud b_Island_feud 3 (some .boolean) rm_Island_feud L [.ref (ly_a L o), .int p1, .int p2] σ res σ := by
  refine ct_z hg (by decide) (Nat.le_of_ble_eq_true rfl) ?_
  intro E A Q hE C hN
  subst hE
  have k_o_9 : ly_k L (o + 9) = 0 := gd_Island_feuds hg k_o_0
  unfold f_Island_feud at hf0
  show GW E L A 3 0 0 Q σ 0 [(0, .ref (ly_a L o)), (1, .int p1), (2, .int p2)] []
  refine gw_iload_n C 1 d_Island_feud_0 rfl rfl ?_
  refine gw_iconst C ((-1) : Int32) d_Island_feud_1 (by decide) ?_
  refine gw_icmp_eq C 30 d_Island_feud_2 (by decide) (fun hc => ?_) (fun hc => ?_)
  · replace hf0 := mx_t hc hf0
    refine gw_iconst C (0 : Int32) d_Island_feud_30 (by decide) ?_
    exact en_zp hN (Or.inl rfl) hf0 d_Island_feud_31
  · replace hf0 := mx_f hc hf0
    refine gw_iload_n C 2 d_Island_feud_5 rfl rfl ?_
    refine gw_iconst C ((-1) : Int32) d_Island_feud_6 (by decide) ?_
    refine gw_icmp_eq C 30 d_Island_feud_7 (by decide) (fun hc => ?_) (fun hc => ?_)
    · replace hf0 := mx_t hc hf0
      refine gw_iconst C (0 : Int32) d_Island_feud_30 (by decide) ?_
      exact en_zp hN (Or.inl rfl) hf0 d_Island_feud_31
    · replace hf0 := mx_f hc hf0
      refine gw_aload_n C 0 d_Island_feud_10 rfl rfl ?_
      refine gw_getA C 4 d_Island_feud_11 k_o_0 (by decide) i_Island rfl rfl (by decide) qw_144 rfl rfl (o + 9) rfl ?_
      refine gw_iload_n C 1 d_Island_feud_14 rfl rfl ?_
      obtain ⟨q15, hq15, hf0⟩ := mx_bd hf0
      refine gw_callI C (c_Row_at _ hg k_o_9 hq15) d_Island_feud_15 1 qw_618 qw_489 qw_490 qw_4 qw_491 k_o_9 (by decide) rfl hd_Row_at rfl rfl (Nat.le_of_ble_eq_true rfl) ⟨rfl, rfl, Nat.le_of_ble_eq_true rfl, Nat.le_of_ble_eq_true rfl⟩ ⟨Nat.zero_le _, Nat.zero_le _⟩ ?_
      refine gw_iload_n C 2 d_Island_feud_18 rfl rfl ?_
      refine gw_ishr C d_Island_feud_19 ?_
      refine gw_iconst C (1 : Int32) d_Island_feud_20 (by decide) ?_
      refine gw_iand C d_Island_feud_21 ?_
      refine gw_iconst C (1 : Int32) d_Island_feud_22 (by decide) ?_
      refine gw_icmp_ne C 30 d_Island_feud_23 (by decide) (fun hc => ?_) (fun hc => ?_)
      · replace hf0 := mx_f hc hf0
        refine gw_iconst C (0 : Int32) d_Island_feud_30 (by decide) ?_
        exact en_zp hN (Or.inl rfl) hf0 d_Island_feud_31
      · replace hf0 := mx_t hc hf0
        refine gw_iconst C (1 : Int32) d_Island_feud_26 (by decide) ?_
        refine gw_goto C 31 d_Island_feud_27 (by decide) ?_
        exact en_zp hN (Or.inr rfl) hf0 d_Island_feud_31

/-! NameHat.Island.startFeud(II)V -/
abbrev b_Island_startFeud : ByteArray := prog_4_method_10_code
def y_Island_startFeud : MethodName := ⟨"NameHat$Island", "startFeud", "(II)V"⟩
abbrev rm_Island_startFeud : Room := { frames := 1, cells := 0, slots := 0, locals := 22 }
theorem hd_Island_startFeud : y_Island_startFeud.cls ≠ "java/lang/invoke/MethodHandle" ∧ y_Island_startFeud.cls ≠ "java/lang/invoke/VarHandle" ∧ (parseMethodDescriptor y_Island_startFeud.desc).map (fun d => d.parameters.length) = some 2 := by decide +kernel
theorem d_Island_startFeud_0 : decode b_Island_startFeud 0 = .ok (.aload_n 0, 1) := by decide +kernel
theorem d_Island_startFeud_1 : decode b_Island_startFeud 1 = .ok (.getfield 33, 3) := by decide +kernel
theorem d_Island_startFeud_4 : decode b_Island_startFeud 4 = .ok (.iload_n 1, 1) := by decide +kernel
theorem d_Island_startFeud_5 : decode b_Island_startFeud 5 = .ok (.aload_n 0, 1) := by decide +kernel
theorem d_Island_startFeud_6 : decode b_Island_startFeud 6 = .ok (.getfield 33, 3) := by decide +kernel
theorem d_Island_startFeud_9 : decode b_Island_startFeud 9 = .ok (.iload_n 1, 1) := by decide +kernel
theorem d_Island_startFeud_10 : decode b_Island_startFeud 10 = .ok (.invokevirtual 62, 3) := by decide +kernel
theorem d_Island_startFeud_13 : decode b_Island_startFeud 13 = .ok (.iconst 1, 1) := by decide +kernel
theorem d_Island_startFeud_14 : decode b_Island_startFeud 14 = .ok (.iload_n 2, 1) := by decide +kernel
theorem d_Island_startFeud_15 : decode b_Island_startFeud 15 = .ok (.ishl, 1) := by decide +kernel
theorem d_Island_startFeud_16 : decode b_Island_startFeud 16 = .ok (.ior, 1) := by decide +kernel
theorem d_Island_startFeud_17 : decode b_Island_startFeud 17 = .ok (.invokevirtual 66, 3) := by decide +kernel
theorem d_Island_startFeud_20 : decode b_Island_startFeud 20 = .ok (.aload_n 0, 1) := by decide +kernel
theorem d_Island_startFeud_21 : decode b_Island_startFeud 21 = .ok (.getfield 33, 3) := by decide +kernel
theorem d_Island_startFeud_24 : decode b_Island_startFeud 24 = .ok (.iload_n 2, 1) := by decide +kernel
theorem d_Island_startFeud_25 : decode b_Island_startFeud 25 = .ok (.aload_n 0, 1) := by decide +kernel
theorem d_Island_startFeud_26 : decode b_Island_startFeud 26 = .ok (.getfield 33, 3) := by decide +kernel
theorem d_Island_startFeud_29 : decode b_Island_startFeud 29 = .ok (.iload_n 2, 1) := by decide +kernel
theorem d_Island_startFeud_30 : decode b_Island_startFeud 30 = .ok (.invokevirtual 62, 3) := by decide +kernel
theorem d_Island_startFeud_33 : decode b_Island_startFeud 33 = .ok (.iconst 1, 1) := by decide +kernel
theorem d_Island_startFeud_34 : decode b_Island_startFeud 34 = .ok (.iload_n 1, 1) := by decide +kernel
theorem d_Island_startFeud_35 : decode b_Island_startFeud 35 = .ok (.ishl, 1) := by decide +kernel
theorem d_Island_startFeud_36 : decode b_Island_startFeud 36 = .ok (.ior, 1) := by decide +kernel
theorem d_Island_startFeud_37 : decode b_Island_startFeud 37 = .ok (.invokevirtual 66, 3) := by decide +kernel
theorem d_Island_startFeud_40 : decode b_Island_startFeud 40 = .ok (.return_, 1) := by decide +kernel
noncomputable def f_Island_startFeud (z : Nat → Nat) (σ : Mm) (o : Nat) (p1 : Int32) (p2 : Int32) : Option (Mm) :=
  (f_Row_at z σ (o + 9) p1).bind fun q10 =>
  (f_Row_put z σ (o + 9) p1 (q10 ||| ((1 : Int32) <<< (p2 &&& 31)))).bind fun q17 =>
  (f_Row_at z q17 (o + 9) p2).bind fun q30 =>
  (f_Row_put z q17 (o + 9) p2 (q30 ||| ((1 : Int32) <<< (p1 &&& 31)))).bind fun q37 =>
  some q37
set_option maxHeartbeats 4000000 in
set_option maxRecDepth 100000 in
theorem c_Island_startFeud (l : Launch) {L : Ly} (hg : gd_ok L) {σ : Mm} {o : Nat} {p1 : Int32} {p2 : Int32} (k_o_0 : ly_k L o = 2) {res : Mm} (hf0 : f_Island_startFeud (ly_z L) σ o p1 p2 = some res) : CtV l y_Island_startFeud b_Island_startFeud 3 (none) rm_Island_startFeud L [.ref (ly_a L o), .int p1, .int p2] σ res := by
  refine ct_v hg (by decide) (Nat.le_of_ble_eq_true rfl) ?_
  intro E A Q hE C hN
  subst hE
  have k_o_9 : ly_k L (o + 9) = 0 := gd_Island_feuds hg k_o_0
  unfold f_Island_startFeud at hf0
  show GW E L A 3 0 0 Q σ 0 [(0, .ref (ly_a L o)), (1, .int p1), (2, .int p2)] []
  refine gw_aload_n C 0 d_Island_startFeud_0 rfl rfl ?_
  refine gw_getA C 4 d_Island_startFeud_1 k_o_0 (by decide) i_Island rfl rfl (by decide) qw_144 rfl rfl (o + 9) rfl ?_
  refine gw_iload_n C 1 d_Island_startFeud_4 rfl rfl ?_
  refine gw_aload_n C 0 d_Island_startFeud_5 rfl rfl ?_
  refine gw_getA C 4 d_Island_startFeud_6 k_o_0 (by decide) i_Island rfl rfl (by decide) qw_144 rfl rfl (o + 9) rfl ?_
  refine gw_iload_n C 1 d_Island_startFeud_9 rfl rfl ?_
  obtain ⟨q10, hq10, hf0⟩ := mx_bd hf0
  refine gw_callI C (c_Row_at _ hg k_o_9 hq10) d_Island_startFeud_10 1 qw_618 qw_489 qw_490 qw_4 qw_491 k_o_9 (by decide) rfl hd_Row_at rfl rfl (Nat.le_of_ble_eq_true rfl) ⟨rfl, rfl, Nat.le_of_ble_eq_true rfl, Nat.le_of_ble_eq_true rfl⟩ ⟨Nat.zero_le _, Nat.zero_le _⟩ ?_
  refine gw_iconst C (1 : Int32) d_Island_startFeud_13 (by decide) ?_
  refine gw_iload_n C 2 d_Island_startFeud_14 rfl rfl ?_
  refine gw_ishl C d_Island_startFeud_15 ?_
  refine gw_ior C d_Island_startFeud_16 ?_
  obtain ⟨q17, hq17, hf0⟩ := mx_bd hf0
  refine gw_callV C (c_Row_put _ hg k_o_9 hq17) d_Island_startFeud_17 2 qw_623 qw_461 qw_462 qw_4 qw_463 k_o_9 (by decide) rfl hd_Row_put rfl rfl (Nat.le_of_ble_eq_true rfl) ⟨rfl, rfl, Nat.le_of_ble_eq_true rfl, Nat.le_of_ble_eq_true rfl⟩ ⟨Nat.zero_le _, Nat.zero_le _⟩ ?_
  refine gw_aload_n C 0 d_Island_startFeud_20 rfl rfl ?_
  refine gw_getA C 4 d_Island_startFeud_21 k_o_0 (by decide) i_Island rfl rfl (by decide) qw_144 rfl rfl (o + 9) rfl ?_
  refine gw_iload_n C 2 d_Island_startFeud_24 rfl rfl ?_
  refine gw_aload_n C 0 d_Island_startFeud_25 rfl rfl ?_
  refine gw_getA C 4 d_Island_startFeud_26 k_o_0 (by decide) i_Island rfl rfl (by decide) qw_144 rfl rfl (o + 9) rfl ?_
  refine gw_iload_n C 2 d_Island_startFeud_29 rfl rfl ?_
  obtain ⟨q30, hq30, hf0⟩ := mx_bd hf0
  refine gw_callI C (c_Row_at _ hg k_o_9 hq30) d_Island_startFeud_30 1 qw_618 qw_489 qw_490 qw_4 qw_491 k_o_9 (by decide) rfl hd_Row_at rfl rfl (Nat.le_of_ble_eq_true rfl) ⟨rfl, rfl, Nat.le_of_ble_eq_true rfl, Nat.le_of_ble_eq_true rfl⟩ ⟨Nat.zero_le _, Nat.zero_le _⟩ ?_
  refine gw_iconst C (1 : Int32) d_Island_startFeud_33 (by decide) ?_
  refine gw_iload_n C 1 d_Island_startFeud_34 rfl rfl ?_
  refine gw_ishl C d_Island_startFeud_35 ?_
  refine gw_ior C d_Island_startFeud_36 ?_
  obtain ⟨q37, hq37, hf0⟩ := mx_bd hf0
  refine gw_callV C (c_Row_put _ hg k_o_9 hq37) d_Island_startFeud_37 2 qw_623 qw_461 qw_462 qw_4 qw_463 k_o_9 (by decide) rfl hd_Row_put rfl rfl (Nat.le_of_ble_eq_true rfl) ⟨rfl, rfl, Nat.le_of_ble_eq_true rfl, Nat.le_of_ble_eq_true rfl⟩ ⟨Nat.zero_le _, Nat.zero_le _⟩ ?_
  exact en_v hN hf0 d_Island_startFeud_40

/-! NameHat.Reader.isSecond(I)Z -/
abbrev b_Reader_isSecond : ByteArray := prog_6_method_19_code
def y_Reader_isSecond : MethodName := ⟨"NameHat$Reader", "isSecond", "(I)Z"⟩
abbrev rm_Reader_isSecond : Room := { frames := 3, cells := 0, slots := 0, locals := 62 }
theorem hd_Reader_isSecond : y_Reader_isSecond.cls ≠ "java/lang/invoke/MethodHandle" ∧ y_Reader_isSecond.cls ≠ "java/lang/invoke/VarHandle" ∧ (parseMethodDescriptor y_Reader_isSecond.desc).map (fun d => d.parameters.length) = some 1 := by decide +kernel
theorem d_Reader_isSecond_0 : decode b_Reader_isSecond 0 = .ok (.iload_n 1, 1) := by decide +kernel
theorem d_Reader_isSecond_1 : decode b_Reader_isSecond 1 = .ok (.bipush 8, 2) := by decide +kernel
theorem d_Reader_isSecond_3 : decode b_Reader_isSecond 3 = .ok (.if_icmp .ne 21, 3) := by decide +kernel
theorem d_Reader_isSecond_6 : decode b_Reader_isSecond 6 = .ok (.aload_n 0, 1) := by decide +kernel
theorem d_Reader_isSecond_7 : decode b_Reader_isSecond 7 = .ok (.iconst 0, 1) := by decide +kernel
theorem d_Reader_isSecond_8 : decode b_Reader_isSecond 8 = .ok (.aload_n 0, 1) := by decide +kernel
theorem d_Reader_isSecond_9 : decode b_Reader_isSecond 9 = .ok (.getfield 21, 3) := by decide +kernel
theorem d_Reader_isSecond_12 : decode b_Reader_isSecond 12 = .ok (.getfield 84, 3) := by decide +kernel
theorem d_Reader_isSecond_15 : decode b_Reader_isSecond 15 = .ok (.getfield 192, 3) := by decide +kernel
theorem d_Reader_isSecond_18 : decode b_Reader_isSecond 18 = .ok (.iconst 1, 1) := by decide +kernel
theorem d_Reader_isSecond_19 : decode b_Reader_isSecond 19 = .ok (.isub, 1) := by decide +kernel
theorem d_Reader_isSecond_20 : decode b_Reader_isSecond 20 = .ok (.invokevirtual 140, 3) := by decide +kernel
theorem d_Reader_isSecond_23 : decode b_Reader_isSecond 23 = .ok (.ireturn, 1) := by decide +kernel
theorem d_Reader_isSecond_24 : decode b_Reader_isSecond 24 = .ok (.aload_n 0, 1) := by decide +kernel
theorem d_Reader_isSecond_25 : decode b_Reader_isSecond 25 = .ok (.iload_n 1, 1) := by decide +kernel
theorem d_Reader_isSecond_26 : decode b_Reader_isSecond 26 = .ok (.bipush 15, 2) := by decide +kernel
theorem d_Reader_isSecond_28 : decode b_Reader_isSecond 28 = .ok (.if_icmp .ne 16, 3) := by decide +kernel
theorem d_Reader_isSecond_31 : decode b_Reader_isSecond 31 = .ok (.aload_n 0, 1) := by decide +kernel
theorem d_Reader_isSecond_32 : decode b_Reader_isSecond 32 = .ok (.getfield 21, 3) := by decide +kernel
theorem d_Reader_isSecond_35 : decode b_Reader_isSecond 35 = .ok (.getfield 84, 3) := by decide +kernel
theorem d_Reader_isSecond_38 : decode b_Reader_isSecond 38 = .ok (.getfield 88, 3) := by decide +kernel
theorem d_Reader_isSecond_41 : decode b_Reader_isSecond 41 = .ok (.goto 13, 3) := by decide +kernel
theorem d_Reader_isSecond_44 : decode b_Reader_isSecond 44 = .ok (.aload_n 0, 1) := by decide +kernel
theorem d_Reader_isSecond_45 : decode b_Reader_isSecond 45 = .ok (.getfield 21, 3) := by decide +kernel
theorem d_Reader_isSecond_48 : decode b_Reader_isSecond 48 = .ok (.getfield 84, 3) := by decide +kernel
theorem d_Reader_isSecond_51 : decode b_Reader_isSecond 51 = .ok (.getfield 104, 3) := by decide +kernel
theorem d_Reader_isSecond_54 : decode b_Reader_isSecond 54 = .ok (.invokevirtual 161, 3) := by decide +kernel
theorem d_Reader_isSecond_57 : decode b_Reader_isSecond 57 = .ok (.ireturn, 1) := by decide +kernel
noncomputable def f_Reader_isSecond (z : Nat → Nat) (σ : Mm) (o : Nat) (p1 : Int32) : Option (Int32 × Mm) :=
  if p1 = (8 : Int32) then (
    (f_Reader_isNumber z σ o (0 : Int32) ((σ.1 (o + 5) 6) - (1 : Int32))).bind fun q20 =>
    (mm_zb q20.1).bind fun y23 =>
    some (y23, q20.2)
  ) else (
    if p1 = (15 : Int32) then (
      (f_Reader_isOneOf z σ o (o + 6)).bind fun q54 =>
      (mm_zb q54.1).bind fun y57 =>
      some (y57, q54.2)
    ) else (
      (f_Reader_isOneOf z σ o (o + 8)).bind fun q54 =>
      (mm_zb q54.1).bind fun y57 =>
      some (y57, q54.2)
    )
  )
set_option maxHeartbeats 4000000 in
set_option maxRecDepth 100000 in
theorem c_Reader_isSecond (l : Launch) {L : Ly} (hg : gd_ok L) {σ : Mm} {o : Nat} {p1 : Int32} (k_o_0 : ly_k L o = 9) {res : Int32 × Mm} (hf0 : f_Reader_isSecond (ly_z L) σ o p1 = some res) : CtI l y_Reader_isSecond b_Reader_isSecond 2 (some .boolean) rm_Reader_isSecond L [.ref (ly_a L o), .int p1] σ res.1 res.2 := by
  refine ct_z hg (by decide) (Nat.le_of_ble_eq_true rfl) ?_
  intro E A Q hE C hN
  subst hE
  have k_o_4 : ly_k L (o + 4) = 4 := gd_Reader_draft hg k_o_0
  have k_o_5 : ly_k L (o + 5) = 2 := gd_State_island hg k_o_4
  have k_o_8 : ly_k L (o + 8) = 1 := gd_Island_houses hg k_o_5
  have k_o_6 : ly_k L (o + 6) = 1 := gd_Island_surnames hg k_o_5
  unfold f_Reader_isSecond at hf0
  show GW E L A 2 0 0 Q σ 0 [(0, .ref (ly_a L o)), (1, .int p1)] []
  refine gw_iload_n C 1 d_Reader_isSecond_0 rfl rfl ?_
  refine gw_bipush C (8 : Int32) d_Reader_isSecond_1 (by decide) ?_
  refine gw_icmp_ne C 24 d_Reader_isSecond_3 (by decide) (fun hc => ?_) (fun hc => ?_)
  · replace hf0 := mx_f hc hf0
    refine gw_aload_n C 0 d_Reader_isSecond_24 rfl rfl ?_
    refine gw_iload_n C 1 d_Reader_isSecond_25 rfl rfl ?_
    refine gw_bipush C (15 : Int32) d_Reader_isSecond_26 (by decide) ?_
    refine gw_icmp_ne C 44 d_Reader_isSecond_28 (by decide) (fun hc => ?_) (fun hc => ?_)
    · replace hf0 := mx_f hc hf0
      refine gw_aload_n C 0 d_Reader_isSecond_44 rfl rfl ?_
      refine gw_getA C 1 d_Reader_isSecond_45 k_o_0 (by decide) i_Reader rfl rfl (by decide) qw_289 rfl rfl (o + 4) rfl ?_
      refine gw_getAN C 0 d_Reader_isSecond_48 k_o_4 (by decide) i_State rfl rfl (by decide) qw_236 rfl rfl (o + 5) rfl ?_
      refine gw_getAN C 1 d_Reader_isSecond_51 k_o_5 (by decide) i_Island rfl rfl (by decide) qw_135 rfl rfl (o + 8) rfl ?_
      obtain ⟨q54, hq54, hf0⟩ := mx_bd hf0
      refine gw_callI C (c_Reader_isOneOf _ hg k_o_0 k_o_8 hq54) d_Reader_isSecond_54 1 qw_601 qw_603 qs_9 qw_2 qw_604 k_o_0 (by decide) rfl hd_Reader_isOneOf rfl rfl (Nat.le_of_ble_eq_true rfl) ⟨rfl, rfl, Nat.le_of_ble_eq_true rfl, Nat.le_of_ble_eq_true rfl⟩ ⟨Nat.zero_le _, Nat.zero_le _⟩ ?_
      obtain ⟨y57, hy57, hf0⟩ := mx_bd hf0
      obtain ⟨zy57, ey57⟩ := mx_zb hy57
      refine gw_topi ey57 ?_
      exact en_z hN zy57 hf0 d_Reader_isSecond_57
    · replace hf0 := mx_t hc hf0
      refine gw_aload_n C 0 d_Reader_isSecond_31 rfl rfl ?_
      refine gw_getA C 1 d_Reader_isSecond_32 k_o_0 (by decide) i_Reader rfl rfl (by decide) qw_289 rfl rfl (o + 4) rfl ?_
      refine gw_getAN C 0 d_Reader_isSecond_35 k_o_4 (by decide) i_State rfl rfl (by decide) qw_236 rfl rfl (o + 5) rfl ?_
      refine gw_getAN C 0 d_Reader_isSecond_38 k_o_5 (by decide) i_Island rfl rfl (by decide) qw_127 rfl rfl (o + 6) rfl ?_
      refine gw_goto C 54 d_Reader_isSecond_41 (by decide) ?_
      obtain ⟨q54, hq54, hf0⟩ := mx_bd hf0
      refine gw_callI C (c_Reader_isOneOf _ hg k_o_0 k_o_6 hq54) d_Reader_isSecond_54 1 qw_601 qw_603 qs_9 qw_2 qw_604 k_o_0 (by decide) rfl hd_Reader_isOneOf rfl rfl (Nat.le_of_ble_eq_true rfl) ⟨rfl, rfl, Nat.le_of_ble_eq_true rfl, Nat.le_of_ble_eq_true rfl⟩ ⟨Nat.zero_le _, Nat.zero_le _⟩ ?_
      obtain ⟨y57, hy57, hf0⟩ := mx_bd hf0
      obtain ⟨zy57, ey57⟩ := mx_zb hy57
      refine gw_topi ey57 ?_
      exact en_z hN zy57 hf0 d_Reader_isSecond_57
  · replace hf0 := mx_t hc hf0
    refine gw_aload_n C 0 d_Reader_isSecond_6 rfl rfl ?_
    refine gw_iconst C (0 : Int32) d_Reader_isSecond_7 (by decide) ?_
    refine gw_aload_n C 0 d_Reader_isSecond_8 rfl rfl ?_
    refine gw_getA C 1 d_Reader_isSecond_9 k_o_0 (by decide) i_Reader rfl rfl (by decide) qw_289 rfl rfl (o + 4) rfl ?_
    refine gw_getAN C 0 d_Reader_isSecond_12 k_o_4 (by decide) i_State rfl rfl (by decide) qw_236 rfl rfl (o + 5) rfl ?_
    refine gw_getIN C 6 d_Reader_isSecond_15 k_o_5 (by decide) i_Island rfl rfl (by decide) qw_149 rfl rfl ?_
    refine gw_iconst C (1 : Int32) d_Reader_isSecond_18 (by decide) ?_
    refine gw_isub C d_Reader_isSecond_19 ?_
    obtain ⟨q20, hq20, hf0⟩ := mx_bd hf0
    refine gw_callI C (c_Reader_isNumber _ hg k_o_0 hq20) d_Reader_isSecond_20 2 qw_588 qw_590 qs_7 qw_2 qw_591 k_o_0 (by decide) rfl hd_Reader_isNumber rfl rfl (Nat.le_of_ble_eq_true rfl) ⟨rfl, rfl, Nat.le_of_ble_eq_true rfl, Nat.le_of_ble_eq_true rfl⟩ ⟨Nat.zero_le _, Nat.zero_le _⟩ ?_
    obtain ⟨y23, hy23, hf0⟩ := mx_bd hf0
    obtain ⟨zy23, ey23⟩ := mx_zb hy23
    refine gw_topi ey23 ?_
    exact en_z hN zy23 hf0 d_Reader_isSecond_23

/-! NameHat.Reader.isSemicolon()Z -/
abbrev b_Reader_isSemicolon : ByteArray := prog_6_method_4_code
def y_Reader_isSemicolon : MethodName := ⟨"NameHat$Reader", "isSemicolon", "()Z"⟩
abbrev rm_Reader_isSemicolon : Room := { frames := 1, cells := 0, slots := 0, locals := 21 }
theorem hd_Reader_isSemicolon : y_Reader_isSemicolon.cls ≠ "java/lang/invoke/MethodHandle" ∧ y_Reader_isSemicolon.cls ≠ "java/lang/invoke/VarHandle" ∧ (parseMethodDescriptor y_Reader_isSemicolon.desc).map (fun d => d.parameters.length) = some 0 := by decide +kernel
theorem d_Reader_isSemicolon_0 : decode b_Reader_isSemicolon 0 = .ok (.aload_n 0, 1) := by decide +kernel
theorem d_Reader_isSemicolon_1 : decode b_Reader_isSemicolon 1 = .ok (.getfield 12, 3) := by decide +kernel
theorem d_Reader_isSemicolon_4 : decode b_Reader_isSemicolon 4 = .ok (.getfield 49, 3) := by decide +kernel
theorem d_Reader_isSemicolon_7 : decode b_Reader_isSemicolon 7 = .ok (.iconst 3, 1) := by decide +kernel
theorem d_Reader_isSemicolon_8 : decode b_Reader_isSemicolon 8 = .ok (.if_icmp .eq 11, 3) := by decide +kernel
theorem d_Reader_isSemicolon_11 : decode b_Reader_isSemicolon 11 = .ok (.aload_n 0, 1) := by decide +kernel
theorem d_Reader_isSemicolon_12 : decode b_Reader_isSemicolon 12 = .ok (.iconst 1, 1) := by decide +kernel
theorem d_Reader_isSemicolon_13 : decode b_Reader_isSemicolon 13 = .ok (.invokevirtual 71, 3) := by decide +kernel
theorem d_Reader_isSemicolon_16 : decode b_Reader_isSemicolon 16 = .ok (.ifCond .eq 7, 3) := by decide +kernel
theorem d_Reader_isSemicolon_19 : decode b_Reader_isSemicolon 19 = .ok (.iconst 1, 1) := by decide +kernel
theorem d_Reader_isSemicolon_20 : decode b_Reader_isSemicolon 20 = .ok (.goto 4, 3) := by decide +kernel
theorem d_Reader_isSemicolon_23 : decode b_Reader_isSemicolon 23 = .ok (.iconst 0, 1) := by decide +kernel
theorem d_Reader_isSemicolon_24 : decode b_Reader_isSemicolon 24 = .ok (.ireturn, 1) := by decide +kernel
noncomputable def f_Reader_isSemicolon (z : Nat → Nat) (σ : Mm) (o : Nat) : Option (Int32 × Mm) :=
  if (σ.1 (o + 1) 4) = (3 : Int32) then (
    some ((1 : Int32), σ)
  ) else (
    (f_Reader_fail z σ o (1 : Int32)).bind fun q13 =>
    if q13.1 = 0 then (
      some ((0 : Int32), q13.2)
    ) else (
      some ((1 : Int32), q13.2)
    )
  )
set_option maxHeartbeats 4000000 in
set_option maxRecDepth 100000 in
theorem c_Reader_isSemicolon (l : Launch) {L : Ly} (hg : gd_ok L) {σ : Mm} {o : Nat} (k_o_0 : ly_k L o = 9) {res : Int32 × Mm} (hf0 : f_Reader_isSemicolon (ly_z L) σ o = some res) : CtI l y_Reader_isSemicolon b_Reader_isSemicolon 1 (some .boolean) rm_Reader_isSemicolon L [.ref (ly_a L o)] σ res.1 res.2 := by
  refine ct_z hg (by decide) (Nat.le_of_ble_eq_true rfl) ?_
  intro E A Q hE C hN
  subst hE
  have k_o_1 : ly_k L (o + 1) = 8 := gd_Reader_tokens hg k_o_0
  unfold f_Reader_isSemicolon at hf0
  show GW E L A 1 0 0 Q σ 0 [(0, .ref (ly_a L o))] []
  refine gw_aload_n C 0 d_Reader_isSemicolon_0 rfl rfl ?_
  refine gw_getA C 0 d_Reader_isSemicolon_1 k_o_0 (by decide) i_Reader rfl rfl (by decide) qw_287 rfl rfl (o + 1) rfl ?_
  refine gw_getIN C 4 d_Reader_isSemicolon_4 k_o_1 (by decide) i_Tokens rfl rfl (by decide) qw_60 rfl rfl ?_
  refine gw_iconst C (3 : Int32) d_Reader_isSemicolon_7 (by decide) ?_
  refine gw_icmp_eq C 19 d_Reader_isSemicolon_8 (by decide) (fun hc => ?_) (fun hc => ?_)
  · replace hf0 := mx_t hc hf0
    refine gw_iconst C (1 : Int32) d_Reader_isSemicolon_19 (by decide) ?_
    refine gw_goto C 24 d_Reader_isSemicolon_20 (by decide) ?_
    exact en_z hN (Or.inr rfl) hf0 d_Reader_isSemicolon_24
  · replace hf0 := mx_f hc hf0
    refine gw_aload_n C 0 d_Reader_isSemicolon_11 rfl rfl ?_
    refine gw_iconst C (1 : Int32) d_Reader_isSemicolon_12 (by decide) ?_
    obtain ⟨q13, hq13, hf0⟩ := mx_bd hf0
    refine gw_callI C (c_Reader_fail _ hg k_o_0 hq13) d_Reader_isSemicolon_13 1 qw_568 qw_570 qs_4 qw_2 qw_571 k_o_0 (by decide) rfl hd_Reader_fail rfl rfl (Nat.le_of_ble_eq_true rfl) ⟨rfl, rfl, Nat.le_of_ble_eq_true rfl, Nat.le_of_ble_eq_true rfl⟩ ⟨Nat.zero_le _, Nat.zero_le _⟩ ?_
    refine gw_if_eq C 23 d_Reader_isSemicolon_16 (by decide) (fun hc => ?_) (fun hc => ?_)
    · replace hf0 := mx_t hc hf0
      refine gw_iconst C (0 : Int32) d_Reader_isSemicolon_23 (by decide) ?_
      exact en_z hN (Or.inl rfl) hf0 d_Reader_isSemicolon_24
    · replace hf0 := mx_f hc hf0
      refine gw_iconst C (1 : Int32) d_Reader_isSemicolon_19 (by decide) ?_
      refine gw_goto C 24 d_Reader_isSemicolon_20 (by decide) ?_
      exact en_z hN (Or.inr rfl) hf0 d_Reader_isSemicolon_24

/-! NameHat.Names.copyFrom(LNameHat.Names;)V -/
abbrev b_Names_copyFrom : ByteArray := prog_5_method_8_code
def y_Names_copyFrom : MethodName := ⟨"NameHat$Names", "copyFrom", "(LNameHat$Names;)V"⟩
abbrev rm_Names_copyFrom : Room := { frames := 0, cells := 0, slots := 0, locals := 0 }
theorem hd_Names_copyFrom : y_Names_copyFrom.cls ≠ "java/lang/invoke/MethodHandle" ∧ y_Names_copyFrom.cls ≠ "java/lang/invoke/VarHandle" ∧ (parseMethodDescriptor y_Names_copyFrom.desc).map (fun d => d.parameters.length) = some 1 := by decide +kernel
theorem d_Names_copyFrom_0 : decode b_Names_copyFrom 0 = .ok (.iconst 0, 1) := by decide +kernel
theorem d_Names_copyFrom_1 : decode b_Names_copyFrom 1 = .ok (.istore_n 2, 1) := by decide +kernel
theorem d_Names_copyFrom_2 : decode b_Names_copyFrom 2 = .ok (.iload_n 2, 1) := by decide +kernel
theorem d_Names_copyFrom_3 : decode b_Names_copyFrom 3 = .ok (.aload_n 0, 1) := by decide +kernel
theorem d_Names_copyFrom_4 : decode b_Names_copyFrom 4 = .ok (.getfield 9, 3) := by decide +kernel
theorem d_Names_copyFrom_7 : decode b_Names_copyFrom 7 = .ok (.arraylength, 1) := by decide +kernel
theorem d_Names_copyFrom_8 : decode b_Names_copyFrom 8 = .ok (.if_icmp .ge 30, 3) := by decide +kernel
theorem d_Names_copyFrom_11 : decode b_Names_copyFrom 11 = .ok (.iload_n 2, 1) := by decide +kernel
theorem d_Names_copyFrom_12 : decode b_Names_copyFrom 12 = .ok (.aload_n 1, 1) := by decide +kernel
theorem d_Names_copyFrom_13 : decode b_Names_copyFrom 13 = .ok (.getfield 9, 3) := by decide +kernel
theorem d_Names_copyFrom_16 : decode b_Names_copyFrom 16 = .ok (.arraylength, 1) := by decide +kernel
theorem d_Names_copyFrom_17 : decode b_Names_copyFrom 17 = .ok (.if_icmp .ge 21, 3) := by decide +kernel
theorem d_Names_copyFrom_20 : decode b_Names_copyFrom 20 = .ok (.aload_n 0, 1) := by decide +kernel
theorem d_Names_copyFrom_21 : decode b_Names_copyFrom 21 = .ok (.getfield 9, 3) := by decide +kernel
theorem d_Names_copyFrom_24 : decode b_Names_copyFrom 24 = .ok (.iload_n 2, 1) := by decide +kernel
theorem d_Names_copyFrom_25 : decode b_Names_copyFrom 25 = .ok (.aload_n 1, 1) := by decide +kernel
theorem d_Names_copyFrom_26 : decode b_Names_copyFrom 26 = .ok (.getfield 9, 3) := by decide +kernel
theorem d_Names_copyFrom_29 : decode b_Names_copyFrom 29 = .ok (.iload_n 2, 1) := by decide +kernel
theorem d_Names_copyFrom_30 : decode b_Names_copyFrom 30 = .ok (.laload, 1) := by decide +kernel
theorem d_Names_copyFrom_31 : decode b_Names_copyFrom 31 = .ok (.lastore, 1) := by decide +kernel
theorem d_Names_copyFrom_32 : decode b_Names_copyFrom 32 = .ok (.iinc 2 1, 3) := by decide +kernel
theorem d_Names_copyFrom_35 : decode b_Names_copyFrom 35 = .ok (.goto (-33), 3) := by decide +kernel
theorem d_Names_copyFrom_38 : decode b_Names_copyFrom 38 = .ok (.aload_n 0, 1) := by decide +kernel
theorem d_Names_copyFrom_39 : decode b_Names_copyFrom 39 = .ok (.aload_n 1, 1) := by decide +kernel
theorem d_Names_copyFrom_40 : decode b_Names_copyFrom 40 = .ok (.getfield 15, 3) := by decide +kernel
theorem d_Names_copyFrom_43 : decode b_Names_copyFrom 43 = .ok (.putfield 15, 3) := by decide +kernel
theorem d_Names_copyFrom_46 : decode b_Names_copyFrom 46 = .ok (.return_, 1) := by decide +kernel
noncomputable def f_Names_copyFrom_L2 (z : Nat → Nat) (o : Nat) (o1 : Nat) (s2 : Int32 × Mm) : Option ((Int32 × Mm) ⊕ (Mm)) :=
  if (nI (z (o + 1))) ≤ s2.1 then (
    some (.inr s2.2)
  ) else (
    if (nI (z (o1 + 1))) ≤ s2.1 then (
      some (.inr s2.2)
    ) else (
      (mm_ldL (s2.2.2 (o1 + 1)) (z (o1 + 1)) s2.1).bind fun x30 =>
      (mm_stL s2.2 (o + 1) (z (o + 1)) s2.1 x30).bind fun m31 =>
      mm_lt (s2.1 + (1 : Int32)) fun x32 =>
      some (.inl (x32, m31))
    )
  )
noncomputable def f_Names_copyFrom (z : Nat → Nat) (σ : Mm) (o : Nat) (o1 : Nat) : Option (Mm) :=
  (mm_lp (f_Names_copyFrom_L2 z o o1) ((0 : Int32), σ)).bind (fun q2 =>
    mm_lt (kI q2 o 1 (q2.1 o1 1)) fun m43 =>
    some m43)
set_option maxHeartbeats 4000000 in
set_option maxRecDepth 100000 in
theorem c_Names_copyFrom (l : Launch) {L : Ly} (hg : gd_ok L) {σ : Mm} {o : Nat} {o1 : Nat} (k_o_0 : ly_k L o = 1) (k_o1_0 : ly_k L o1 = 1) {res : Mm} (hf0 : f_Names_copyFrom (ly_z L) σ o o1 = some res) : CtV l y_Names_copyFrom b_Names_copyFrom 3 (none) rm_Names_copyFrom L [.ref (ly_a L o), .ref (ly_a L o1)] σ res := by
  refine ct_v hg (by decide) (Nat.le_of_ble_eq_true rfl) ?_
  intro E A Q hE C hN
  subst hE
  have k_o_1 : ly_k L (o + 1) = 21 := gd_Names_letters hg k_o_0
  have k_o1_1 : ly_k L (o1 + 1) = 21 := gd_Names_letters hg k_o1_0
  unfold f_Names_copyFrom at hf0
  show GW E L A 3 0 0 Q σ 0 [(0, .ref (ly_a L o)), (1, .ref (ly_a L o1))] []
  refine gw_iconst C (0 : Int32) d_Names_copyFrom_0 (by decide) ?_
  refine gw_istore_n C [(2, .int (0 : Int32)), (0, .ref (ly_a L o)), (1, .ref (ly_a L o1))] d_Names_copyFrom_1 rfl (by decide) rfl ?_
  obtain ⟨q2, hq2, hf0⟩ := mx_bd hf0
  have hk2 : ∀ x9, q2 = x9 → GW E L A 3 0 0 Q x9 38 [(0, .ref (ly_a L o)), (1, .ref (ly_a L o1))] [] := by
    intro x9 hx9
    subst hx9
    refine gw_aload_n C 0 d_Names_copyFrom_38 rfl rfl ?_
    refine gw_aload_n C 1 d_Names_copyFrom_39 rfl rfl ?_
    refine gw_getI C 1 d_Names_copyFrom_40 k_o1_0 (by decide) i_Names rfl rfl (by decide) qw_109 rfl rfl ?_
    obtain ⟨m43, em43, hf0⟩ := mx_lt hf0
    refine gw_putI t_Names C 1 d_Names_copyFrom_43 k_o_0 (by decide) i_Names rfl rfl (by decide) qw_109 rfl rfl t_Names_ok n_Names rfl (t_Names_ok 1 (by decide)) rfl rfl em43 ?_
    exact en_v hN hf0 d_Names_copyFrom_46
  refine gw_sub [1, 2, 0] (lv' := [(0, .ref (ly_a L o)), (1, .ref (ly_a L o1)), (2, .int (0 : Int32))]) rfl ?_
  refine mm_rule hq2 (P := fun (s2 : Int32 × Mm) => GW E L A 3 0 0 Q s2.2 2 [(0, .ref (ly_a L o)), (1, .ref (ly_a L o1)), (2, .int s2.1)] []) ?_
  intro s2 ih2 hx2 ⟨w2, hb2⟩
  have hf1 := hb2
  unfold f_Names_copyFrom_L2 at hf1
  refine gw_iload_n C 2 d_Names_copyFrom_2 rfl rfl ?_
  refine gw_aload_n C 0 d_Names_copyFrom_3 rfl rfl ?_
  refine gw_getA C 0 d_Names_copyFrom_4 k_o_0 (by decide) i_Names rfl rfl (by decide) qw_107 rfl rfl (o + 1) rfl ?_
  refine gw_alen21 C d_Names_copyFrom_7 k_o_1 ?_
  refine gw_icmp_ge C 38 d_Names_copyFrom_8 (by decide) (fun hc => ?_) (fun hc => ?_)
  · replace hf1 := mx_t hc hf1
    exact gw_go [0, 1] (hk2 s2.2 (hx2 _ (hb2.trans hf1.symm)).symm) rfl
  · replace hf1 := mx_f hc hf1
    refine gw_iload_n C 2 d_Names_copyFrom_11 rfl rfl ?_
    refine gw_aload_n C 1 d_Names_copyFrom_12 rfl rfl ?_
    refine gw_getA C 0 d_Names_copyFrom_13 k_o1_0 (by decide) i_Names rfl rfl (by decide) qw_107 rfl rfl (o1 + 1) rfl ?_
    refine gw_alen21 C d_Names_copyFrom_16 k_o1_1 ?_
    refine gw_icmp_ge C 38 d_Names_copyFrom_17 (by decide) (fun hc => ?_) (fun hc => ?_)
    · replace hf1 := mx_t hc hf1
      exact gw_go [0, 1] (hk2 s2.2 (hx2 _ (hb2.trans hf1.symm)).symm) rfl
    · replace hf1 := mx_f hc hf1
      refine gw_aload_n C 0 d_Names_copyFrom_20 rfl rfl ?_
      refine gw_getA C 0 d_Names_copyFrom_21 k_o_0 (by decide) i_Names rfl rfl (by decide) qw_107 rfl rfl (o + 1) rfl ?_
      refine gw_iload_n C 2 d_Names_copyFrom_24 rfl rfl ?_
      refine gw_aload_n C 1 d_Names_copyFrom_25 rfl rfl ?_
      refine gw_getA C 0 d_Names_copyFrom_26 k_o1_0 (by decide) i_Names rfl rfl (by decide) qw_107 rfl rfl (o1 + 1) rfl ?_
      refine gw_iload_n C 2 d_Names_copyFrom_29 rfl rfl ?_
      obtain ⟨x30, hx30, hf1⟩ := mx_bd hf1
      obtain ⟨gx30, ex30⟩ := mx_ldL hx30
      refine gw_lald C d_Names_copyFrom_30 k_o1_1 gx30 ex30 ?_
      obtain ⟨m31, hm31, hf1⟩ := mx_bd hf1
      obtain ⟨gm31, em31⟩ := mx_stL hm31
      refine gw_last C d_Names_copyFrom_31 k_o_1 gm31 em31 ?_
      obtain ⟨x32, ex32, hf1⟩ := mx_lt hf1
      refine gw_iinc C 2 [(2, .int x32), (0, .ref (ly_a L o)), (1, .ref (ly_a L o1))] d_Names_copyFrom_32 rfl (by rw [ex32]; rfl) (by decide) rfl ?_
      refine gw_goto C 2 d_Names_copyFrom_35 (by decide) ?_
      exact gw_go [1, 2, 0] (ih2 (x32, m31) (hb2.trans hf1.symm)) rfl

/-! NameHat.Row.copyFrom(LNameHat.Row;)V -/
abbrev b_Row_copyFrom : ByteArray := prog_8_method_5_code
def y_Row_copyFrom : MethodName := ⟨"NameHat$Row", "copyFrom", "(LNameHat$Row;)V"⟩
abbrev rm_Row_copyFrom : Room := { frames := 0, cells := 0, slots := 0, locals := 0 }
theorem hd_Row_copyFrom : y_Row_copyFrom.cls ≠ "java/lang/invoke/MethodHandle" ∧ y_Row_copyFrom.cls ≠ "java/lang/invoke/VarHandle" ∧ (parseMethodDescriptor y_Row_copyFrom.desc).map (fun d => d.parameters.length) = some 1 := by decide +kernel
theorem d_Row_copyFrom_0 : decode b_Row_copyFrom 0 = .ok (.iconst 0, 1) := by decide +kernel
theorem d_Row_copyFrom_1 : decode b_Row_copyFrom 1 = .ok (.istore_n 2, 1) := by decide +kernel
theorem d_Row_copyFrom_2 : decode b_Row_copyFrom 2 = .ok (.iload_n 2, 1) := by decide +kernel
theorem d_Row_copyFrom_3 : decode b_Row_copyFrom 3 = .ok (.aload_n 0, 1) := by decide +kernel
theorem d_Row_copyFrom_4 : decode b_Row_copyFrom 4 = .ok (.getfield 9, 3) := by decide +kernel
theorem d_Row_copyFrom_7 : decode b_Row_copyFrom 7 = .ok (.arraylength, 1) := by decide +kernel
theorem d_Row_copyFrom_8 : decode b_Row_copyFrom 8 = .ok (.if_icmp .ge 30, 3) := by decide +kernel
theorem d_Row_copyFrom_11 : decode b_Row_copyFrom 11 = .ok (.iload_n 2, 1) := by decide +kernel
theorem d_Row_copyFrom_12 : decode b_Row_copyFrom 12 = .ok (.aload_n 1, 1) := by decide +kernel
theorem d_Row_copyFrom_13 : decode b_Row_copyFrom 13 = .ok (.getfield 9, 3) := by decide +kernel
theorem d_Row_copyFrom_16 : decode b_Row_copyFrom 16 = .ok (.arraylength, 1) := by decide +kernel
theorem d_Row_copyFrom_17 : decode b_Row_copyFrom 17 = .ok (.if_icmp .ge 21, 3) := by decide +kernel
theorem d_Row_copyFrom_20 : decode b_Row_copyFrom 20 = .ok (.aload_n 0, 1) := by decide +kernel
theorem d_Row_copyFrom_21 : decode b_Row_copyFrom 21 = .ok (.getfield 9, 3) := by decide +kernel
theorem d_Row_copyFrom_24 : decode b_Row_copyFrom 24 = .ok (.iload_n 2, 1) := by decide +kernel
theorem d_Row_copyFrom_25 : decode b_Row_copyFrom 25 = .ok (.aload_n 1, 1) := by decide +kernel
theorem d_Row_copyFrom_26 : decode b_Row_copyFrom 26 = .ok (.getfield 9, 3) := by decide +kernel
theorem d_Row_copyFrom_29 : decode b_Row_copyFrom 29 = .ok (.iload_n 2, 1) := by decide +kernel
theorem d_Row_copyFrom_30 : decode b_Row_copyFrom 30 = .ok (.iaload, 1) := by decide +kernel
theorem d_Row_copyFrom_31 : decode b_Row_copyFrom 31 = .ok (.iastore, 1) := by decide +kernel
theorem d_Row_copyFrom_32 : decode b_Row_copyFrom 32 = .ok (.iinc 2 1, 3) := by decide +kernel
theorem d_Row_copyFrom_35 : decode b_Row_copyFrom 35 = .ok (.goto (-33), 3) := by decide +kernel
theorem d_Row_copyFrom_38 : decode b_Row_copyFrom 38 = .ok (.return_, 1) := by decide +kernel
noncomputable def f_Row_copyFrom_L2 (z : Nat → Nat) (o : Nat) (o1 : Nat) (s2 : Int32 × Mm) : Option ((Int32 × Mm) ⊕ (Mm)) :=
  if (nI (z (o + 1))) ≤ s2.1 then (
    some (.inr s2.2)
  ) else (
    if (nI (z (o1 + 1))) ≤ s2.1 then (
      some (.inr s2.2)
    ) else (
      (mm_ldI (s2.2.1 (o1 + 1)) (z (o1 + 1)) s2.1).bind fun x30 =>
      (mm_stI s2.2 (o + 1) (z (o + 1)) s2.1 x30).bind fun m31 =>
      mm_lt (s2.1 + (1 : Int32)) fun x32 =>
      some (.inl (x32, m31))
    )
  )
noncomputable def f_Row_copyFrom (z : Nat → Nat) (σ : Mm) (o : Nat) (o1 : Nat) : Option (Mm) :=
  (mm_lp (f_Row_copyFrom_L2 z o o1) ((0 : Int32), σ)).bind (fun q2 =>
    some q2)
set_option maxHeartbeats 4000000 in
set_option maxRecDepth 100000 in
theorem c_Row_copyFrom (l : Launch) {L : Ly} (hg : gd_ok L) {σ : Mm} {o : Nat} {o1 : Nat} (k_o_0 : ly_k L o = 0) (k_o1_0 : ly_k L o1 = 0) {res : Mm} (hf0 : f_Row_copyFrom (ly_z L) σ o o1 = some res) : CtV l y_Row_copyFrom b_Row_copyFrom 3 (none) rm_Row_copyFrom L [.ref (ly_a L o), .ref (ly_a L o1)] σ res := by
  refine ct_v hg (by decide) (Nat.le_of_ble_eq_true rfl) ?_
  intro E A Q hE C hN
  subst hE
  have k_o_1 : ly_k L (o + 1) = 20 := gd_Row_cells hg k_o_0
  have k_o1_1 : ly_k L (o1 + 1) = 20 := gd_Row_cells hg k_o1_0
  unfold f_Row_copyFrom at hf0
  show GW E L A 3 0 0 Q σ 0 [(0, .ref (ly_a L o)), (1, .ref (ly_a L o1))] []
  refine gw_iconst C (0 : Int32) d_Row_copyFrom_0 (by decide) ?_
  refine gw_istore_n C [(2, .int (0 : Int32)), (0, .ref (ly_a L o)), (1, .ref (ly_a L o1))] d_Row_copyFrom_1 rfl (by decide) rfl ?_
  obtain ⟨q2, hq2, hf0⟩ := mx_bd hf0
  have hk2 : ∀ x9, q2 = x9 → GW E L A 3 0 0 Q x9 38 [] [] := by
    intro x9 hx9
    subst hx9
    exact en_v hN hf0 d_Row_copyFrom_38
  refine gw_sub [1, 2, 0] (lv' := [(0, .ref (ly_a L o)), (1, .ref (ly_a L o1)), (2, .int (0 : Int32))]) rfl ?_
  refine mm_rule hq2 (P := fun (s2 : Int32 × Mm) => GW E L A 3 0 0 Q s2.2 2 [(0, .ref (ly_a L o)), (1, .ref (ly_a L o1)), (2, .int s2.1)] []) ?_
  intro s2 ih2 hx2 ⟨w2, hb2⟩
  have hf1 := hb2
  unfold f_Row_copyFrom_L2 at hf1
  refine gw_iload_n C 2 d_Row_copyFrom_2 rfl rfl ?_
  refine gw_aload_n C 0 d_Row_copyFrom_3 rfl rfl ?_
  refine gw_getA C 0 d_Row_copyFrom_4 k_o_0 (by decide) i_Row rfl rfl (by decide) qw_50 rfl rfl (o + 1) rfl ?_
  refine gw_alen20 C d_Row_copyFrom_7 k_o_1 ?_
  refine gw_icmp_ge C 38 d_Row_copyFrom_8 (by decide) (fun hc => ?_) (fun hc => ?_)
  · replace hf1 := mx_t hc hf1
    exact gw_go [] (hk2 s2.2 (hx2 _ (hb2.trans hf1.symm)).symm) rfl
  · replace hf1 := mx_f hc hf1
    refine gw_iload_n C 2 d_Row_copyFrom_11 rfl rfl ?_
    refine gw_aload_n C 1 d_Row_copyFrom_12 rfl rfl ?_
    refine gw_getA C 0 d_Row_copyFrom_13 k_o1_0 (by decide) i_Row rfl rfl (by decide) qw_50 rfl rfl (o1 + 1) rfl ?_
    refine gw_alen20 C d_Row_copyFrom_16 k_o1_1 ?_
    refine gw_icmp_ge C 38 d_Row_copyFrom_17 (by decide) (fun hc => ?_) (fun hc => ?_)
    · replace hf1 := mx_t hc hf1
      exact gw_go [] (hk2 s2.2 (hx2 _ (hb2.trans hf1.symm)).symm) rfl
    · replace hf1 := mx_f hc hf1
      refine gw_aload_n C 0 d_Row_copyFrom_20 rfl rfl ?_
      refine gw_getA C 0 d_Row_copyFrom_21 k_o_0 (by decide) i_Row rfl rfl (by decide) qw_50 rfl rfl (o + 1) rfl ?_
      refine gw_iload_n C 2 d_Row_copyFrom_24 rfl rfl ?_
      refine gw_aload_n C 1 d_Row_copyFrom_25 rfl rfl ?_
      refine gw_getA C 0 d_Row_copyFrom_26 k_o1_0 (by decide) i_Row rfl rfl (by decide) qw_50 rfl rfl (o1 + 1) rfl ?_
      refine gw_iload_n C 2 d_Row_copyFrom_29 rfl rfl ?_
      obtain ⟨x30, hx30, hf1⟩ := mx_bd hf1
      obtain ⟨gx30, ex30⟩ := mx_ldI hx30
      refine gw_iald C d_Row_copyFrom_30 k_o1_1 gx30 ex30 ?_
      obtain ⟨m31, hm31, hf1⟩ := mx_bd hf1
      obtain ⟨gm31, em31⟩ := mx_stI hm31
      refine gw_iast C d_Row_copyFrom_31 k_o_1 gm31 em31 ?_
      obtain ⟨x32, ex32, hf1⟩ := mx_lt hf1
      refine gw_iinc C 2 [(2, .int x32), (0, .ref (ly_a L o)), (1, .ref (ly_a L o1))] d_Row_copyFrom_32 rfl (by rw [ex32]; rfl) (by decide) rfl ?_
      refine gw_goto C 2 d_Row_copyFrom_35 (by decide) ?_
      exact gw_go [1, 2, 0] (ih2 (x32, m31) (hb2.trans hf1.symm)) rfl

/-! NameHat.Island.copyFrom(LNameHat.Island;)V -/
abbrev b_Island_copyFrom : ByteArray := prog_4_method_3_code
def y_Island_copyFrom : MethodName := ⟨"NameHat$Island", "copyFrom", "(LNameHat$Island;)V"⟩
abbrev rm_Island_copyFrom : Room := { frames := 1, cells := 0, slots := 0, locals := 22 }
theorem hd_Island_copyFrom : y_Island_copyFrom.cls ≠ "java/lang/invoke/MethodHandle" ∧ y_Island_copyFrom.cls ≠ "java/lang/invoke/VarHandle" ∧ (parseMethodDescriptor y_Island_copyFrom.desc).map (fun d => d.parameters.length) = some 1 := by decide +kernel
theorem d_Island_copyFrom_0 : decode b_Island_copyFrom 0 = .ok (.aload_n 0, 1) := by decide +kernel
theorem d_Island_copyFrom_1 : decode b_Island_copyFrom 1 = .ok (.getfield 14, 3) := by decide +kernel
theorem d_Island_copyFrom_4 : decode b_Island_copyFrom 4 = .ok (.aload_n 1, 1) := by decide +kernel
theorem d_Island_copyFrom_5 : decode b_Island_copyFrom 5 = .ok (.getfield 14, 3) := by decide +kernel
theorem d_Island_copyFrom_8 : decode b_Island_copyFrom 8 = .ok (.invokevirtual 55, 3) := by decide +kernel
theorem d_Island_copyFrom_11 : decode b_Island_copyFrom 11 = .ok (.aload_n 0, 1) := by decide +kernel
theorem d_Island_copyFrom_12 : decode b_Island_copyFrom 12 = .ok (.getfield 20, 3) := by decide +kernel
theorem d_Island_copyFrom_15 : decode b_Island_copyFrom 15 = .ok (.aload_n 1, 1) := by decide +kernel
theorem d_Island_copyFrom_16 : decode b_Island_copyFrom 16 = .ok (.getfield 20, 3) := by decide +kernel
theorem d_Island_copyFrom_19 : decode b_Island_copyFrom 19 = .ok (.invokevirtual 55, 3) := by decide +kernel
theorem d_Island_copyFrom_22 : decode b_Island_copyFrom 22 = .ok (.aload_n 0, 1) := by decide +kernel
theorem d_Island_copyFrom_23 : decode b_Island_copyFrom 23 = .ok (.getfield 26, 3) := by decide +kernel
theorem d_Island_copyFrom_26 : decode b_Island_copyFrom 26 = .ok (.aload_n 1, 1) := by decide +kernel
theorem d_Island_copyFrom_27 : decode b_Island_copyFrom 27 = .ok (.getfield 26, 3) := by decide +kernel
theorem d_Island_copyFrom_30 : decode b_Island_copyFrom 30 = .ok (.invokevirtual 59, 3) := by decide +kernel
theorem d_Island_copyFrom_33 : decode b_Island_copyFrom 33 = .ok (.aload_n 0, 1) := by decide +kernel
theorem d_Island_copyFrom_34 : decode b_Island_copyFrom 34 = .ok (.getfield 30, 3) := by decide +kernel
theorem d_Island_copyFrom_37 : decode b_Island_copyFrom 37 = .ok (.aload_n 1, 1) := by decide +kernel
theorem d_Island_copyFrom_38 : decode b_Island_copyFrom 38 = .ok (.getfield 30, 3) := by decide +kernel
theorem d_Island_copyFrom_41 : decode b_Island_copyFrom 41 = .ok (.invokevirtual 59, 3) := by decide +kernel
theorem d_Island_copyFrom_44 : decode b_Island_copyFrom 44 = .ok (.aload_n 0, 1) := by decide +kernel
theorem d_Island_copyFrom_45 : decode b_Island_copyFrom 45 = .ok (.getfield 33, 3) := by decide +kernel
theorem d_Island_copyFrom_48 : decode b_Island_copyFrom 48 = .ok (.aload_n 1, 1) := by decide +kernel
theorem d_Island_copyFrom_49 : decode b_Island_copyFrom 49 = .ok (.getfield 33, 3) := by decide +kernel
theorem d_Island_copyFrom_52 : decode b_Island_copyFrom 52 = .ok (.invokevirtual 59, 3) := by decide +kernel
theorem d_Island_copyFrom_55 : decode b_Island_copyFrom 55 = .ok (.aload_n 0, 1) := by decide +kernel
theorem d_Island_copyFrom_56 : decode b_Island_copyFrom 56 = .ok (.getfield 36, 3) := by decide +kernel
theorem d_Island_copyFrom_59 : decode b_Island_copyFrom 59 = .ok (.aload_n 1, 1) := by decide +kernel
theorem d_Island_copyFrom_60 : decode b_Island_copyFrom 60 = .ok (.getfield 36, 3) := by decide +kernel
theorem d_Island_copyFrom_63 : decode b_Island_copyFrom 63 = .ok (.invokevirtual 59, 3) := by decide +kernel
theorem d_Island_copyFrom_66 : decode b_Island_copyFrom 66 = .ok (.aload_n 0, 1) := by decide +kernel
theorem d_Island_copyFrom_67 : decode b_Island_copyFrom 67 = .ok (.aload_n 1, 1) := by decide +kernel
theorem d_Island_copyFrom_68 : decode b_Island_copyFrom 68 = .ok (.getfield 45, 3) := by decide +kernel
theorem d_Island_copyFrom_71 : decode b_Island_copyFrom 71 = .ok (.putfield 45, 3) := by decide +kernel
theorem d_Island_copyFrom_74 : decode b_Island_copyFrom 74 = .ok (.aload_n 0, 1) := by decide +kernel
theorem d_Island_copyFrom_75 : decode b_Island_copyFrom 75 = .ok (.aload_n 1, 1) := by decide +kernel
theorem d_Island_copyFrom_76 : decode b_Island_copyFrom 76 = .ok (.getfield 49, 3) := by decide +kernel
theorem d_Island_copyFrom_79 : decode b_Island_copyFrom 79 = .ok (.putfield 49, 3) := by decide +kernel
theorem d_Island_copyFrom_82 : decode b_Island_copyFrom 82 = .ok (.aload_n 0, 1) := by decide +kernel
theorem d_Island_copyFrom_83 : decode b_Island_copyFrom 83 = .ok (.aload_n 1, 1) := by decide +kernel
theorem d_Island_copyFrom_84 : decode b_Island_copyFrom 84 = .ok (.getfield 52, 3) := by decide +kernel
theorem d_Island_copyFrom_87 : decode b_Island_copyFrom 87 = .ok (.putfield 52, 3) := by decide +kernel
theorem d_Island_copyFrom_90 : decode b_Island_copyFrom 90 = .ok (.return_, 1) := by decide +kernel
noncomputable def f_Island_copyFrom (z : Nat → Nat) (σ : Mm) (o : Nat) (o1 : Nat) : Option (Mm) :=
  (f_Names_copyFrom z σ (o + 1) (o1 + 1)).bind fun q8 =>
  (f_Names_copyFrom z q8 (o + 3) (o1 + 3)).bind fun q19 =>
  (f_Row_copyFrom z q19 (o + 5) (o1 + 5)).bind fun q30 =>
  (f_Row_copyFrom z q30 (o + 7) (o1 + 7)).bind fun q41 =>
  (f_Row_copyFrom z q41 (o + 9) (o1 + 9)).bind fun q52 =>
  (f_Row_copyFrom z q52 (o + 11) (o1 + 11)).bind fun q63 =>
  mm_lt (kI q63 o 6 (q63.1 o1 6)) fun m71 =>
  mm_lt (kI m71 o 7 (m71.1 o1 7)) fun m79 =>
  mm_lt (kI m79 o 8 (m79.1 o1 8)) fun m87 =>
  some m87
set_option maxHeartbeats 4000000 in
set_option maxRecDepth 100000 in
theorem c_Island_copyFrom (l : Launch) {L : Ly} (hg : gd_ok L) {σ : Mm} {o : Nat} {o1 : Nat} (k_o_0 : ly_k L o = 2) (k_o1_0 : ly_k L o1 = 2) {res : Mm} (hf0 : f_Island_copyFrom (ly_z L) σ o o1 = some res) : CtV l y_Island_copyFrom b_Island_copyFrom 2 (none) rm_Island_copyFrom L [.ref (ly_a L o), .ref (ly_a L o1)] σ res := by
  refine ct_v hg (by decide) (Nat.le_of_ble_eq_true rfl) ?_
  intro E A Q hE C hN
  subst hE
  have k_o_1 : ly_k L (o + 1) = 1 := gd_Island_surnames hg k_o_0
  have k_o1_1 : ly_k L (o1 + 1) = 1 := gd_Island_surnames hg k_o1_0
  have k_o_3 : ly_k L (o + 3) = 1 := gd_Island_houses hg k_o_0
  have k_o1_3 : ly_k L (o1 + 3) = 1 := gd_Island_houses hg k_o1_0
  have k_o_5 : ly_k L (o + 5) = 0 := gd_Island_worths hg k_o_0
  have k_o1_5 : ly_k L (o1 + 5) = 0 := gd_Island_worths hg k_o1_0
  have k_o_7 : ly_k L (o + 7) = 0 := gd_Island_kinds hg k_o_0
  have k_o1_7 : ly_k L (o1 + 7) = 0 := gd_Island_kinds hg k_o1_0
  have k_o_9 : ly_k L (o + 9) = 0 := gd_Island_feuds hg k_o_0
  have k_o1_9 : ly_k L (o1 + 9) = 0 := gd_Island_feuds hg k_o1_0
  have k_o_11 : ly_k L (o + 11) = 0 := gd_Island_wants hg k_o_0
  have k_o1_11 : ly_k L (o1 + 11) = 0 := gd_Island_wants hg k_o1_0
  unfold f_Island_copyFrom at hf0
  show GW E L A 2 0 0 Q σ 0 [(0, .ref (ly_a L o)), (1, .ref (ly_a L o1))] []
  refine gw_aload_n C 0 d_Island_copyFrom_0 rfl rfl ?_
  refine gw_getA C 0 d_Island_copyFrom_1 k_o_0 (by decide) i_Island rfl rfl (by decide) qw_124 rfl rfl (o + 1) rfl ?_
  refine gw_aload_n C 1 d_Island_copyFrom_4 rfl rfl ?_
  refine gw_getA C 0 d_Island_copyFrom_5 k_o1_0 (by decide) i_Island rfl rfl (by decide) qw_124 rfl rfl (o1 + 1) rfl ?_
  obtain ⟨q8, hq8, hf0⟩ := mx_bd hf0
  refine gw_callV C (c_Names_copyFrom _ hg k_o_1 k_o1_1 hq8) d_Island_copyFrom_8 1 qw_677 qw_678 qw_679 qw_7 qw_680 k_o_1 (by decide) rfl hd_Names_copyFrom rfl rfl (Nat.le_of_ble_eq_true rfl) ⟨rfl, rfl, Nat.le_of_ble_eq_true rfl, Nat.le_of_ble_eq_true rfl⟩ ⟨Nat.zero_le _, Nat.zero_le _⟩ ?_
  refine gw_aload_n C 0 d_Island_copyFrom_11 rfl rfl ?_
  refine gw_getA C 1 d_Island_copyFrom_12 k_o_0 (by decide) i_Island rfl rfl (by decide) qw_129 rfl rfl (o + 3) rfl ?_
  refine gw_aload_n C 1 d_Island_copyFrom_15 rfl rfl ?_
  refine gw_getA C 1 d_Island_copyFrom_16 k_o1_0 (by decide) i_Island rfl rfl (by decide) qw_129 rfl rfl (o1 + 3) rfl ?_
  obtain ⟨q19, hq19, hf0⟩ := mx_bd hf0
  refine gw_callV C (c_Names_copyFrom _ hg k_o_3 k_o1_3 hq19) d_Island_copyFrom_19 1 qw_677 qw_678 qw_679 qw_7 qw_680 k_o_3 (by decide) rfl hd_Names_copyFrom rfl rfl (Nat.le_of_ble_eq_true rfl) ⟨rfl, rfl, Nat.le_of_ble_eq_true rfl, Nat.le_of_ble_eq_true rfl⟩ ⟨Nat.zero_le _, Nat.zero_le _⟩ ?_
  refine gw_aload_n C 0 d_Island_copyFrom_22 rfl rfl ?_
  refine gw_getA C 2 d_Island_copyFrom_23 k_o_0 (by decide) i_Island rfl rfl (by decide) qw_137 rfl rfl (o + 5) rfl ?_
  refine gw_aload_n C 1 d_Island_copyFrom_26 rfl rfl ?_
  refine gw_getA C 2 d_Island_copyFrom_27 k_o1_0 (by decide) i_Island rfl rfl (by decide) qw_137 rfl rfl (o1 + 5) rfl ?_
  obtain ⟨q30, hq30, hf0⟩ := mx_bd hf0
  refine gw_callV C (c_Row_copyFrom _ hg k_o_5 k_o1_5 hq30) d_Island_copyFrom_30 1 qw_681 qw_682 qw_683 qw_4 qw_684 k_o_5 (by decide) rfl hd_Row_copyFrom rfl rfl (Nat.le_of_ble_eq_true rfl) ⟨rfl, rfl, Nat.le_of_ble_eq_true rfl, Nat.le_of_ble_eq_true rfl⟩ ⟨Nat.zero_le _, Nat.zero_le _⟩ ?_
  refine gw_aload_n C 0 d_Island_copyFrom_33 rfl rfl ?_
  refine gw_getA C 3 d_Island_copyFrom_34 k_o_0 (by decide) i_Island rfl rfl (by decide) qw_141 rfl rfl (o + 7) rfl ?_
  refine gw_aload_n C 1 d_Island_copyFrom_37 rfl rfl ?_
  refine gw_getA C 3 d_Island_copyFrom_38 k_o1_0 (by decide) i_Island rfl rfl (by decide) qw_141 rfl rfl (o1 + 7) rfl ?_
  obtain ⟨q41, hq41, hf0⟩ := mx_bd hf0
  refine gw_callV C (c_Row_copyFrom _ hg k_o_7 k_o1_7 hq41) d_Island_copyFrom_41 1 qw_681 qw_682 qw_683 qw_4 qw_684 k_o_7 (by decide) rfl hd_Row_copyFrom rfl rfl (Nat.le_of_ble_eq_true rfl) ⟨rfl, rfl, Nat.le_of_ble_eq_true rfl, Nat.le_of_ble_eq_true rfl⟩ ⟨Nat.zero_le _, Nat.zero_le _⟩ ?_
  refine gw_aload_n C 0 d_Island_copyFrom_44 rfl rfl ?_
  refine gw_getA C 4 d_Island_copyFrom_45 k_o_0 (by decide) i_Island rfl rfl (by decide) qw_144 rfl rfl (o + 9) rfl ?_
  refine gw_aload_n C 1 d_Island_copyFrom_48 rfl rfl ?_
  refine gw_getA C 4 d_Island_copyFrom_49 k_o1_0 (by decide) i_Island rfl rfl (by decide) qw_144 rfl rfl (o1 + 9) rfl ?_
  obtain ⟨q52, hq52, hf0⟩ := mx_bd hf0
  refine gw_callV C (c_Row_copyFrom _ hg k_o_9 k_o1_9 hq52) d_Island_copyFrom_52 1 qw_681 qw_682 qw_683 qw_4 qw_684 k_o_9 (by decide) rfl hd_Row_copyFrom rfl rfl (Nat.le_of_ble_eq_true rfl) ⟨rfl, rfl, Nat.le_of_ble_eq_true rfl, Nat.le_of_ble_eq_true rfl⟩ ⟨Nat.zero_le _, Nat.zero_le _⟩ ?_
  refine gw_aload_n C 0 d_Island_copyFrom_55 rfl rfl ?_
  refine gw_getA C 5 d_Island_copyFrom_56 k_o_0 (by decide) i_Island rfl rfl (by decide) qw_146 rfl rfl (o + 11) rfl ?_
  refine gw_aload_n C 1 d_Island_copyFrom_59 rfl rfl ?_
  refine gw_getA C 5 d_Island_copyFrom_60 k_o1_0 (by decide) i_Island rfl rfl (by decide) qw_146 rfl rfl (o1 + 11) rfl ?_
  obtain ⟨q63, hq63, hf0⟩ := mx_bd hf0
  refine gw_callV C (c_Row_copyFrom _ hg k_o_11 k_o1_11 hq63) d_Island_copyFrom_63 1 qw_681 qw_682 qw_683 qw_4 qw_684 k_o_11 (by decide) rfl hd_Row_copyFrom rfl rfl (Nat.le_of_ble_eq_true rfl) ⟨rfl, rfl, Nat.le_of_ble_eq_true rfl, Nat.le_of_ble_eq_true rfl⟩ ⟨Nat.zero_le _, Nat.zero_le _⟩ ?_
  refine gw_aload_n C 0 d_Island_copyFrom_66 rfl rfl ?_
  refine gw_aload_n C 1 d_Island_copyFrom_67 rfl rfl ?_
  refine gw_getI C 6 d_Island_copyFrom_68 k_o1_0 (by decide) i_Island rfl rfl (by decide) qw_148 rfl rfl ?_
  obtain ⟨m71, em71, hf0⟩ := mx_lt hf0
  refine gw_putI t_Island C 6 d_Island_copyFrom_71 k_o_0 (by decide) i_Island rfl rfl (by decide) qw_148 rfl rfl t_Island_ok n_Island rfl (t_Island_ok 6 (by decide)) rfl rfl em71 ?_
  refine gw_aload_n C 0 d_Island_copyFrom_74 rfl rfl ?_
  refine gw_aload_n C 1 d_Island_copyFrom_75 rfl rfl ?_
  refine gw_getI C 7 d_Island_copyFrom_76 k_o1_0 (by decide) i_Island rfl rfl (by decide) qw_152 rfl rfl ?_
  obtain ⟨m79, em79, hf0⟩ := mx_lt hf0
  refine gw_putI t_Island C 7 d_Island_copyFrom_79 k_o_0 (by decide) i_Island rfl rfl (by decide) qw_152 rfl rfl t_Island_ok n_Island rfl (t_Island_ok 7 (by decide)) rfl rfl em79 ?_
  refine gw_aload_n C 0 d_Island_copyFrom_82 rfl rfl ?_
  refine gw_aload_n C 1 d_Island_copyFrom_83 rfl rfl ?_
  refine gw_getI C 8 d_Island_copyFrom_84 k_o1_0 (by decide) i_Island rfl rfl (by decide) qw_156 rfl rfl ?_
  obtain ⟨m87, em87, hf0⟩ := mx_lt hf0
  refine gw_putI t_Island C 8 d_Island_copyFrom_87 k_o_0 (by decide) i_Island rfl rfl (by decide) qw_156 rfl rfl t_Island_ok n_Island rfl (t_Island_ok 8 (by decide)) rfl rfl em87 ?_
  exact en_v hN hf0 d_Island_copyFrom_90

/-! NameHat.Hands.copyFrom(LNameHat.Hands;)V -/
abbrev b_Hands_copyFrom : ByteArray := prog_3_method_3_code
def y_Hands_copyFrom : MethodName := ⟨"NameHat$Hands", "copyFrom", "(LNameHat$Hands;)V"⟩
abbrev rm_Hands_copyFrom : Room := { frames := 1, cells := 0, slots := 0, locals := 22 }
theorem hd_Hands_copyFrom : y_Hands_copyFrom.cls ≠ "java/lang/invoke/MethodHandle" ∧ y_Hands_copyFrom.cls ≠ "java/lang/invoke/VarHandle" ∧ (parseMethodDescriptor y_Hands_copyFrom.desc).map (fun d => d.parameters.length) = some 1 := by decide +kernel
theorem d_Hands_copyFrom_0 : decode b_Hands_copyFrom 0 = .ok (.aload_n 0, 1) := by decide +kernel
theorem d_Hands_copyFrom_1 : decode b_Hands_copyFrom 1 = .ok (.getfield 14, 3) := by decide +kernel
theorem d_Hands_copyFrom_4 : decode b_Hands_copyFrom 4 = .ok (.aload_n 1, 1) := by decide +kernel
theorem d_Hands_copyFrom_5 : decode b_Hands_copyFrom 5 = .ok (.getfield 14, 3) := by decide +kernel
theorem d_Hands_copyFrom_8 : decode b_Hands_copyFrom 8 = .ok (.invokevirtual 32, 3) := by decide +kernel
theorem d_Hands_copyFrom_11 : decode b_Hands_copyFrom 11 = .ok (.aload_n 0, 1) := by decide +kernel
theorem d_Hands_copyFrom_12 : decode b_Hands_copyFrom 12 = .ok (.getfield 20, 3) := by decide +kernel
theorem d_Hands_copyFrom_15 : decode b_Hands_copyFrom 15 = .ok (.aload_n 1, 1) := by decide +kernel
theorem d_Hands_copyFrom_16 : decode b_Hands_copyFrom 16 = .ok (.getfield 20, 3) := by decide +kernel
theorem d_Hands_copyFrom_19 : decode b_Hands_copyFrom 19 = .ok (.invokevirtual 32, 3) := by decide +kernel
theorem d_Hands_copyFrom_22 : decode b_Hands_copyFrom 22 = .ok (.return_, 1) := by decide +kernel
noncomputable def f_Hands_copyFrom (z : Nat → Nat) (σ : Mm) (o : Nat) (o1 : Nat) : Option (Mm) :=
  (f_Row_copyFrom z σ (o + 1) (o1 + 1)).bind fun q8 =>
  (f_Row_copyFrom z q8 (o + 3) (o1 + 3)).bind fun q19 =>
  some q19
set_option maxHeartbeats 4000000 in
set_option maxRecDepth 100000 in
theorem c_Hands_copyFrom (l : Launch) {L : Ly} (hg : gd_ok L) {σ : Mm} {o : Nat} {o1 : Nat} (k_o_0 : ly_k L o = 3) (k_o1_0 : ly_k L o1 = 3) {res : Mm} (hf0 : f_Hands_copyFrom (ly_z L) σ o o1 = some res) : CtV l y_Hands_copyFrom b_Hands_copyFrom 2 (none) rm_Hands_copyFrom L [.ref (ly_a L o), .ref (ly_a L o1)] σ res := by
  refine ct_v hg (by decide) (Nat.le_of_ble_eq_true rfl) ?_
  intro E A Q hE C hN
  subst hE
  have k_o_1 : ly_k L (o + 1) = 0 := gd_Hands_held hg k_o_0
  have k_o1_1 : ly_k L (o1 + 1) = 0 := gd_Hands_held hg k_o1_0
  have k_o_3 : ly_k L (o + 3) = 0 := gd_Hands_sits hg k_o_0
  have k_o1_3 : ly_k L (o1 + 3) = 0 := gd_Hands_sits hg k_o1_0
  unfold f_Hands_copyFrom at hf0
  show GW E L A 2 0 0 Q σ 0 [(0, .ref (ly_a L o)), (1, .ref (ly_a L o1))] []
  refine gw_aload_n C 0 d_Hands_copyFrom_0 rfl rfl ?_
  refine gw_getA C 0 d_Hands_copyFrom_1 k_o_0 (by decide) i_Hands rfl rfl (by decide) qw_186 rfl rfl (o + 1) rfl ?_
  refine gw_aload_n C 1 d_Hands_copyFrom_4 rfl rfl ?_
  refine gw_getA C 0 d_Hands_copyFrom_5 k_o1_0 (by decide) i_Hands rfl rfl (by decide) qw_186 rfl rfl (o1 + 1) rfl ?_
  obtain ⟨q8, hq8, hf0⟩ := mx_bd hf0
  refine gw_callV C (c_Row_copyFrom _ hg k_o_1 k_o1_1 hq8) d_Hands_copyFrom_8 1 qw_689 qw_682 qw_683 qw_4 qw_684 k_o_1 (by decide) rfl hd_Row_copyFrom rfl rfl (Nat.le_of_ble_eq_true rfl) ⟨rfl, rfl, Nat.le_of_ble_eq_true rfl, Nat.le_of_ble_eq_true rfl⟩ ⟨Nat.zero_le _, Nat.zero_le _⟩ ?_
  refine gw_aload_n C 0 d_Hands_copyFrom_11 rfl rfl ?_
  refine gw_getA C 1 d_Hands_copyFrom_12 k_o_0 (by decide) i_Hands rfl rfl (by decide) qw_191 rfl rfl (o + 3) rfl ?_
  refine gw_aload_n C 1 d_Hands_copyFrom_15 rfl rfl ?_
  refine gw_getA C 1 d_Hands_copyFrom_16 k_o1_0 (by decide) i_Hands rfl rfl (by decide) qw_191 rfl rfl (o1 + 3) rfl ?_
  obtain ⟨q19, hq19, hf0⟩ := mx_bd hf0
  refine gw_callV C (c_Row_copyFrom _ hg k_o_3 k_o1_3 hq19) d_Hands_copyFrom_19 1 qw_689 qw_682 qw_683 qw_4 qw_684 k_o_3 (by decide) rfl hd_Row_copyFrom rfl rfl (Nat.le_of_ble_eq_true rfl) ⟨rfl, rfl, Nat.le_of_ble_eq_true rfl, Nat.le_of_ble_eq_true rfl⟩ ⟨Nat.zero_le _, Nat.zero_le _⟩ ?_
  exact en_v hN hf0 d_Hands_copyFrom_22

/-! NameHat.State.copyFrom(LNameHat.State;)V -/
abbrev b_State_copyFrom : ByteArray := prog_10_method_4_code
def y_State_copyFrom : MethodName := ⟨"NameHat$State", "copyFrom", "(LNameHat$State;)V"⟩
abbrev rm_State_copyFrom : Room := { frames := 2, cells := 0, slots := 0, locals := 43 }
theorem hd_State_copyFrom : y_State_copyFrom.cls ≠ "java/lang/invoke/MethodHandle" ∧ y_State_copyFrom.cls ≠ "java/lang/invoke/VarHandle" ∧ (parseMethodDescriptor y_State_copyFrom.desc).map (fun d => d.parameters.length) = some 1 := by decide +kernel
theorem d_State_copyFrom_0 : decode b_State_copyFrom 0 = .ok (.aload_n 0, 1) := by decide +kernel
theorem d_State_copyFrom_1 : decode b_State_copyFrom 1 = .ok (.getfield 12, 3) := by decide +kernel
theorem d_State_copyFrom_4 : decode b_State_copyFrom 4 = .ok (.aload_n 1, 1) := by decide +kernel
theorem d_State_copyFrom_5 : decode b_State_copyFrom 5 = .ok (.getfield 12, 3) := by decide +kernel
theorem d_State_copyFrom_8 : decode b_State_copyFrom 8 = .ok (.invokevirtual 70, 3) := by decide +kernel
theorem d_State_copyFrom_11 : decode b_State_copyFrom 11 = .ok (.aload_n 0, 1) := by decide +kernel
theorem d_State_copyFrom_12 : decode b_State_copyFrom 12 = .ok (.getfield 21, 3) := by decide +kernel
theorem d_State_copyFrom_15 : decode b_State_copyFrom 15 = .ok (.aload_n 1, 1) := by decide +kernel
theorem d_State_copyFrom_16 : decode b_State_copyFrom 16 = .ok (.getfield 21, 3) := by decide +kernel
theorem d_State_copyFrom_19 : decode b_State_copyFrom 19 = .ok (.invokevirtual 74, 3) := by decide +kernel
theorem d_State_copyFrom_22 : decode b_State_copyFrom 22 = .ok (.aload_n 0, 1) := by decide +kernel
theorem d_State_copyFrom_23 : decode b_State_copyFrom 23 = .ok (.aload_n 1, 1) := by decide +kernel
theorem d_State_copyFrom_24 : decode b_State_copyFrom 24 = .ok (.getfield 54, 3) := by decide +kernel
theorem d_State_copyFrom_27 : decode b_State_copyFrom 27 = .ok (.putfield 54, 3) := by decide +kernel
theorem d_State_copyFrom_30 : decode b_State_copyFrom 30 = .ok (.aload_n 0, 1) := by decide +kernel
theorem d_State_copyFrom_31 : decode b_State_copyFrom 31 = .ok (.getfield 30, 3) := by decide +kernel
theorem d_State_copyFrom_34 : decode b_State_copyFrom 34 = .ok (.aload_n 1, 1) := by decide +kernel
theorem d_State_copyFrom_35 : decode b_State_copyFrom 35 = .ok (.getfield 30, 3) := by decide +kernel
theorem d_State_copyFrom_38 : decode b_State_copyFrom 38 = .ok (.invokevirtual 77, 3) := by decide +kernel
theorem d_State_copyFrom_41 : decode b_State_copyFrom 41 = .ok (.aload_n 0, 1) := by decide +kernel
theorem d_State_copyFrom_42 : decode b_State_copyFrom 42 = .ok (.getfield 34, 3) := by decide +kernel
theorem d_State_copyFrom_45 : decode b_State_copyFrom 45 = .ok (.aload_n 1, 1) := by decide +kernel
theorem d_State_copyFrom_46 : decode b_State_copyFrom 46 = .ok (.getfield 34, 3) := by decide +kernel
theorem d_State_copyFrom_49 : decode b_State_copyFrom 49 = .ok (.invokevirtual 77, 3) := by decide +kernel
theorem d_State_copyFrom_52 : decode b_State_copyFrom 52 = .ok (.aload_n 0, 1) := by decide +kernel
theorem d_State_copyFrom_53 : decode b_State_copyFrom 53 = .ok (.aload_n 1, 1) := by decide +kernel
theorem d_State_copyFrom_54 : decode b_State_copyFrom 54 = .ok (.getfield 67, 3) := by decide +kernel
theorem d_State_copyFrom_57 : decode b_State_copyFrom 57 = .ok (.putfield 67, 3) := by decide +kernel
theorem d_State_copyFrom_60 : decode b_State_copyFrom 60 = .ok (.aload_n 0, 1) := by decide +kernel
theorem d_State_copyFrom_61 : decode b_State_copyFrom 61 = .ok (.getfield 37, 3) := by decide +kernel
theorem d_State_copyFrom_64 : decode b_State_copyFrom 64 = .ok (.aload_n 1, 1) := by decide +kernel
theorem d_State_copyFrom_65 : decode b_State_copyFrom 65 = .ok (.getfield 37, 3) := by decide +kernel
theorem d_State_copyFrom_68 : decode b_State_copyFrom 68 = .ok (.invokevirtual 77, 3) := by decide +kernel
theorem d_State_copyFrom_71 : decode b_State_copyFrom 71 = .ok (.aload_n 0, 1) := by decide +kernel
theorem d_State_copyFrom_72 : decode b_State_copyFrom 72 = .ok (.aload_n 1, 1) := by decide +kernel
theorem d_State_copyFrom_73 : decode b_State_copyFrom 73 = .ok (.getfield 64, 3) := by decide +kernel
theorem d_State_copyFrom_76 : decode b_State_copyFrom 76 = .ok (.putfield 64, 3) := by decide +kernel
theorem d_State_copyFrom_79 : decode b_State_copyFrom 79 = .ok (.aload_n 0, 1) := by decide +kernel
theorem d_State_copyFrom_80 : decode b_State_copyFrom 80 = .ok (.getfield 40, 3) := by decide +kernel
theorem d_State_copyFrom_83 : decode b_State_copyFrom 83 = .ok (.aload_n 1, 1) := by decide +kernel
theorem d_State_copyFrom_84 : decode b_State_copyFrom 84 = .ok (.getfield 40, 3) := by decide +kernel
theorem d_State_copyFrom_87 : decode b_State_copyFrom 87 = .ok (.invokevirtual 77, 3) := by decide +kernel
theorem d_State_copyFrom_90 : decode b_State_copyFrom 90 = .ok (.aload_n 0, 1) := by decide +kernel
theorem d_State_copyFrom_91 : decode b_State_copyFrom 91 = .ok (.getfield 43, 3) := by decide +kernel
theorem d_State_copyFrom_94 : decode b_State_copyFrom 94 = .ok (.aload_n 1, 1) := by decide +kernel
theorem d_State_copyFrom_95 : decode b_State_copyFrom 95 = .ok (.getfield 43, 3) := by decide +kernel
theorem d_State_copyFrom_98 : decode b_State_copyFrom 98 = .ok (.invokevirtual 77, 3) := by decide +kernel
theorem d_State_copyFrom_101 : decode b_State_copyFrom 101 = .ok (.aload_n 0, 1) := by decide +kernel
theorem d_State_copyFrom_102 : decode b_State_copyFrom 102 = .ok (.getfield 46, 3) := by decide +kernel
theorem d_State_copyFrom_105 : decode b_State_copyFrom 105 = .ok (.aload_n 1, 1) := by decide +kernel
theorem d_State_copyFrom_106 : decode b_State_copyFrom 106 = .ok (.getfield 46, 3) := by decide +kernel
theorem d_State_copyFrom_109 : decode b_State_copyFrom 109 = .ok (.invokevirtual 77, 3) := by decide +kernel
theorem d_State_copyFrom_112 : decode b_State_copyFrom 112 = .ok (.return_, 1) := by decide +kernel
noncomputable def f_State_copyFrom (z : Nat → Nat) (σ : Mm) (o : Nat) (o1 : Nat) : Option (Mm) :=
  (f_Island_copyFrom z σ (o + 1) (o1 + 1)).bind fun q8 =>
  (f_Hands_copyFrom z q8 (o + 14) (o1 + 14)).bind fun q19 =>
  mm_lt (kI q19 o 2 (q19.1 o1 2)) fun m27 =>
  (f_Row_copyFrom z m27 (o + 23) (o1 + 23)).bind fun q38 =>
  (f_Row_copyFrom z q38 (o + 25) (o1 + 25)).bind fun q49 =>
  mm_lt (kI q49 o 5 (q49.1 o1 5)) fun m57 =>
  (f_Row_copyFrom z m57 (o + 27) (o1 + 27)).bind fun q68 =>
  mm_lt (kI q68 o 7 (q68.1 o1 7)) fun m76 =>
  (f_Row_copyFrom z m76 (o + 29) (o1 + 29)).bind fun q87 =>
  (f_Row_copyFrom z q87 (o + 31) (o1 + 31)).bind fun q98 =>
  (f_Row_copyFrom z q98 (o + 33) (o1 + 33)).bind fun q109 =>
  some q109
set_option maxHeartbeats 4000000 in
set_option maxRecDepth 100000 in
theorem c_State_copyFrom (l : Launch) {L : Ly} (hg : gd_ok L) {σ : Mm} {o : Nat} {o1 : Nat} (k_o_0 : ly_k L o = 4) (k_o1_0 : ly_k L o1 = 4) {res : Mm} (hf0 : f_State_copyFrom (ly_z L) σ o o1 = some res) : CtV l y_State_copyFrom b_State_copyFrom 2 (none) rm_State_copyFrom L [.ref (ly_a L o), .ref (ly_a L o1)] σ res := by
  refine ct_v hg (by decide) (Nat.le_of_ble_eq_true rfl) ?_
  intro E A Q hE C hN
  subst hE
  have k_o_1 : ly_k L (o + 1) = 2 := gd_State_island hg k_o_0
  have k_o1_1 : ly_k L (o1 + 1) = 2 := gd_State_island hg k_o1_0
  have k_o_14 : ly_k L (o + 14) = 3 := gd_State_hands hg k_o_0
  have k_o1_14 : ly_k L (o1 + 14) = 3 := gd_State_hands hg k_o1_0
  have k_o_23 : ly_k L (o + 23) = 0 := gd_State_ended hg k_o_0
  have k_o1_23 : ly_k L (o1 + 23) = 0 := gd_State_ended hg k_o1_0
  have k_o_25 : ly_k L (o + 25) = 0 := gd_State_drawn hg k_o_0
  have k_o1_25 : ly_k L (o1 + 25) = 0 := gd_State_drawn hg k_o1_0
  have k_o_27 : ly_k L (o + 27) = 0 := gd_State_fits hg k_o_0
  have k_o1_27 : ly_k L (o1 + 27) = 0 := gd_State_fits hg k_o1_0
  have k_o_29 : ly_k L (o + 29) = 0 := gd_State_bookWords hg k_o_0
  have k_o1_29 : ly_k L (o1 + 29) = 0 := gd_State_bookWords hg k_o1_0
  have k_o_31 : ly_k L (o + 31) = 0 := gd_State_bookFirsts hg k_o_0
  have k_o1_31 : ly_k L (o1 + 31) = 0 := gd_State_bookFirsts hg k_o1_0
  have k_o_33 : ly_k L (o + 33) = 0 := gd_State_bookSeconds hg k_o_0
  have k_o1_33 : ly_k L (o1 + 33) = 0 := gd_State_bookSeconds hg k_o1_0
  unfold f_State_copyFrom at hf0
  show GW E L A 2 0 0 Q σ 0 [(0, .ref (ly_a L o)), (1, .ref (ly_a L o1))] []
  refine gw_aload_n C 0 d_State_copyFrom_0 rfl rfl ?_
  refine gw_getA C 0 d_State_copyFrom_1 k_o_0 (by decide) i_State rfl rfl (by decide) qw_234 rfl rfl (o + 1) rfl ?_
  refine gw_aload_n C 1 d_State_copyFrom_4 rfl rfl ?_
  refine gw_getA C 0 d_State_copyFrom_5 k_o1_0 (by decide) i_State rfl rfl (by decide) qw_234 rfl rfl (o1 + 1) rfl ?_
  obtain ⟨q8, hq8, hf0⟩ := mx_bd hf0
  refine gw_callV C (c_Island_copyFrom _ hg k_o_1 k_o1_1 hq8) d_State_copyFrom_8 1 qw_673 qw_674 qw_675 qw_6 qw_676 k_o_1 (by decide) rfl hd_Island_copyFrom rfl rfl (Nat.le_of_ble_eq_true rfl) ⟨rfl, rfl, Nat.le_of_ble_eq_true rfl, Nat.le_of_ble_eq_true rfl⟩ ⟨Nat.zero_le _, Nat.zero_le _⟩ ?_
  refine gw_aload_n C 0 d_State_copyFrom_11 rfl rfl ?_
  refine gw_getA C 1 d_State_copyFrom_12 k_o_0 (by decide) i_State rfl rfl (by decide) qw_238 rfl rfl (o + 14) rfl ?_
  refine gw_aload_n C 1 d_State_copyFrom_15 rfl rfl ?_
  refine gw_getA C 1 d_State_copyFrom_16 k_o1_0 (by decide) i_State rfl rfl (by decide) qw_238 rfl rfl (o1 + 14) rfl ?_
  obtain ⟨q19, hq19, hf0⟩ := mx_bd hf0
  refine gw_callV C (c_Hands_copyFrom _ hg k_o_14 k_o1_14 hq19) d_State_copyFrom_19 1 qw_685 qw_686 qw_687 qw_8 qw_688 k_o_14 (by decide) rfl hd_Hands_copyFrom rfl rfl (Nat.le_of_ble_eq_true rfl) ⟨rfl, rfl, Nat.le_of_ble_eq_true rfl, Nat.le_of_ble_eq_true rfl⟩ ⟨Nat.zero_le _, Nat.zero_le _⟩ ?_
  refine gw_aload_n C 0 d_State_copyFrom_22 rfl rfl ?_
  refine gw_aload_n C 1 d_State_copyFrom_23 rfl rfl ?_
  refine gw_getI C 2 d_State_copyFrom_24 k_o1_0 (by decide) i_State rfl rfl (by decide) qw_241 rfl rfl ?_
  obtain ⟨m27, em27, hf0⟩ := mx_lt hf0
  refine gw_putI t_State C 2 d_State_copyFrom_27 k_o_0 (by decide) i_State rfl rfl (by decide) qw_241 rfl rfl t_State_ok n_State rfl (t_State_ok 2 (by decide)) rfl rfl em27 ?_
  refine gw_aload_n C 0 d_State_copyFrom_30 rfl rfl ?_
  refine gw_getA C 3 d_State_copyFrom_31 k_o_0 (by decide) i_State rfl rfl (by decide) qw_243 rfl rfl (o + 23) rfl ?_
  refine gw_aload_n C 1 d_State_copyFrom_34 rfl rfl ?_
  refine gw_getA C 3 d_State_copyFrom_35 k_o1_0 (by decide) i_State rfl rfl (by decide) qw_243 rfl rfl (o1 + 23) rfl ?_
  obtain ⟨q38, hq38, hf0⟩ := mx_bd hf0
  refine gw_callV C (c_Row_copyFrom _ hg k_o_23 k_o1_23 hq38) d_State_copyFrom_38 1 qw_690 qw_682 qw_683 qw_4 qw_684 k_o_23 (by decide) rfl hd_Row_copyFrom rfl rfl (Nat.le_of_ble_eq_true rfl) ⟨rfl, rfl, Nat.le_of_ble_eq_true rfl, Nat.le_of_ble_eq_true rfl⟩ ⟨Nat.zero_le _, Nat.zero_le _⟩ ?_
  refine gw_aload_n C 0 d_State_copyFrom_41 rfl rfl ?_
  refine gw_getA C 4 d_State_copyFrom_42 k_o_0 (by decide) i_State rfl rfl (by decide) qw_244 rfl rfl (o + 25) rfl ?_
  refine gw_aload_n C 1 d_State_copyFrom_45 rfl rfl ?_
  refine gw_getA C 4 d_State_copyFrom_46 k_o1_0 (by decide) i_State rfl rfl (by decide) qw_244 rfl rfl (o1 + 25) rfl ?_
  obtain ⟨q49, hq49, hf0⟩ := mx_bd hf0
  refine gw_callV C (c_Row_copyFrom _ hg k_o_25 k_o1_25 hq49) d_State_copyFrom_49 1 qw_690 qw_682 qw_683 qw_4 qw_684 k_o_25 (by decide) rfl hd_Row_copyFrom rfl rfl (Nat.le_of_ble_eq_true rfl) ⟨rfl, rfl, Nat.le_of_ble_eq_true rfl, Nat.le_of_ble_eq_true rfl⟩ ⟨Nat.zero_le _, Nat.zero_le _⟩ ?_
  refine gw_aload_n C 0 d_State_copyFrom_52 rfl rfl ?_
  refine gw_aload_n C 1 d_State_copyFrom_53 rfl rfl ?_
  refine gw_getI C 5 d_State_copyFrom_54 k_o1_0 (by decide) i_State rfl rfl (by decide) qw_245 rfl rfl ?_
  obtain ⟨m57, em57, hf0⟩ := mx_lt hf0
  refine gw_putI t_State C 5 d_State_copyFrom_57 k_o_0 (by decide) i_State rfl rfl (by decide) qw_245 rfl rfl t_State_ok n_State rfl (t_State_ok 5 (by decide)) rfl rfl em57 ?_
  refine gw_aload_n C 0 d_State_copyFrom_60 rfl rfl ?_
  refine gw_getA C 6 d_State_copyFrom_61 k_o_0 (by decide) i_State rfl rfl (by decide) qw_248 rfl rfl (o + 27) rfl ?_
  refine gw_aload_n C 1 d_State_copyFrom_64 rfl rfl ?_
  refine gw_getA C 6 d_State_copyFrom_65 k_o1_0 (by decide) i_State rfl rfl (by decide) qw_248 rfl rfl (o1 + 27) rfl ?_
  obtain ⟨q68, hq68, hf0⟩ := mx_bd hf0
  refine gw_callV C (c_Row_copyFrom _ hg k_o_27 k_o1_27 hq68) d_State_copyFrom_68 1 qw_690 qw_682 qw_683 qw_4 qw_684 k_o_27 (by decide) rfl hd_Row_copyFrom rfl rfl (Nat.le_of_ble_eq_true rfl) ⟨rfl, rfl, Nat.le_of_ble_eq_true rfl, Nat.le_of_ble_eq_true rfl⟩ ⟨Nat.zero_le _, Nat.zero_le _⟩ ?_
  refine gw_aload_n C 0 d_State_copyFrom_71 rfl rfl ?_
  refine gw_aload_n C 1 d_State_copyFrom_72 rfl rfl ?_
  refine gw_getI C 7 d_State_copyFrom_73 k_o1_0 (by decide) i_State rfl rfl (by decide) qw_252 rfl rfl ?_
  obtain ⟨m76, em76, hf0⟩ := mx_lt hf0
  refine gw_putI t_State C 7 d_State_copyFrom_76 k_o_0 (by decide) i_State rfl rfl (by decide) qw_252 rfl rfl t_State_ok n_State rfl (t_State_ok 7 (by decide)) rfl rfl em76 ?_
  refine gw_aload_n C 0 d_State_copyFrom_79 rfl rfl ?_
  refine gw_getA C 8 d_State_copyFrom_80 k_o_0 (by decide) i_State rfl rfl (by decide) qw_255 rfl rfl (o + 29) rfl ?_
  refine gw_aload_n C 1 d_State_copyFrom_83 rfl rfl ?_
  refine gw_getA C 8 d_State_copyFrom_84 k_o1_0 (by decide) i_State rfl rfl (by decide) qw_255 rfl rfl (o1 + 29) rfl ?_
  obtain ⟨q87, hq87, hf0⟩ := mx_bd hf0
  refine gw_callV C (c_Row_copyFrom _ hg k_o_29 k_o1_29 hq87) d_State_copyFrom_87 1 qw_690 qw_682 qw_683 qw_4 qw_684 k_o_29 (by decide) rfl hd_Row_copyFrom rfl rfl (Nat.le_of_ble_eq_true rfl) ⟨rfl, rfl, Nat.le_of_ble_eq_true rfl, Nat.le_of_ble_eq_true rfl⟩ ⟨Nat.zero_le _, Nat.zero_le _⟩ ?_
  refine gw_aload_n C 0 d_State_copyFrom_90 rfl rfl ?_
  refine gw_getA C 9 d_State_copyFrom_91 k_o_0 (by decide) i_State rfl rfl (by decide) qw_258 rfl rfl (o + 31) rfl ?_
  refine gw_aload_n C 1 d_State_copyFrom_94 rfl rfl ?_
  refine gw_getA C 9 d_State_copyFrom_95 k_o1_0 (by decide) i_State rfl rfl (by decide) qw_258 rfl rfl (o1 + 31) rfl ?_
  obtain ⟨q98, hq98, hf0⟩ := mx_bd hf0
  refine gw_callV C (c_Row_copyFrom _ hg k_o_31 k_o1_31 hq98) d_State_copyFrom_98 1 qw_690 qw_682 qw_683 qw_4 qw_684 k_o_31 (by decide) rfl hd_Row_copyFrom rfl rfl (Nat.le_of_ble_eq_true rfl) ⟨rfl, rfl, Nat.le_of_ble_eq_true rfl, Nat.le_of_ble_eq_true rfl⟩ ⟨Nat.zero_le _, Nat.zero_le _⟩ ?_
  refine gw_aload_n C 0 d_State_copyFrom_101 rfl rfl ?_
  refine gw_getA C 10 d_State_copyFrom_102 k_o_0 (by decide) i_State rfl rfl (by decide) qw_261 rfl rfl (o + 33) rfl ?_
  refine gw_aload_n C 1 d_State_copyFrom_105 rfl rfl ?_
  refine gw_getA C 10 d_State_copyFrom_106 k_o1_0 (by decide) i_State rfl rfl (by decide) qw_261 rfl rfl (o1 + 33) rfl ?_
  obtain ⟨q109, hq109, hf0⟩ := mx_bd hf0
  refine gw_callV C (c_Row_copyFrom _ hg k_o_33 k_o1_33 hq109) d_State_copyFrom_109 1 qw_690 qw_682 qw_683 qw_4 qw_684 k_o_33 (by decide) rfl hd_Row_copyFrom rfl rfl (Nat.le_of_ble_eq_true rfl) ⟨rfl, rfl, Nat.le_of_ble_eq_true rfl, Nat.le_of_ble_eq_true rfl⟩ ⟨Nat.zero_le _, Nat.zero_le _⟩ ?_
  exact en_v hN hf0 d_State_copyFrom_112

/-! NameHat.takeDraft()I -/
abbrev b_Hat_takeDraft : ByteArray := prog_1_method_9_code
def y_Hat_takeDraft : MethodName := ⟨"NameHat", "takeDraft", "()I"⟩
abbrev rm_Hat_takeDraft : Room := { frames := 3, cells := 0, slots := 0, locals := 64 }
theorem hd_Hat_takeDraft : y_Hat_takeDraft.cls ≠ "java/lang/invoke/MethodHandle" ∧ y_Hat_takeDraft.cls ≠ "java/lang/invoke/VarHandle" ∧ (parseMethodDescriptor y_Hat_takeDraft.desc).map (fun d => d.parameters.length) = some 0 := by decide +kernel
theorem d_Hat_takeDraft_0 : decode b_Hat_takeDraft 0 = .ok (.aload_n 0, 1) := by decide +kernel
theorem d_Hat_takeDraft_1 : decode b_Hat_takeDraft 1 = .ok (.iconst 0, 1) := by decide +kernel
theorem d_Hat_takeDraft_2 : decode b_Hat_takeDraft 2 = .ok (.putfield 77, 3) := by decide +kernel
theorem d_Hat_takeDraft_5 : decode b_Hat_takeDraft 5 = .ok (.aload_n 0, 1) := by decide +kernel
theorem d_Hat_takeDraft_6 : decode b_Hat_takeDraft 6 = .ok (.aload_n 0, 1) := by decide +kernel
theorem d_Hat_takeDraft_7 : decode b_Hat_takeDraft 7 = .ok (.getfield 10, 3) := by decide +kernel
theorem d_Hat_takeDraft_10 : decode b_Hat_takeDraft 10 = .ok (.getfield 112, 3) := by decide +kernel
theorem d_Hat_takeDraft_13 : decode b_Hat_takeDraft 13 = .ok (.putfield 99, 3) := by decide +kernel
theorem d_Hat_takeDraft_16 : decode b_Hat_takeDraft 16 = .ok (.aload_n 0, 1) := by decide +kernel
theorem d_Hat_takeDraft_17 : decode b_Hat_takeDraft 17 = .ok (.getfield 99, 3) := by decide +kernel
theorem d_Hat_takeDraft_20 : decode b_Hat_takeDraft 20 = .ok (.ifCond .eq 13, 3) := by decide +kernel
theorem d_Hat_takeDraft_23 : decode b_Hat_takeDraft 23 = .ok (.iconst (-1), 1) := by decide +kernel
theorem d_Hat_takeDraft_24 : decode b_Hat_takeDraft 24 = .ok (.aload_n 0, 1) := by decide +kernel
theorem d_Hat_takeDraft_25 : decode b_Hat_takeDraft 25 = .ok (.getfield 10, 3) := by decide +kernel
theorem d_Hat_takeDraft_28 : decode b_Hat_takeDraft 28 = .ok (.getfield 115, 3) := by decide +kernel
theorem d_Hat_takeDraft_31 : decode b_Hat_takeDraft 31 = .ok (.isub, 1) := by decide +kernel
theorem d_Hat_takeDraft_32 : decode b_Hat_takeDraft 32 = .ok (.ireturn, 1) := by decide +kernel
theorem d_Hat_takeDraft_33 : decode b_Hat_takeDraft 33 = .ok (.aload_n 0, 1) := by decide +kernel
theorem d_Hat_takeDraft_34 : decode b_Hat_takeDraft 34 = .ok (.getfield 57, 3) := by decide +kernel
theorem d_Hat_takeDraft_37 : decode b_Hat_takeDraft 37 = .ok (.aload_n 0, 1) := by decide +kernel
theorem d_Hat_takeDraft_38 : decode b_Hat_takeDraft 38 = .ok (.getfield 31, 3) := by decide +kernel
theorem d_Hat_takeDraft_41 : decode b_Hat_takeDraft 41 = .ok (.invokevirtual 102, 3) := by decide +kernel
theorem d_Hat_takeDraft_44 : decode b_Hat_takeDraft 44 = .ok (.aload_n 0, 1) := by decide +kernel
theorem d_Hat_takeDraft_45 : decode b_Hat_takeDraft 45 = .ok (.getfield 10, 3) := by decide +kernel
theorem d_Hat_takeDraft_48 : decode b_Hat_takeDraft 48 = .ok (.getfield 118, 3) := by decide +kernel
theorem d_Hat_takeDraft_51 : decode b_Hat_takeDraft 51 = .ok (.ireturn, 1) := by decide +kernel
noncomputable def f_Hat_takeDraft (z : Nat → Nat) (σ : Mm) (o : Nat) : Option (Int32 × Mm) :=
  mm_lt (kI σ o 1 (0 : Int32)) fun m2 =>
  mm_lt (kI m2 o 2 (m2.1 (o + 1) 3)) fun m13 =>
  if (m13.1 o 2) = 0 then (
    (f_State_copyFrom z m13 (o + 60) (o + 5)).bind fun q41 =>
    some ((q41.1 (o + 1) 2), q41)
  ) else (
    some ((((-1) : Int32) - (m13.1 (o + 1) 4)), m13)
  )
set_option maxHeartbeats 4000000 in
set_option maxRecDepth 100000 in
theorem c_Hat_takeDraft (l : Launch) {L : Ly} (hg : gd_ok L) {σ : Mm} {o : Nat} (k_o_0 : ly_k L o = 10) {res : Int32 × Mm} (hf0 : f_Hat_takeDraft (ly_z L) σ o = some res) : CtI l y_Hat_takeDraft b_Hat_takeDraft 1 (some .int) rm_Hat_takeDraft L [.ref (ly_a L o)] σ res.1 res.2 := by
  refine ct_i hg (by decide) (Nat.le_of_ble_eq_true rfl) ?_
  intro E A Q hE C hN
  subst hE
  have k_o_1 : ly_k L (o + 1) = 9 := gd_Hat_reader hg k_o_0
  have k_o_60 : ly_k L (o + 60) = 4 := gd_Hat_now hg k_o_0
  have k_o_5 : ly_k L (o + 5) = 4 := gd_Hat_draft hg k_o_0
  unfold f_Hat_takeDraft at hf0
  show GW E L A 1 0 0 Q σ 0 [(0, .ref (ly_a L o))] []
  refine gw_aload_n C 0 d_Hat_takeDraft_0 rfl rfl ?_
  refine gw_iconst C (0 : Int32) d_Hat_takeDraft_1 (by decide) ?_
  obtain ⟨m2, em2, hf0⟩ := mx_lt hf0
  refine gw_putI t_Hat C 1 d_Hat_takeDraft_2 k_o_0 (by decide) i_Hat rfl rfl (by decide) qw_404 rfl rfl t_Hat_ok n_Hat rfl (t_Hat_ok 1 (by decide)) rfl rfl em2 ?_
  refine gw_aload_n C 0 d_Hat_takeDraft_5 rfl rfl ?_
  refine gw_aload_n C 0 d_Hat_takeDraft_6 rfl rfl ?_
  refine gw_getA C 13 d_Hat_takeDraft_7 k_o_0 (by decide) i_Hat rfl rfl (by decide) qw_416 rfl rfl (o + 1) rfl ?_
  refine gw_getIN C 3 d_Hat_takeDraft_10 k_o_1 (by decide) i_Reader rfl rfl (by decide) qw_294 rfl rfl ?_
  obtain ⟨m13, em13, hf0⟩ := mx_lt hf0
  refine gw_putI t_Hat C 2 d_Hat_takeDraft_13 k_o_0 (by decide) i_Hat rfl rfl (by decide) qw_405 rfl rfl t_Hat_ok n_Hat rfl (t_Hat_ok 2 (by decide)) rfl rfl em13 ?_
  refine gw_aload_n C 0 d_Hat_takeDraft_16 rfl rfl ?_
  refine gw_getI C 2 d_Hat_takeDraft_17 k_o_0 (by decide) i_Hat rfl rfl (by decide) qw_405 rfl rfl ?_
  refine gw_if_eq C 33 d_Hat_takeDraft_20 (by decide) (fun hc => ?_) (fun hc => ?_)
  · replace hf0 := mx_t hc hf0
    refine gw_aload_n C 0 d_Hat_takeDraft_33 rfl rfl ?_
    refine gw_getA C 7 d_Hat_takeDraft_34 k_o_0 (by decide) i_Hat rfl rfl (by decide) qw_410 rfl rfl (o + 60) rfl ?_
    refine gw_aload_n C 0 d_Hat_takeDraft_37 rfl rfl ?_
    refine gw_getA C 8 d_Hat_takeDraft_38 k_o_0 (by decide) i_Hat rfl rfl (by decide) qw_411 rfl rfl (o + 5) rfl ?_
    obtain ⟨q41, hq41, hf0⟩ := mx_bd hf0
    refine gw_callV C (c_State_copyFrom _ hg k_o_60 k_o_5 hq41) d_Hat_takeDraft_41 1 qw_669 qw_670 qw_671 qw_5 qw_672 k_o_60 (by decide) rfl hd_State_copyFrom rfl rfl (Nat.le_of_ble_eq_true rfl) ⟨rfl, rfl, Nat.le_of_ble_eq_true rfl, Nat.le_of_ble_eq_true rfl⟩ ⟨Nat.zero_le _, Nat.zero_le _⟩ ?_
    refine gw_aload_n C 0 d_Hat_takeDraft_44 rfl rfl ?_
    refine gw_getA C 13 d_Hat_takeDraft_45 k_o_0 (by decide) i_Hat rfl rfl (by decide) qw_416 rfl rfl (o + 1) rfl ?_
    refine gw_getIN C 2 d_Hat_takeDraft_48 k_o_1 (by decide) i_Reader rfl rfl (by decide) qw_292 rfl rfl ?_
    exact en_i hN hf0 d_Hat_takeDraft_51
  · replace hf0 := mx_f hc hf0
    refine gw_iconst C ((-1) : Int32) d_Hat_takeDraft_23 (by decide) ?_
    refine gw_aload_n C 0 d_Hat_takeDraft_24 rfl rfl ?_
    refine gw_getA C 13 d_Hat_takeDraft_25 k_o_0 (by decide) i_Hat rfl rfl (by decide) qw_416 rfl rfl (o + 1) rfl ?_
    refine gw_getIN C 4 d_Hat_takeDraft_28 k_o_1 (by decide) i_Reader rfl rfl (by decide) qw_296 rfl rfl ?_
    refine gw_isub C d_Hat_takeDraft_31 ?_
    exact en_i hN hf0 d_Hat_takeDraft_32

/-! NameHat.fault()I -/
abbrev b_Hat_fault : ByteArray := prog_1_method_6_code
def y_Hat_fault : MethodName := ⟨"NameHat", "fault", "()I"⟩
abbrev rm_Hat_fault : Room := { frames := 0, cells := 0, slots := 0, locals := 0 }
theorem hd_Hat_fault : y_Hat_fault.cls ≠ "java/lang/invoke/MethodHandle" ∧ y_Hat_fault.cls ≠ "java/lang/invoke/VarHandle" ∧ (parseMethodDescriptor y_Hat_fault.desc).map (fun d => d.parameters.length) = some 0 := by decide +kernel
theorem d_Hat_fault_0 : decode b_Hat_fault 0 = .ok (.aload_n 0, 1) := by decide +kernel
theorem d_Hat_fault_1 : decode b_Hat_fault 1 = .ok (.getfield 99, 3) := by decide +kernel
theorem d_Hat_fault_4 : decode b_Hat_fault 4 = .ok (.ireturn, 1) := by decide +kernel
noncomputable def f_Hat_fault (z : Nat → Nat) (σ : Mm) (o : Nat) : Option (Int32) :=
  some (σ.1 o 2)
set_option maxHeartbeats 4000000 in
set_option maxRecDepth 100000 in
theorem c_Hat_fault (l : Launch) {L : Ly} (hg : gd_ok L) {σ : Mm} {o : Nat} (k_o_0 : ly_k L o = 10) {res : Int32} (hf0 : f_Hat_fault (ly_z L) σ o = some res) : CtI l y_Hat_fault b_Hat_fault 1 (some .int) rm_Hat_fault L [.ref (ly_a L o)] σ res σ := by
  refine ct_i hg (by decide) (Nat.le_of_ble_eq_true rfl) ?_
  intro E A Q hE C hN
  subst hE
  unfold f_Hat_fault at hf0
  show GW E L A 1 0 0 Q σ 0 [(0, .ref (ly_a L o))] []
  refine gw_aload_n C 0 d_Hat_fault_0 rfl rfl ?_
  refine gw_getI C 2 d_Hat_fault_1 k_o_0 (by decide) i_Hat rfl rfl (by decide) qw_405 rfl rfl ?_
  exact en_ip hN hf0 d_Hat_fault_4

/-! NameHat.Names.has(I)Z -/
abbrev b_Names_has : ByteArray := prog_5_method_2_code
def y_Names_has : MethodName := ⟨"NameHat$Names", "has", "(I)Z"⟩
abbrev rm_Names_has : Room := { frames := 0, cells := 0, slots := 0, locals := 0 }
theorem hd_Names_has : y_Names_has.cls ≠ "java/lang/invoke/MethodHandle" ∧ y_Names_has.cls ≠ "java/lang/invoke/VarHandle" ∧ (parseMethodDescriptor y_Names_has.desc).map (fun d => d.parameters.length) = some 1 := by decide +kernel
theorem d_Names_has_0 : decode b_Names_has 0 = .ok (.iload_n 1, 1) := by decide +kernel
theorem d_Names_has_1 : decode b_Names_has 1 = .ok (.ifCond .lt 15, 3) := by decide +kernel
theorem d_Names_has_4 : decode b_Names_has 4 = .ok (.iload_n 1, 1) := by decide +kernel
theorem d_Names_has_5 : decode b_Names_has 5 = .ok (.aload_n 0, 1) := by decide +kernel
theorem d_Names_has_6 : decode b_Names_has 6 = .ok (.getfield 15, 3) := by decide +kernel
theorem d_Names_has_9 : decode b_Names_has 9 = .ok (.if_icmp .ge 7, 3) := by decide +kernel
theorem d_Names_has_12 : decode b_Names_has 12 = .ok (.iconst 1, 1) := by decide +kernel
theorem d_Names_has_13 : decode b_Names_has 13 = .ok (.goto 4, 3) := by decide +kernel
theorem d_Names_has_16 : decode b_Names_has 16 = .ok (.iconst 0, 1) := by decide +kernel
theorem d_Names_has_17 : decode b_Names_has 17 = .ok (.ireturn, 1) := by decide +kernel
noncomputable def f_Names_has (z : Nat → Nat) (σ : Mm) (o : Nat) (p1 : Int32) : Option (Int32) :=
  if p1 < 0 then (
    some (0 : Int32)
  ) else (
    if (σ.1 o 1) ≤ p1 then (
      some (0 : Int32)
    ) else (
      some (1 : Int32)
    )
  )
set_option maxHeartbeats 4000000 in
set_option maxRecDepth 100000 in
theorem c_Names_has (l : Launch) {L : Ly} (hg : gd_ok L) {σ : Mm} {o : Nat} {p1 : Int32} (k_o_0 : ly_k L o = 1) {res : Int32} (hf0 : f_Names_has (ly_z L) σ o p1 = some res) : CtI l y_Names_has b_Names_has 2 (some .boolean) rm_Names_has L [.ref (ly_a L o), .int p1] σ res σ := by
  refine ct_z hg (by decide) (Nat.le_of_ble_eq_true rfl) ?_
  intro E A Q hE C hN
  subst hE
  unfold f_Names_has at hf0
  show GW E L A 2 0 0 Q σ 0 [(0, .ref (ly_a L o)), (1, .int p1)] []
  refine gw_iload_n C 1 d_Names_has_0 rfl rfl ?_
  refine gw_if_lt C 16 d_Names_has_1 (by decide) (fun hc => ?_) (fun hc => ?_)
  · replace hf0 := mx_t hc hf0
    refine gw_iconst C (0 : Int32) d_Names_has_16 (by decide) ?_
    exact en_zp hN (Or.inl rfl) hf0 d_Names_has_17
  · replace hf0 := mx_f hc hf0
    refine gw_iload_n C 1 d_Names_has_4 rfl rfl ?_
    refine gw_aload_n C 0 d_Names_has_5 rfl rfl ?_
    refine gw_getI C 1 d_Names_has_6 k_o_0 (by decide) i_Names rfl rfl (by decide) qw_109 rfl rfl ?_
    refine gw_icmp_ge C 16 d_Names_has_9 (by decide) (fun hc => ?_) (fun hc => ?_)
    · replace hf0 := mx_t hc hf0
      refine gw_iconst C (0 : Int32) d_Names_has_16 (by decide) ?_
      exact en_zp hN (Or.inl rfl) hf0 d_Names_has_17
    · replace hf0 := mx_f hc hf0
      refine gw_iconst C (1 : Int32) d_Names_has_12 (by decide) ?_
      refine gw_goto C 17 d_Names_has_13 (by decide) ?_
      exact en_zp hN (Or.inr rfl) hf0 d_Names_has_17

/-! NameHat.Island.valueFor(II)I -/
abbrev b_Island_valueFor : ByteArray := prog_4_method_6_code
def y_Island_valueFor : MethodName := ⟨"NameHat$Island", "valueFor", "(II)I"⟩
abbrev rm_Island_valueFor : Room := { frames := 2, cells := 0, slots := 0, locals := 43 }
theorem hd_Island_valueFor : y_Island_valueFor.cls ≠ "java/lang/invoke/MethodHandle" ∧ y_Island_valueFor.cls ≠ "java/lang/invoke/VarHandle" ∧ (parseMethodDescriptor y_Island_valueFor.desc).map (fun d => d.parameters.length) = some 2 := by decide +kernel
theorem d_Island_valueFor_0 : decode b_Island_valueFor 0 = .ok (.aload_n 0, 1) := by decide +kernel
theorem d_Island_valueFor_1 : decode b_Island_valueFor 1 = .ok (.iload_n 1, 1) := by decide +kernel
theorem d_Island_valueFor_2 : decode b_Island_valueFor 2 = .ok (.iload_n 2, 1) := by decide +kernel
theorem d_Island_valueFor_3 : decode b_Island_valueFor 3 = .ok (.invokevirtual 70, 3) := by decide +kernel
theorem d_Island_valueFor_6 : decode b_Island_valueFor 6 = .ok (.istore_n 3, 1) := by decide +kernel
theorem d_Island_valueFor_7 : decode b_Island_valueFor 7 = .ok (.iload_n 3, 1) := by decide +kernel
theorem d_Island_valueFor_8 : decode b_Island_valueFor 8 = .ok (.iconst (-1), 1) := by decide +kernel
theorem d_Island_valueFor_9 : decode b_Island_valueFor 9 = .ok (.if_icmp .ne 14, 3) := by decide +kernel
theorem d_Island_valueFor_12 : decode b_Island_valueFor 12 = .ok (.aload_n 0, 1) := by decide +kernel
theorem d_Island_valueFor_13 : decode b_Island_valueFor 13 = .ok (.getfield 26, 3) := by decide +kernel
theorem d_Island_valueFor_16 : decode b_Island_valueFor 16 = .ok (.iload_n 2, 1) := by decide +kernel
theorem d_Island_valueFor_17 : decode b_Island_valueFor 17 = .ok (.invokevirtual 62, 3) := by decide +kernel
theorem d_Island_valueFor_20 : decode b_Island_valueFor 20 = .ok (.goto 4, 3) := by decide +kernel
theorem d_Island_valueFor_23 : decode b_Island_valueFor 23 = .ok (.iload_n 3, 1) := by decide +kernel
theorem d_Island_valueFor_24 : decode b_Island_valueFor 24 = .ok (.istore 4, 2) := by decide +kernel
theorem d_Island_valueFor_26 : decode b_Island_valueFor 26 = .ok (.aload_n 0, 1) := by decide +kernel
theorem d_Island_valueFor_27 : decode b_Island_valueFor 27 = .ok (.getfield 30, 3) := by decide +kernel
theorem d_Island_valueFor_30 : decode b_Island_valueFor 30 = .ok (.iload_n 2, 1) := by decide +kernel
theorem d_Island_valueFor_31 : decode b_Island_valueFor 31 = .ok (.invokevirtual 62, 3) := by decide +kernel
theorem d_Island_valueFor_34 : decode b_Island_valueFor 34 = .ok (.iconst 1, 1) := by decide +kernel
theorem d_Island_valueFor_35 : decode b_Island_valueFor 35 = .ok (.if_icmp .ne 13, 3) := by decide +kernel
theorem d_Island_valueFor_38 : decode b_Island_valueFor 38 = .ok (.aload_n 0, 1) := by decide +kernel
theorem d_Island_valueFor_39 : decode b_Island_valueFor 39 = .ok (.getfield 52, 3) := by decide +kernel
theorem d_Island_valueFor_42 : decode b_Island_valueFor 42 = .ok (.iload 4, 2) := by decide +kernel
theorem d_Island_valueFor_44 : decode b_Island_valueFor 44 = .ok (.isub, 1) := by decide +kernel
theorem d_Island_valueFor_45 : decode b_Island_valueFor 45 = .ok (.goto 5, 3) := by decide +kernel
theorem d_Island_valueFor_48 : decode b_Island_valueFor 48 = .ok (.iload 4, 2) := by decide +kernel
theorem d_Island_valueFor_50 : decode b_Island_valueFor 50 = .ok (.ireturn, 1) := by decide +kernel
noncomputable def f_Island_valueFor_J24 (z : Nat → Nat) (σ : Mm) (o : Nat) (v2 : Int32) (t24_0 : Int32) : Option (Int32) :=
  (f_Row_at z σ (o + 7) v2).bind fun q31 =>
  if q31 = (1 : Int32) then (
    some ((σ.1 o 8) - t24_0)
  ) else (
    some t24_0
  )
noncomputable def f_Island_valueFor (z : Nat → Nat) (σ : Mm) (o : Nat) (p1 : Int32) (p2 : Int32) : Option (Int32) :=
  (f_Island_wanted z σ o p1 p2).bind fun q3 =>
  if q3 = ((-1) : Int32) then (
    (f_Row_at z σ (o + 5) p2).bind fun q17 =>
    f_Island_valueFor_J24 z σ o p2 q17
  ) else (
    f_Island_valueFor_J24 z σ o p2 q3
  )
set_option maxHeartbeats 4000000 in
set_option maxRecDepth 100000 in
theorem c_Island_valueFor (l : Launch) {L : Ly} (hg : gd_ok L) {σ : Mm} {o : Nat} {p1 : Int32} {p2 : Int32} (k_o_0 : ly_k L o = 2) {res : Int32} (hf0 : f_Island_valueFor (ly_z L) σ o p1 p2 = some res) : CtI l y_Island_valueFor b_Island_valueFor 5 (some .int) rm_Island_valueFor L [.ref (ly_a L o), .int p1, .int p2] σ res σ := by
  refine ct_i hg (by decide) (Nat.le_of_ble_eq_true rfl) ?_
  intro E A Q hE C hN
  subst hE
  have k_o_7 : ly_k L (o + 7) = 0 := gd_Island_kinds hg k_o_0
  have k_o_5 : ly_k L (o + 5) = 0 := gd_Island_worths hg k_o_0
  unfold f_Island_valueFor at hf0
  show GW E L A 5 0 0 Q σ 0 [(0, .ref (ly_a L o)), (1, .int p1), (2, .int p2)] []
  have hj24 : ∀ (v2 : Int32) (t24_0 : Int32), f_Island_valueFor_J24 (ly_z L) σ o v2 t24_0 = some res → GW E L A 5 0 0 Q σ 24 [(0, .ref (ly_a L o)), (2, .int v2)] [.int t24_0] := by
    intro v2 t24_0 hf0
    unfold f_Island_valueFor_J24 at hf0
    refine gw_istore C [(4, .int t24_0), (0, .ref (ly_a L o)), (2, .int v2)] d_Island_valueFor_24 (by decide) rfl ?_
    refine gw_aload_n C 1 d_Island_valueFor_26 rfl rfl ?_
    refine gw_getA C 3 d_Island_valueFor_27 k_o_0 (by decide) i_Island rfl rfl (by decide) qw_141 rfl rfl (o + 7) rfl ?_
    refine gw_iload_n C 2 d_Island_valueFor_30 rfl rfl ?_
    obtain ⟨q31, hq31, hf0⟩ := mx_bd hf0
    refine gw_callI C (c_Row_at _ hg k_o_7 hq31) d_Island_valueFor_31 1 qw_618 qw_489 qw_490 qw_4 qw_491 k_o_7 (by decide) rfl hd_Row_at rfl rfl (Nat.le_of_ble_eq_true rfl) ⟨rfl, rfl, Nat.le_of_ble_eq_true rfl, Nat.le_of_ble_eq_true rfl⟩ ⟨Nat.zero_le _, Nat.zero_le _⟩ ?_
    refine gw_iconst C (1 : Int32) d_Island_valueFor_34 (by decide) ?_
    refine gw_icmp_ne C 48 d_Island_valueFor_35 (by decide) (fun hc => ?_) (fun hc => ?_)
    · replace hf0 := mx_f hc hf0
      refine gw_iload C 0 d_Island_valueFor_48 rfl ?_
      exact en_ip hN hf0 d_Island_valueFor_50
    · replace hf0 := mx_t hc hf0
      refine gw_aload_n C 1 d_Island_valueFor_38 rfl rfl ?_
      refine gw_getI C 8 d_Island_valueFor_39 k_o_0 (by decide) i_Island rfl rfl (by decide) qw_156 rfl rfl ?_
      refine gw_iload C 0 d_Island_valueFor_42 rfl ?_
      refine gw_isub C d_Island_valueFor_44 ?_
      refine gw_goto C 50 d_Island_valueFor_45 (by decide) ?_
      exact en_ip hN hf0 d_Island_valueFor_50
  refine gw_aload_n C 0 d_Island_valueFor_0 rfl rfl ?_
  refine gw_iload_n C 1 d_Island_valueFor_1 rfl rfl ?_
  refine gw_iload_n C 2 d_Island_valueFor_2 rfl rfl ?_
  obtain ⟨q3, hq3, hf0⟩ := mx_bd hf0
  refine gw_callI C (c_Island_wanted _ hg k_o_0 hq3) d_Island_valueFor_3 2 qw_760 qw_615 qw_616 qw_6 qw_617 k_o_0 (by decide) rfl hd_Island_wanted rfl rfl (Nat.le_of_ble_eq_true rfl) ⟨rfl, rfl, Nat.le_of_ble_eq_true rfl, Nat.le_of_ble_eq_true rfl⟩ ⟨Nat.zero_le _, Nat.zero_le _⟩ ?_
  refine gw_istore_n C [(3, .int q3), (0, .ref (ly_a L o)), (1, .int p1), (2, .int p2)] d_Island_valueFor_6 rfl (by decide) rfl ?_
  refine gw_iload_n C 0 d_Island_valueFor_7 rfl rfl ?_
  refine gw_iconst C ((-1) : Int32) d_Island_valueFor_8 (by decide) ?_
  refine gw_icmp_ne C 23 d_Island_valueFor_9 (by decide) (fun hc => ?_) (fun hc => ?_)
  · replace hf0 := mx_f hc hf0
    refine gw_iload_n C 0 d_Island_valueFor_23 rfl rfl ?_
    exact gw_go [1, 3] (hj24 _ _ hf0) rfl
  · replace hf0 := mx_t hc hf0
    refine gw_aload_n C 1 d_Island_valueFor_12 rfl rfl ?_
    refine gw_getA C 2 d_Island_valueFor_13 k_o_0 (by decide) i_Island rfl rfl (by decide) qw_137 rfl rfl (o + 5) rfl ?_
    refine gw_iload_n C 3 d_Island_valueFor_16 rfl rfl ?_
    obtain ⟨q17, hq17, hf0⟩ := mx_bd hf0
    refine gw_callI C (c_Row_at _ hg k_o_5 hq17) d_Island_valueFor_17 1 qw_618 qw_489 qw_490 qw_4 qw_491 k_o_5 (by decide) rfl hd_Row_at rfl rfl (Nat.le_of_ble_eq_true rfl) ⟨rfl, rfl, Nat.le_of_ble_eq_true rfl, Nat.le_of_ble_eq_true rfl⟩ ⟨Nat.zero_le _, Nat.zero_le _⟩ ?_
    refine gw_goto C 24 d_Island_valueFor_20 (by decide) ?_
    exact gw_go [1, 3] (hj24 _ _ hf0) rfl
