/-! NameHat.Names.clear()V -/
abbrev b_Names_clear : ByteArray := prog_5_method_7_code
def y_Names_clear : MethodName := ⟨"NameHat$Names", "clear", "()V"⟩
abbrev rm_Names_clear : Room := { frames := 0, cells := 0, slots := 0, locals := 0 }
theorem hd_Names_clear : y_Names_clear.cls ≠ "java/lang/invoke/MethodHandle" ∧ y_Names_clear.cls ≠ "java/lang/invoke/VarHandle" ∧ (parseMethodDescriptor y_Names_clear.desc).map (fun d => d.parameters.length) = some 0 := by decide +kernel
theorem d_Names_clear_0 : decode b_Names_clear 0 = .ok (.aload_n 0, 1) := by decide +kernel
theorem d_Names_clear_1 : decode b_Names_clear 1 = .ok (.iconst 0, 1) := by decide +kernel
theorem d_Names_clear_2 : decode b_Names_clear 2 = .ok (.putfield 15, 3) := by decide +kernel
theorem d_Names_clear_5 : decode b_Names_clear 5 = .ok (.return_, 1) := by decide +kernel
noncomputable def f_Names_clear (z : Nat → Nat) (σ : Mm) (o : Nat) : Option (Mm) :=
  mm_lt (kI σ o 1 (0 : Int32)) fun m2 =>
  some m2
set_option maxHeartbeats 4000000 in
set_option maxRecDepth 100000 in
theorem c_Names_clear (l : Launch) {L : Ly} (hg : gd_ok L) {σ : Mm} {o : Nat} (k_o_0 : ly_k L o = 1) {res : Mm} (hf0 : f_Names_clear (ly_z L) σ o = some res) : CtV l y_Names_clear b_Names_clear 1 (none) rm_Names_clear L [.ref (ly_a L o)] σ res := by
  refine ct_v hg (by decide) (Nat.le_of_ble_eq_true rfl) ?_
  intro E A Q hE C hN
  subst hE
  unfold f_Names_clear at hf0
  show GW E L A 1 0 0 Q σ 0 [(0, .ref (ly_a L o))] []
  refine gw_aload_n C 0 d_Names_clear_0 rfl rfl ?_
  refine gw_iconst C (0 : Int32) d_Names_clear_1 (by decide) ?_
  obtain ⟨m2, em2, hf0⟩ := mx_lt hf0
  refine gw_putI t_Names C 1 d_Names_clear_2 k_o_0 (by decide) i_Names rfl rfl (by decide) qw_109 rfl rfl t_Names_ok n_Names rfl (t_Names_ok 1 (by decide)) rfl rfl em2 ?_
  exact en_v hN hf0 d_Names_clear_5

/-! NameHat.Row.fill(I)V -/
abbrev b_Row_fill : ByteArray := prog_8_method_4_code
def y_Row_fill : MethodName := ⟨"NameHat$Row", "fill", "(I)V"⟩
abbrev rm_Row_fill : Room := { frames := 0, cells := 0, slots := 0, locals := 0 }
theorem hd_Row_fill : y_Row_fill.cls ≠ "java/lang/invoke/MethodHandle" ∧ y_Row_fill.cls ≠ "java/lang/invoke/VarHandle" ∧ (parseMethodDescriptor y_Row_fill.desc).map (fun d => d.parameters.length) = some 1 := by decide +kernel
theorem d_Row_fill_0 : decode b_Row_fill 0 = .ok (.iconst 0, 1) := by decide +kernel
theorem d_Row_fill_1 : decode b_Row_fill 1 = .ok (.istore_n 2, 1) := by decide +kernel
theorem d_Row_fill_2 : decode b_Row_fill 2 = .ok (.iload_n 2, 1) := by decide +kernel
theorem d_Row_fill_3 : decode b_Row_fill 3 = .ok (.aload_n 0, 1) := by decide +kernel
theorem d_Row_fill_4 : decode b_Row_fill 4 = .ok (.getfield 9, 3) := by decide +kernel
theorem d_Row_fill_7 : decode b_Row_fill 7 = .ok (.arraylength, 1) := by decide +kernel
theorem d_Row_fill_8 : decode b_Row_fill 8 = .ok (.if_icmp .ge 16, 3) := by decide +kernel
theorem d_Row_fill_11 : decode b_Row_fill 11 = .ok (.aload_n 0, 1) := by decide +kernel
theorem d_Row_fill_12 : decode b_Row_fill 12 = .ok (.getfield 9, 3) := by decide +kernel
theorem d_Row_fill_15 : decode b_Row_fill 15 = .ok (.iload_n 2, 1) := by decide +kernel
theorem d_Row_fill_16 : decode b_Row_fill 16 = .ok (.iload_n 1, 1) := by decide +kernel
theorem d_Row_fill_17 : decode b_Row_fill 17 = .ok (.iastore, 1) := by decide +kernel
theorem d_Row_fill_18 : decode b_Row_fill 18 = .ok (.iinc 2 1, 3) := by decide +kernel
theorem d_Row_fill_21 : decode b_Row_fill 21 = .ok (.goto (-19), 3) := by decide +kernel
theorem d_Row_fill_24 : decode b_Row_fill 24 = .ok (.return_, 1) := by decide +kernel
noncomputable def f_Row_fill_L2 (z : Nat → Nat) (o : Nat) (v1 : Int32) (s2 : Int32 × Mm) : Option ((Int32 × Mm) ⊕ (Mm)) :=
  if (nI (z (o + 1))) ≤ s2.1 then (
    some (.inr s2.2)
  ) else (
    (mm_stI s2.2 (o + 1) (z (o + 1)) s2.1 v1).bind fun m17 =>
    mm_lt (s2.1 + (1 : Int32)) fun x18 =>
    some (.inl (x18, m17))
  )
noncomputable def f_Row_fill (z : Nat → Nat) (σ : Mm) (o : Nat) (p1 : Int32) : Option (Mm) :=
  (mm_lp (f_Row_fill_L2 z o p1) ((0 : Int32), σ)).bind (fun q2 =>
    some q2)
set_option maxHeartbeats 4000000 in
set_option maxRecDepth 100000 in
theorem c_Row_fill (l : Launch) {L : Ly} (hg : gd_ok L) {σ : Mm} {o : Nat} {p1 : Int32} (k_o_0 : ly_k L o = 0) {res : Mm} (hf0 : f_Row_fill (ly_z L) σ o p1 = some res) : CtV l y_Row_fill b_Row_fill 3 (none) rm_Row_fill L [.ref (ly_a L o), .int p1] σ res := by
  refine ct_v hg (by decide) (Nat.le_of_ble_eq_true rfl) ?_
  intro E A Q hE C hN
  subst hE
  have k_o_1 : ly_k L (o + 1) = 20 := gd_Row_cells hg k_o_0
  unfold f_Row_fill at hf0
  show GW E L A 3 0 0 Q σ 0 [(0, .ref (ly_a L o)), (1, .int p1)] []
  refine gw_iconst C (0 : Int32) d_Row_fill_0 (by decide) ?_
  refine gw_istore_n C [(2, .int (0 : Int32)), (0, .ref (ly_a L o)), (1, .int p1)] d_Row_fill_1 rfl (by decide) rfl ?_
  obtain ⟨q2, hq2, hf0⟩ := mx_bd hf0
  have hk2 : ∀ x9, q2 = x9 → GW E L A 3 0 0 Q x9 24 [] [] := by
    intro x9 hx9
    subst hx9
    exact en_v hN hf0 d_Row_fill_24
  refine gw_sub [1, 2, 0] (lv' := [(0, .ref (ly_a L o)), (1, .int p1), (2, .int (0 : Int32))]) rfl ?_
  refine mm_rule hq2 (P := fun (s2 : Int32 × Mm) => GW E L A 3 0 0 Q s2.2 2 [(0, .ref (ly_a L o)), (1, .int p1), (2, .int s2.1)] []) ?_
  intro s2 ih2 hx2 ⟨w2, hb2⟩
  have hf1 := hb2
  unfold f_Row_fill_L2 at hf1
  refine gw_iload_n C 2 d_Row_fill_2 rfl rfl ?_
  refine gw_aload_n C 0 d_Row_fill_3 rfl rfl ?_
  refine gw_getA C 0 d_Row_fill_4 k_o_0 (by decide) i_Row rfl rfl (by decide) qw_50 rfl rfl (o + 1) rfl ?_
  refine gw_alen20 C d_Row_fill_7 k_o_1 ?_
  refine gw_icmp_ge C 24 d_Row_fill_8 (by decide) (fun hc => ?_) (fun hc => ?_)
  · replace hf1 := mx_t hc hf1
    exact gw_go [] (hk2 s2.2 (hx2 _ (hb2.trans hf1.symm)).symm) rfl
  · replace hf1 := mx_f hc hf1
    refine gw_aload_n C 0 d_Row_fill_11 rfl rfl ?_
    refine gw_getA C 0 d_Row_fill_12 k_o_0 (by decide) i_Row rfl rfl (by decide) qw_50 rfl rfl (o + 1) rfl ?_
    refine gw_iload_n C 2 d_Row_fill_15 rfl rfl ?_
    refine gw_iload_n C 1 d_Row_fill_16 rfl rfl ?_
    obtain ⟨m17, hm17, hf1⟩ := mx_bd hf1
    obtain ⟨gm17, em17⟩ := mx_stI hm17
    refine gw_iast C d_Row_fill_17 k_o_1 gm17 em17 ?_
    obtain ⟨x18, ex18, hf1⟩ := mx_lt hf1
    refine gw_iinc C 2 [(2, .int x18), (0, .ref (ly_a L o)), (1, .int p1)] d_Row_fill_18 rfl (by rw [ex18]; rfl) (by decide) rfl ?_
    refine gw_goto C 2 d_Row_fill_21 (by decide) ?_
    exact gw_go [1, 2, 0] (ih2 (x18, m17) (hb2.trans hf1.symm)) rfl

/-! NameHat.Island.clear()V -/
abbrev b_Island_clear : ByteArray := prog_4_method_2_code
def y_Island_clear : MethodName := ⟨"NameHat$Island", "clear", "()V"⟩
abbrev rm_Island_clear : Room := { frames := 1, cells := 0, slots := 0, locals := 22 }
theorem hd_Island_clear : y_Island_clear.cls ≠ "java/lang/invoke/MethodHandle" ∧ y_Island_clear.cls ≠ "java/lang/invoke/VarHandle" ∧ (parseMethodDescriptor y_Island_clear.desc).map (fun d => d.parameters.length) = some 0 := by decide +kernel
theorem d_Island_clear_0 : decode b_Island_clear 0 = .ok (.aload_n 0, 1) := by decide +kernel
theorem d_Island_clear_1 : decode b_Island_clear 1 = .ok (.getfield 14, 3) := by decide +kernel
theorem d_Island_clear_4 : decode b_Island_clear 4 = .ok (.invokevirtual 39, 3) := by decide +kernel
theorem d_Island_clear_7 : decode b_Island_clear 7 = .ok (.aload_n 0, 1) := by decide +kernel
theorem d_Island_clear_8 : decode b_Island_clear 8 = .ok (.getfield 20, 3) := by decide +kernel
theorem d_Island_clear_11 : decode b_Island_clear 11 = .ok (.invokevirtual 39, 3) := by decide +kernel
theorem d_Island_clear_14 : decode b_Island_clear 14 = .ok (.aload_n 0, 1) := by decide +kernel
theorem d_Island_clear_15 : decode b_Island_clear 15 = .ok (.getfield 26, 3) := by decide +kernel
theorem d_Island_clear_18 : decode b_Island_clear 18 = .ok (.iconst 0, 1) := by decide +kernel
theorem d_Island_clear_19 : decode b_Island_clear 19 = .ok (.invokevirtual 42, 3) := by decide +kernel
theorem d_Island_clear_22 : decode b_Island_clear 22 = .ok (.aload_n 0, 1) := by decide +kernel
theorem d_Island_clear_23 : decode b_Island_clear 23 = .ok (.getfield 30, 3) := by decide +kernel
theorem d_Island_clear_26 : decode b_Island_clear 26 = .ok (.iconst 0, 1) := by decide +kernel
theorem d_Island_clear_27 : decode b_Island_clear 27 = .ok (.invokevirtual 42, 3) := by decide +kernel
theorem d_Island_clear_30 : decode b_Island_clear 30 = .ok (.aload_n 0, 1) := by decide +kernel
theorem d_Island_clear_31 : decode b_Island_clear 31 = .ok (.getfield 33, 3) := by decide +kernel
theorem d_Island_clear_34 : decode b_Island_clear 34 = .ok (.iconst 0, 1) := by decide +kernel
theorem d_Island_clear_35 : decode b_Island_clear 35 = .ok (.invokevirtual 42, 3) := by decide +kernel
theorem d_Island_clear_38 : decode b_Island_clear 38 = .ok (.aload_n 0, 1) := by decide +kernel
theorem d_Island_clear_39 : decode b_Island_clear 39 = .ok (.getfield 36, 3) := by decide +kernel
theorem d_Island_clear_42 : decode b_Island_clear 42 = .ok (.iconst (-1), 1) := by decide +kernel
theorem d_Island_clear_43 : decode b_Island_clear 43 = .ok (.invokevirtual 42, 3) := by decide +kernel
theorem d_Island_clear_46 : decode b_Island_clear 46 = .ok (.aload_n 0, 1) := by decide +kernel
theorem d_Island_clear_47 : decode b_Island_clear 47 = .ok (.iconst 1, 1) := by decide +kernel
theorem d_Island_clear_48 : decode b_Island_clear 48 = .ok (.putfield 45, 3) := by decide +kernel
theorem d_Island_clear_51 : decode b_Island_clear 51 = .ok (.aload_n 0, 1) := by decide +kernel
theorem d_Island_clear_52 : decode b_Island_clear 52 = .ok (.bipush 8, 2) := by decide +kernel
theorem d_Island_clear_54 : decode b_Island_clear 54 = .ok (.putfield 49, 3) := by decide +kernel
theorem d_Island_clear_57 : decode b_Island_clear 57 = .ok (.aload_n 0, 1) := by decide +kernel
theorem d_Island_clear_58 : decode b_Island_clear 58 = .ok (.iconst 0, 1) := by decide +kernel
theorem d_Island_clear_59 : decode b_Island_clear 59 = .ok (.putfield 52, 3) := by decide +kernel
theorem d_Island_clear_62 : decode b_Island_clear 62 = .ok (.return_, 1) := by decide +kernel
noncomputable def f_Island_clear (z : Nat → Nat) (σ : Mm) (o : Nat) : Option (Mm) :=
  (f_Names_clear z σ (o + 1)).bind fun q4 =>
  (f_Names_clear z q4 (o + 3)).bind fun q11 =>
  (f_Row_fill z q11 (o + 5) (0 : Int32)).bind fun q19 =>
  (f_Row_fill z q19 (o + 7) (0 : Int32)).bind fun q27 =>
  (f_Row_fill z q27 (o + 9) (0 : Int32)).bind fun q35 =>
  (f_Row_fill z q35 (o + 11) ((-1) : Int32)).bind fun q43 =>
  mm_lt (kI q43 o 6 (1 : Int32)) fun m48 =>
  mm_lt (kI m48 o 7 (8 : Int32)) fun m54 =>
  mm_lt (kI m54 o 8 (0 : Int32)) fun m59 =>
  some m59
set_option maxHeartbeats 4000000 in
set_option maxRecDepth 100000 in
theorem c_Island_clear (l : Launch) {L : Ly} (hg : gd_ok L) {σ : Mm} {o : Nat} (k_o_0 : ly_k L o = 2) {res : Mm} (hf0 : f_Island_clear (ly_z L) σ o = some res) : CtV l y_Island_clear b_Island_clear 1 (none) rm_Island_clear L [.ref (ly_a L o)] σ res := by
  refine ct_v hg (by decide) (Nat.le_of_ble_eq_true rfl) ?_
  intro E A Q hE C hN
  subst hE
  have k_o_1 : ly_k L (o + 1) = 1 := gd_Island_surnames hg k_o_0
  have k_o_3 : ly_k L (o + 3) = 1 := gd_Island_houses hg k_o_0
  have k_o_5 : ly_k L (o + 5) = 0 := gd_Island_worths hg k_o_0
  have k_o_7 : ly_k L (o + 7) = 0 := gd_Island_kinds hg k_o_0
  have k_o_9 : ly_k L (o + 9) = 0 := gd_Island_feuds hg k_o_0
  have k_o_11 : ly_k L (o + 11) = 0 := gd_Island_wants hg k_o_0
  unfold f_Island_clear at hf0
  show GW E L A 1 0 0 Q σ 0 [(0, .ref (ly_a L o))] []
  refine gw_aload_n C 0 d_Island_clear_0 rfl rfl ?_
  refine gw_getA C 0 d_Island_clear_1 k_o_0 (by decide) i_Island rfl rfl (by decide) qw_124 rfl rfl (o + 1) rfl ?_
  obtain ⟨q4, hq4, hf0⟩ := mx_bd hf0
  refine gw_callV C (c_Names_clear _ hg k_o_1 hq4) d_Island_clear_4 0 qw_216 qw_217 qw_218 qw_7 qw_219 k_o_1 (by decide) rfl hd_Names_clear rfl rfl (Nat.le_of_ble_eq_true rfl) ⟨rfl, rfl, Nat.le_of_ble_eq_true rfl, Nat.le_of_ble_eq_true rfl⟩ ⟨Nat.zero_le _, Nat.zero_le _⟩ ?_
  refine gw_aload_n C 0 d_Island_clear_7 rfl rfl ?_
  refine gw_getA C 1 d_Island_clear_8 k_o_0 (by decide) i_Island rfl rfl (by decide) qw_129 rfl rfl (o + 3) rfl ?_
  obtain ⟨q11, hq11, hf0⟩ := mx_bd hf0
  refine gw_callV C (c_Names_clear _ hg k_o_3 hq11) d_Island_clear_11 0 qw_216 qw_217 qw_218 qw_7 qw_219 k_o_3 (by decide) rfl hd_Names_clear rfl rfl (Nat.le_of_ble_eq_true rfl) ⟨rfl, rfl, Nat.le_of_ble_eq_true rfl, Nat.le_of_ble_eq_true rfl⟩ ⟨Nat.zero_le _, Nat.zero_le _⟩ ?_
  refine gw_aload_n C 0 d_Island_clear_14 rfl rfl ?_
  refine gw_getA C 2 d_Island_clear_15 k_o_0 (by decide) i_Island rfl rfl (by decide) qw_137 rfl rfl (o + 5) rfl ?_
  refine gw_iconst C (0 : Int32) d_Island_clear_18 (by decide) ?_
  obtain ⟨q19, hq19, hf0⟩ := mx_bd hf0
  refine gw_callV C (c_Row_fill _ hg k_o_5 hq19) d_Island_clear_19 1 qw_220 qw_221 qw_222 qw_4 qw_223 k_o_5 (by decide) rfl hd_Row_fill rfl rfl (Nat.le_of_ble_eq_true rfl) ⟨rfl, rfl, Nat.le_of_ble_eq_true rfl, Nat.le_of_ble_eq_true rfl⟩ ⟨Nat.zero_le _, Nat.zero_le _⟩ ?_
  refine gw_aload_n C 0 d_Island_clear_22 rfl rfl ?_
  refine gw_getA C 3 d_Island_clear_23 k_o_0 (by decide) i_Island rfl rfl (by decide) qw_141 rfl rfl (o + 7) rfl ?_
  refine gw_iconst C (0 : Int32) d_Island_clear_26 (by decide) ?_
  obtain ⟨q27, hq27, hf0⟩ := mx_bd hf0
  refine gw_callV C (c_Row_fill _ hg k_o_7 hq27) d_Island_clear_27 1 qw_220 qw_221 qw_222 qw_4 qw_223 k_o_7 (by decide) rfl hd_Row_fill rfl rfl (Nat.le_of_ble_eq_true rfl) ⟨rfl, rfl, Nat.le_of_ble_eq_true rfl, Nat.le_of_ble_eq_true rfl⟩ ⟨Nat.zero_le _, Nat.zero_le _⟩ ?_
  refine gw_aload_n C 0 d_Island_clear_30 rfl rfl ?_
  refine gw_getA C 4 d_Island_clear_31 k_o_0 (by decide) i_Island rfl rfl (by decide) qw_144 rfl rfl (o + 9) rfl ?_
  refine gw_iconst C (0 : Int32) d_Island_clear_34 (by decide) ?_
  obtain ⟨q35, hq35, hf0⟩ := mx_bd hf0
  refine gw_callV C (c_Row_fill _ hg k_o_9 hq35) d_Island_clear_35 1 qw_220 qw_221 qw_222 qw_4 qw_223 k_o_9 (by decide) rfl hd_Row_fill rfl rfl (Nat.le_of_ble_eq_true rfl) ⟨rfl, rfl, Nat.le_of_ble_eq_true rfl, Nat.le_of_ble_eq_true rfl⟩ ⟨Nat.zero_le _, Nat.zero_le _⟩ ?_
  refine gw_aload_n C 0 d_Island_clear_38 rfl rfl ?_
  refine gw_getA C 5 d_Island_clear_39 k_o_0 (by decide) i_Island rfl rfl (by decide) qw_146 rfl rfl (o + 11) rfl ?_
  refine gw_iconst C ((-1) : Int32) d_Island_clear_42 (by decide) ?_
  obtain ⟨q43, hq43, hf0⟩ := mx_bd hf0
  refine gw_callV C (c_Row_fill _ hg k_o_11 hq43) d_Island_clear_43 1 qw_220 qw_221 qw_222 qw_4 qw_223 k_o_11 (by decide) rfl hd_Row_fill rfl rfl (Nat.le_of_ble_eq_true rfl) ⟨rfl, rfl, Nat.le_of_ble_eq_true rfl, Nat.le_of_ble_eq_true rfl⟩ ⟨Nat.zero_le _, Nat.zero_le _⟩ ?_
  refine gw_aload_n C 0 d_Island_clear_46 rfl rfl ?_
  refine gw_iconst C (1 : Int32) d_Island_clear_47 (by decide) ?_
  obtain ⟨m48, em48, hf0⟩ := mx_lt hf0
  refine gw_putI t_Island C 6 d_Island_clear_48 k_o_0 (by decide) i_Island rfl rfl (by decide) qw_148 rfl rfl t_Island_ok n_Island rfl (t_Island_ok 6 (by decide)) rfl rfl em48 ?_
  refine gw_aload_n C 0 d_Island_clear_51 rfl rfl ?_
  refine gw_bipush C (8 : Int32) d_Island_clear_52 (by decide) ?_
  obtain ⟨m54, em54, hf0⟩ := mx_lt hf0
  refine gw_putI t_Island C 7 d_Island_clear_54 k_o_0 (by decide) i_Island rfl rfl (by decide) qw_152 rfl rfl t_Island_ok n_Island rfl (t_Island_ok 7 (by decide)) rfl rfl em54 ?_
  refine gw_aload_n C 0 d_Island_clear_57 rfl rfl ?_
  refine gw_iconst C (0 : Int32) d_Island_clear_58 (by decide) ?_
  obtain ⟨m59, em59, hf0⟩ := mx_lt hf0
  refine gw_putI t_Island C 8 d_Island_clear_59 k_o_0 (by decide) i_Island rfl rfl (by decide) qw_156 rfl rfl t_Island_ok n_Island rfl (t_Island_ok 8 (by decide)) rfl rfl em59 ?_
  exact en_v hN hf0 d_Island_clear_62

/-! NameHat.Hands.clear()V -/
abbrev b_Hands_clear : ByteArray := prog_3_method_2_code
def y_Hands_clear : MethodName := ⟨"NameHat$Hands", "clear", "()V"⟩
abbrev rm_Hands_clear : Room := { frames := 1, cells := 0, slots := 0, locals := 22 }
theorem hd_Hands_clear : y_Hands_clear.cls ≠ "java/lang/invoke/MethodHandle" ∧ y_Hands_clear.cls ≠ "java/lang/invoke/VarHandle" ∧ (parseMethodDescriptor y_Hands_clear.desc).map (fun d => d.parameters.length) = some 0 := by decide +kernel
theorem d_Hands_clear_0 : decode b_Hands_clear 0 = .ok (.aload_n 0, 1) := by decide +kernel
theorem d_Hands_clear_1 : decode b_Hands_clear 1 = .ok (.getfield 14, 3) := by decide +kernel
theorem d_Hands_clear_4 : decode b_Hands_clear 4 = .ok (.iconst (-1), 1) := by decide +kernel
theorem d_Hands_clear_5 : decode b_Hands_clear 5 = .ok (.invokevirtual 29, 3) := by decide +kernel
theorem d_Hands_clear_8 : decode b_Hands_clear 8 = .ok (.aload_n 0, 1) := by decide +kernel
theorem d_Hands_clear_9 : decode b_Hands_clear 9 = .ok (.getfield 20, 3) := by decide +kernel
theorem d_Hands_clear_12 : decode b_Hands_clear 12 = .ok (.iconst 0, 1) := by decide +kernel
theorem d_Hands_clear_13 : decode b_Hands_clear 13 = .ok (.invokevirtual 29, 3) := by decide +kernel
theorem d_Hands_clear_16 : decode b_Hands_clear 16 = .ok (.return_, 1) := by decide +kernel
noncomputable def f_Hands_clear (z : Nat → Nat) (σ : Mm) (o : Nat) : Option (Mm) :=
  (f_Row_fill z σ (o + 1) ((-1) : Int32)).bind fun q5 =>
  (f_Row_fill z q5 (o + 3) (0 : Int32)).bind fun q13 =>
  some q13
set_option maxHeartbeats 4000000 in
set_option maxRecDepth 100000 in
theorem c_Hands_clear (l : Launch) {L : Ly} (hg : gd_ok L) {σ : Mm} {o : Nat} (k_o_0 : ly_k L o = 3) {res : Mm} (hf0 : f_Hands_clear (ly_z L) σ o = some res) : CtV l y_Hands_clear b_Hands_clear 1 (none) rm_Hands_clear L [.ref (ly_a L o)] σ res := by
  refine ct_v hg (by decide) (Nat.le_of_ble_eq_true rfl) ?_
  intro E A Q hE C hN
  subst hE
  have k_o_1 : ly_k L (o + 1) = 0 := gd_Hands_held hg k_o_0
  have k_o_3 : ly_k L (o + 3) = 0 := gd_Hands_sits hg k_o_0
  unfold f_Hands_clear at hf0
  show GW E L A 1 0 0 Q σ 0 [(0, .ref (ly_a L o))] []
  refine gw_aload_n C 0 d_Hands_clear_0 rfl rfl ?_
  refine gw_getA C 0 d_Hands_clear_1 k_o_0 (by decide) i_Hands rfl rfl (by decide) qw_186 rfl rfl (o + 1) rfl ?_
  refine gw_iconst C ((-1) : Int32) d_Hands_clear_4 (by decide) ?_
  obtain ⟨q5, hq5, hf0⟩ := mx_bd hf0
  refine gw_callV C (c_Row_fill _ hg k_o_1 hq5) d_Hands_clear_5 1 qw_228 qw_221 qw_222 qw_4 qw_223 k_o_1 (by decide) rfl hd_Row_fill rfl rfl (Nat.le_of_ble_eq_true rfl) ⟨rfl, rfl, Nat.le_of_ble_eq_true rfl, Nat.le_of_ble_eq_true rfl⟩ ⟨Nat.zero_le _, Nat.zero_le _⟩ ?_
  refine gw_aload_n C 0 d_Hands_clear_8 rfl rfl ?_
  refine gw_getA C 1 d_Hands_clear_9 k_o_0 (by decide) i_Hands rfl rfl (by decide) qw_191 rfl rfl (o + 3) rfl ?_
  refine gw_iconst C (0 : Int32) d_Hands_clear_12 (by decide) ?_
  obtain ⟨q13, hq13, hf0⟩ := mx_bd hf0
  refine gw_callV C (c_Row_fill _ hg k_o_3 hq13) d_Hands_clear_13 1 qw_228 qw_221 qw_222 qw_4 qw_223 k_o_3 (by decide) rfl hd_Row_fill rfl rfl (Nat.le_of_ble_eq_true rfl) ⟨rfl, rfl, Nat.le_of_ble_eq_true rfl, Nat.le_of_ble_eq_true rfl⟩ ⟨Nat.zero_le _, Nat.zero_le _⟩ ?_
  exact en_v hN hf0 d_Hands_clear_16

/-! NameHat.State.clearRoll()V -/
abbrev b_State_clearRoll : ByteArray := prog_10_method_3_code
def y_State_clearRoll : MethodName := ⟨"NameHat$State", "clearRoll", "()V"⟩
abbrev rm_State_clearRoll : Room := { frames := 1, cells := 0, slots := 0, locals := 22 }
theorem hd_State_clearRoll : y_State_clearRoll.cls ≠ "java/lang/invoke/MethodHandle" ∧ y_State_clearRoll.cls ≠ "java/lang/invoke/VarHandle" ∧ (parseMethodDescriptor y_State_clearRoll.desc).map (fun d => d.parameters.length) = some 0 := by decide +kernel
theorem d_State_clearRoll_0 : decode b_State_clearRoll 0 = .ok (.aload_n 0, 1) := by decide +kernel
theorem d_State_clearRoll_1 : decode b_State_clearRoll 1 = .ok (.iconst 0, 1) := by decide +kernel
theorem d_State_clearRoll_2 : decode b_State_clearRoll 2 = .ok (.putfield 67, 3) := by decide +kernel
theorem d_State_clearRoll_5 : decode b_State_clearRoll 5 = .ok (.aload_n 0, 1) := by decide +kernel
theorem d_State_clearRoll_6 : decode b_State_clearRoll 6 = .ok (.getfield 37, 3) := by decide +kernel
theorem d_State_clearRoll_9 : decode b_State_clearRoll 9 = .ok (.sipush 1023, 3) := by decide +kernel
theorem d_State_clearRoll_12 : decode b_State_clearRoll 12 = .ok (.invokevirtual 58, 3) := by decide +kernel
theorem d_State_clearRoll_15 : decode b_State_clearRoll 15 = .ok (.return_, 1) := by decide +kernel
noncomputable def f_State_clearRoll (z : Nat → Nat) (σ : Mm) (o : Nat) : Option (Mm) :=
  mm_lt (kI σ o 5 (0 : Int32)) fun m2 =>
  (f_Row_fill z m2 (o + 27) (1023 : Int32)).bind fun q12 =>
  some q12
set_option maxHeartbeats 4000000 in
set_option maxRecDepth 100000 in
theorem c_State_clearRoll (l : Launch) {L : Ly} (hg : gd_ok L) {σ : Mm} {o : Nat} (k_o_0 : ly_k L o = 4) {res : Mm} (hf0 : f_State_clearRoll (ly_z L) σ o = some res) : CtV l y_State_clearRoll b_State_clearRoll 1 (none) rm_State_clearRoll L [.ref (ly_a L o)] σ res := by
  refine ct_v hg (by decide) (Nat.le_of_ble_eq_true rfl) ?_
  intro E A Q hE C hN
  subst hE
  have k_o_27 : ly_k L (o + 27) = 0 := gd_State_fits hg k_o_0
  unfold f_State_clearRoll at hf0
  show GW E L A 1 0 0 Q σ 0 [(0, .ref (ly_a L o))] []
  refine gw_aload_n C 0 d_State_clearRoll_0 rfl rfl ?_
  refine gw_iconst C (0 : Int32) d_State_clearRoll_1 (by decide) ?_
  obtain ⟨m2, em2, hf0⟩ := mx_lt hf0
  refine gw_putI t_State C 5 d_State_clearRoll_2 k_o_0 (by decide) i_State rfl rfl (by decide) qw_245 rfl rfl t_State_ok n_State rfl (t_State_ok 5 (by decide)) rfl rfl em2 ?_
  refine gw_aload_n C 0 d_State_clearRoll_5 rfl rfl ?_
  refine gw_getA C 6 d_State_clearRoll_6 k_o_0 (by decide) i_State rfl rfl (by decide) qw_248 rfl rfl (o + 27) rfl ?_
  refine gw_sipush C (1023 : Int32) d_State_clearRoll_9 (by decide) ?_
  obtain ⟨q12, hq12, hf0⟩ := mx_bd hf0
  refine gw_callV C (c_Row_fill _ hg k_o_27 hq12) d_State_clearRoll_12 1 qw_229 qw_221 qw_222 qw_4 qw_223 k_o_27 (by decide) rfl hd_Row_fill rfl rfl (Nat.le_of_ble_eq_true rfl) ⟨rfl, rfl, Nat.le_of_ble_eq_true rfl, Nat.le_of_ble_eq_true rfl⟩ ⟨Nat.zero_le _, Nat.zero_le _⟩ ?_
  exact en_v hN hf0 d_State_clearRoll_15

/-! NameHat.State.clear()V -/
abbrev b_State_clear : ByteArray := prog_10_method_2_code
def y_State_clear : MethodName := ⟨"NameHat$State", "clear", "()V"⟩
abbrev rm_State_clear : Room := { frames := 2, cells := 0, slots := 0, locals := 42 }
theorem hd_State_clear : y_State_clear.cls ≠ "java/lang/invoke/MethodHandle" ∧ y_State_clear.cls ≠ "java/lang/invoke/VarHandle" ∧ (parseMethodDescriptor y_State_clear.desc).map (fun d => d.parameters.length) = some 0 := by decide +kernel
theorem d_State_clear_0 : decode b_State_clear 0 = .ok (.aload_n 0, 1) := by decide +kernel
theorem d_State_clear_1 : decode b_State_clear 1 = .ok (.getfield 12, 3) := by decide +kernel
theorem d_State_clear_4 : decode b_State_clear 4 = .ok (.invokevirtual 52, 3) := by decide +kernel
theorem d_State_clear_7 : decode b_State_clear 7 = .ok (.aload_n 0, 1) := by decide +kernel
theorem d_State_clear_8 : decode b_State_clear 8 = .ok (.getfield 21, 3) := by decide +kernel
theorem d_State_clear_11 : decode b_State_clear 11 = .ok (.invokevirtual 53, 3) := by decide +kernel
theorem d_State_clear_14 : decode b_State_clear 14 = .ok (.aload_n 0, 1) := by decide +kernel
theorem d_State_clear_15 : decode b_State_clear 15 = .ok (.iconst 0, 1) := by decide +kernel
theorem d_State_clear_16 : decode b_State_clear 16 = .ok (.putfield 54, 3) := by decide +kernel
theorem d_State_clear_19 : decode b_State_clear 19 = .ok (.aload_n 0, 1) := by decide +kernel
theorem d_State_clear_20 : decode b_State_clear 20 = .ok (.getfield 30, 3) := by decide +kernel
theorem d_State_clear_23 : decode b_State_clear 23 = .ok (.iconst (-1), 1) := by decide +kernel
theorem d_State_clear_24 : decode b_State_clear 24 = .ok (.invokevirtual 58, 3) := by decide +kernel
theorem d_State_clear_27 : decode b_State_clear 27 = .ok (.aload_n 0, 1) := by decide +kernel
theorem d_State_clear_28 : decode b_State_clear 28 = .ok (.getfield 34, 3) := by decide +kernel
theorem d_State_clear_31 : decode b_State_clear 31 = .ok (.iconst (-1), 1) := by decide +kernel
theorem d_State_clear_32 : decode b_State_clear 32 = .ok (.invokevirtual 58, 3) := by decide +kernel
theorem d_State_clear_35 : decode b_State_clear 35 = .ok (.aload_n 0, 1) := by decide +kernel
theorem d_State_clear_36 : decode b_State_clear 36 = .ok (.invokevirtual 61, 3) := by decide +kernel
theorem d_State_clear_39 : decode b_State_clear 39 = .ok (.aload_n 0, 1) := by decide +kernel
theorem d_State_clear_40 : decode b_State_clear 40 = .ok (.iconst 0, 1) := by decide +kernel
theorem d_State_clear_41 : decode b_State_clear 41 = .ok (.putfield 64, 3) := by decide +kernel
theorem d_State_clear_44 : decode b_State_clear 44 = .ok (.return_, 1) := by decide +kernel
noncomputable def f_State_clear (z : Nat → Nat) (σ : Mm) (o : Nat) : Option (Mm) :=
  (f_Island_clear z σ (o + 1)).bind fun q4 =>
  (f_Hands_clear z q4 (o + 14)).bind fun q11 =>
  mm_lt (kI q11 o 2 (0 : Int32)) fun m16 =>
  (f_Row_fill z m16 (o + 23) ((-1) : Int32)).bind fun q24 =>
  (f_Row_fill z q24 (o + 25) ((-1) : Int32)).bind fun q32 =>
  (f_State_clearRoll z q32 o).bind fun q36 =>
  mm_lt (kI q36 o 7 (0 : Int32)) fun m41 =>
  some m41
set_option maxHeartbeats 4000000 in
set_option maxRecDepth 100000 in
theorem c_State_clear (l : Launch) {L : Ly} (hg : gd_ok L) {σ : Mm} {o : Nat} (k_o_0 : ly_k L o = 4) {res : Mm} (hf0 : f_State_clear (ly_z L) σ o = some res) : CtV l y_State_clear b_State_clear 1 (none) rm_State_clear L [.ref (ly_a L o)] σ res := by
  refine ct_v hg (by decide) (Nat.le_of_ble_eq_true rfl) ?_
  intro E A Q hE C hN
  subst hE
  have k_o_1 : ly_k L (o + 1) = 2 := gd_State_island hg k_o_0
  have k_o_14 : ly_k L (o + 14) = 3 := gd_State_hands hg k_o_0
  have k_o_23 : ly_k L (o + 23) = 0 := gd_State_ended hg k_o_0
  have k_o_25 : ly_k L (o + 25) = 0 := gd_State_drawn hg k_o_0
  unfold f_State_clear at hf0
  show GW E L A 1 0 0 Q σ 0 [(0, .ref (ly_a L o))] []
  refine gw_aload_n C 0 d_State_clear_0 rfl rfl ?_
  refine gw_getA C 0 d_State_clear_1 k_o_0 (by decide) i_State rfl rfl (by decide) qw_234 rfl rfl (o + 1) rfl ?_
  obtain ⟨q4, hq4, hf0⟩ := mx_bd hf0
  refine gw_callV C (c_Island_clear _ hg k_o_1 hq4) d_State_clear_4 0 qw_212 qw_213 qw_214 qw_6 qw_215 k_o_1 (by decide) rfl hd_Island_clear rfl rfl (Nat.le_of_ble_eq_true rfl) ⟨rfl, rfl, Nat.le_of_ble_eq_true rfl, Nat.le_of_ble_eq_true rfl⟩ ⟨Nat.zero_le _, Nat.zero_le _⟩ ?_
  refine gw_aload_n C 0 d_State_clear_7 rfl rfl ?_
  refine gw_getA C 1 d_State_clear_8 k_o_0 (by decide) i_State rfl rfl (by decide) qw_238 rfl rfl (o + 14) rfl ?_
  obtain ⟨q11, hq11, hf0⟩ := mx_bd hf0
  refine gw_callV C (c_Hands_clear _ hg k_o_14 hq11) d_State_clear_11 0 qw_224 qw_225 qw_226 qw_8 qw_227 k_o_14 (by decide) rfl hd_Hands_clear rfl rfl (Nat.le_of_ble_eq_true rfl) ⟨rfl, rfl, Nat.le_of_ble_eq_true rfl, Nat.le_of_ble_eq_true rfl⟩ ⟨Nat.zero_le _, Nat.zero_le _⟩ ?_
  refine gw_aload_n C 0 d_State_clear_14 rfl rfl ?_
  refine gw_iconst C (0 : Int32) d_State_clear_15 (by decide) ?_
  obtain ⟨m16, em16, hf0⟩ := mx_lt hf0
  refine gw_putI t_State C 2 d_State_clear_16 k_o_0 (by decide) i_State rfl rfl (by decide) qw_241 rfl rfl t_State_ok n_State rfl (t_State_ok 2 (by decide)) rfl rfl em16 ?_
  refine gw_aload_n C 0 d_State_clear_19 rfl rfl ?_
  refine gw_getA C 3 d_State_clear_20 k_o_0 (by decide) i_State rfl rfl (by decide) qw_243 rfl rfl (o + 23) rfl ?_
  refine gw_iconst C ((-1) : Int32) d_State_clear_23 (by decide) ?_
  obtain ⟨q24, hq24, hf0⟩ := mx_bd hf0
  refine gw_callV C (c_Row_fill _ hg k_o_23 hq24) d_State_clear_24 1 qw_229 qw_221 qw_222 qw_4 qw_223 k_o_23 (by decide) rfl hd_Row_fill rfl rfl (Nat.le_of_ble_eq_true rfl) ⟨rfl, rfl, Nat.le_of_ble_eq_true rfl, Nat.le_of_ble_eq_true rfl⟩ ⟨Nat.zero_le _, Nat.zero_le _⟩ ?_
  refine gw_aload_n C 0 d_State_clear_27 rfl rfl ?_
  refine gw_getA C 4 d_State_clear_28 k_o_0 (by decide) i_State rfl rfl (by decide) qw_244 rfl rfl (o + 25) rfl ?_
  refine gw_iconst C ((-1) : Int32) d_State_clear_31 (by decide) ?_
  obtain ⟨q32, hq32, hf0⟩ := mx_bd hf0
  refine gw_callV C (c_Row_fill _ hg k_o_25 hq32) d_State_clear_32 1 qw_229 qw_221 qw_222 qw_4 qw_223 k_o_25 (by decide) rfl hd_Row_fill rfl rfl (Nat.le_of_ble_eq_true rfl) ⟨rfl, rfl, Nat.le_of_ble_eq_true rfl, Nat.le_of_ble_eq_true rfl⟩ ⟨Nat.zero_le _, Nat.zero_le _⟩ ?_
  refine gw_aload_n C 0 d_State_clear_35 rfl rfl ?_
  obtain ⟨q36, hq36, hf0⟩ := mx_bd hf0
  refine gw_callV C (c_State_clearRoll _ hg k_o_0 hq36) d_State_clear_36 0 qw_230 qw_231 qw_232 qw_5 qw_233 k_o_0 (by decide) rfl hd_State_clearRoll rfl rfl (Nat.le_of_ble_eq_true rfl) ⟨rfl, rfl, Nat.le_of_ble_eq_true rfl, Nat.le_of_ble_eq_true rfl⟩ ⟨Nat.zero_le _, Nat.zero_le _⟩ ?_
  refine gw_aload_n C 0 d_State_clear_39 rfl rfl ?_
  refine gw_iconst C (0 : Int32) d_State_clear_40 (by decide) ?_
  obtain ⟨m41, em41, hf0⟩ := mx_lt hf0
  refine gw_putI t_State C 7 d_State_clear_41 k_o_0 (by decide) i_State rfl rfl (by decide) qw_252 rfl rfl t_State_ok n_State rfl (t_State_ok 7 (by decide)) rfl rfl em41 ?_
  exact en_v hN hf0 d_State_clear_44

/-! NameHat.Row.put(II)V -/
abbrev b_Row_put : ByteArray := prog_8_method_3_code
def y_Row_put : MethodName := ⟨"NameHat$Row", "put", "(II)V"⟩
abbrev rm_Row_put : Room := { frames := 0, cells := 0, slots := 0, locals := 0 }
theorem hd_Row_put : y_Row_put.cls ≠ "java/lang/invoke/MethodHandle" ∧ y_Row_put.cls ≠ "java/lang/invoke/VarHandle" ∧ (parseMethodDescriptor y_Row_put.desc).map (fun d => d.parameters.length) = some 2 := by decide +kernel
theorem d_Row_put_0 : decode b_Row_put 0 = .ok (.iload_n 1, 1) := by decide +kernel
theorem d_Row_put_1 : decode b_Row_put 1 = .ok (.ifCond .lt 19, 3) := by decide +kernel
theorem d_Row_put_4 : decode b_Row_put 4 = .ok (.iload_n 1, 1) := by decide +kernel
theorem d_Row_put_5 : decode b_Row_put 5 = .ok (.aload_n 0, 1) := by decide +kernel
theorem d_Row_put_6 : decode b_Row_put 6 = .ok (.getfield 9, 3) := by decide +kernel
theorem d_Row_put_9 : decode b_Row_put 9 = .ok (.arraylength, 1) := by decide +kernel
theorem d_Row_put_10 : decode b_Row_put 10 = .ok (.if_icmp .ge 10, 3) := by decide +kernel
theorem d_Row_put_13 : decode b_Row_put 13 = .ok (.aload_n 0, 1) := by decide +kernel
theorem d_Row_put_14 : decode b_Row_put 14 = .ok (.getfield 9, 3) := by decide +kernel
theorem d_Row_put_17 : decode b_Row_put 17 = .ok (.iload_n 1, 1) := by decide +kernel
theorem d_Row_put_18 : decode b_Row_put 18 = .ok (.iload_n 2, 1) := by decide +kernel
theorem d_Row_put_19 : decode b_Row_put 19 = .ok (.iastore, 1) := by decide +kernel
theorem d_Row_put_20 : decode b_Row_put 20 = .ok (.return_, 1) := by decide +kernel
noncomputable def f_Row_put (z : Nat → Nat) (σ : Mm) (o : Nat) (p1 : Int32) (p2 : Int32) : Option (Mm) :=
  if p1 < 0 then (
    some σ
  ) else (
    if (nI (z (o + 1))) ≤ p1 then (
      some σ
    ) else (
      (mm_stI σ (o + 1) (z (o + 1)) p1 p2).bind fun m19 =>
      some m19
    )
  )
set_option maxHeartbeats 4000000 in
set_option maxRecDepth 100000 in
theorem c_Row_put (l : Launch) {L : Ly} (hg : gd_ok L) {σ : Mm} {o : Nat} {p1 : Int32} {p2 : Int32} (k_o_0 : ly_k L o = 0) {res : Mm} (hf0 : f_Row_put (ly_z L) σ o p1 p2 = some res) : CtV l y_Row_put b_Row_put 3 (none) rm_Row_put L [.ref (ly_a L o), .int p1, .int p2] σ res := by
  refine ct_v hg (by decide) (Nat.le_of_ble_eq_true rfl) ?_
  intro E A Q hE C hN
  subst hE
  have k_o_1 : ly_k L (o + 1) = 20 := gd_Row_cells hg k_o_0
  unfold f_Row_put at hf0
  show GW E L A 3 0 0 Q σ 0 [(0, .ref (ly_a L o)), (1, .int p1), (2, .int p2)] []
  refine gw_iload_n C 1 d_Row_put_0 rfl rfl ?_
  refine gw_if_lt C 20 d_Row_put_1 (by decide) (fun hc => ?_) (fun hc => ?_)
  · replace hf0 := mx_t hc hf0
    exact en_v hN hf0 d_Row_put_20
  · replace hf0 := mx_f hc hf0
    refine gw_iload_n C 1 d_Row_put_4 rfl rfl ?_
    refine gw_aload_n C 0 d_Row_put_5 rfl rfl ?_
    refine gw_getA C 0 d_Row_put_6 k_o_0 (by decide) i_Row rfl rfl (by decide) qw_50 rfl rfl (o + 1) rfl ?_
    refine gw_alen20 C d_Row_put_9 k_o_1 ?_
    refine gw_icmp_ge C 20 d_Row_put_10 (by decide) (fun hc => ?_) (fun hc => ?_)
    · replace hf0 := mx_t hc hf0
      exact en_v hN hf0 d_Row_put_20
    · replace hf0 := mx_f hc hf0
      refine gw_aload_n C 0 d_Row_put_13 rfl rfl ?_
      refine gw_getA C 0 d_Row_put_14 k_o_0 (by decide) i_Row rfl rfl (by decide) qw_50 rfl rfl (o + 1) rfl ?_
      refine gw_iload_n C 1 d_Row_put_17 rfl rfl ?_
      refine gw_iload_n C 2 d_Row_put_18 rfl rfl ?_
      obtain ⟨m19, hm19, hf0⟩ := mx_bd hf0
      obtain ⟨gm19, em19⟩ := mx_stI hm19
      refine gw_iast C d_Row_put_19 k_o_1 gm19 em19 ?_
      exact en_v hN hf0 d_Row_put_20

/-! NameHat.feedNumber(I)V -/
abbrev b_Hat_feedNumber : ByteArray := prog_1_method_3_code
def y_Hat_feedNumber : MethodName := ⟨"NameHat", "feedNumber", "(I)V"⟩
abbrev rm_Hat_feedNumber : Room := { frames := 1, cells := 0, slots := 0, locals := 22 }
theorem hd_Hat_feedNumber : y_Hat_feedNumber.cls ≠ "java/lang/invoke/MethodHandle" ∧ y_Hat_feedNumber.cls ≠ "java/lang/invoke/VarHandle" ∧ (parseMethodDescriptor y_Hat_feedNumber.desc).map (fun d => d.parameters.length) = some 1 := by decide +kernel
theorem d_Hat_feedNumber_0 : decode b_Hat_feedNumber 0 = .ok (.bipush 24, 2) := by decide +kernel
theorem d_Hat_feedNumber_2 : decode b_Hat_feedNumber 2 = .ok (.istore_n 2, 1) := by decide +kernel
theorem d_Hat_feedNumber_3 : decode b_Hat_feedNumber 3 = .ok (.iload_n 2, 1) := by decide +kernel
theorem d_Hat_feedNumber_4 : decode b_Hat_feedNumber 4 = .ok (.ifCond .lt 37, 3) := by decide +kernel
theorem d_Hat_feedNumber_7 : decode b_Hat_feedNumber 7 = .ok (.aload_n 0, 1) := by decide +kernel
theorem d_Hat_feedNumber_8 : decode b_Hat_feedNumber 8 = .ok (.getfield 26, 3) := by decide +kernel
theorem d_Hat_feedNumber_11 : decode b_Hat_feedNumber 11 = .ok (.aload_n 0, 1) := by decide +kernel
theorem d_Hat_feedNumber_12 : decode b_Hat_feedNumber 12 = .ok (.getfield 77, 3) := by decide +kernel
theorem d_Hat_feedNumber_15 : decode b_Hat_feedNumber 15 = .ok (.iload_n 1, 1) := by decide +kernel
theorem d_Hat_feedNumber_16 : decode b_Hat_feedNumber 16 = .ok (.iload_n 2, 1) := by decide +kernel
theorem d_Hat_feedNumber_17 : decode b_Hat_feedNumber 17 = .ok (.iushr, 1) := by decide +kernel
theorem d_Hat_feedNumber_18 : decode b_Hat_feedNumber 18 = .ok (.sipush 255, 3) := by decide +kernel
theorem d_Hat_feedNumber_21 : decode b_Hat_feedNumber 21 = .ok (.iand, 1) := by decide +kernel
theorem d_Hat_feedNumber_22 : decode b_Hat_feedNumber 22 = .ok (.invokevirtual 84, 3) := by decide +kernel
theorem d_Hat_feedNumber_25 : decode b_Hat_feedNumber 25 = .ok (.aload_n 0, 1) := by decide +kernel
theorem d_Hat_feedNumber_26 : decode b_Hat_feedNumber 26 = .ok (.dup, 1) := by decide +kernel
theorem d_Hat_feedNumber_27 : decode b_Hat_feedNumber 27 = .ok (.getfield 77, 3) := by decide +kernel
theorem d_Hat_feedNumber_30 : decode b_Hat_feedNumber 30 = .ok (.iconst 1, 1) := by decide +kernel
theorem d_Hat_feedNumber_31 : decode b_Hat_feedNumber 31 = .ok (.iadd, 1) := by decide +kernel
theorem d_Hat_feedNumber_32 : decode b_Hat_feedNumber 32 = .ok (.putfield 77, 3) := by decide +kernel
theorem d_Hat_feedNumber_35 : decode b_Hat_feedNumber 35 = .ok (.iinc 2 (-8), 3) := by decide +kernel
theorem d_Hat_feedNumber_38 : decode b_Hat_feedNumber 38 = .ok (.goto (-35), 3) := by decide +kernel
theorem d_Hat_feedNumber_41 : decode b_Hat_feedNumber 41 = .ok (.return_, 1) := by decide +kernel
noncomputable def f_Hat_feedNumber_L3 (z : Nat → Nat) (o : Nat) (v1 : Int32) (s3 : Int32 × Mm) : Option ((Int32 × Mm) ⊕ (Mm)) :=
  if s3.1 < 0 then (
    some (.inr s3.2)
  ) else (
    (f_Row_put z s3.2 (o + 3) (s3.2.1 o 1) (((Int32.toUInt32 v1 >>> (Int32.toUInt32 s3.1 &&& Int32.toUInt32 31)).toInt32) &&& (255 : Int32))).bind fun q22 =>
    mm_lt (kI q22 o 1 ((q22.1 o 1) + (1 : Int32))) fun m32 =>
    mm_lt (s3.1 + ((-8) : Int32)) fun x35 =>
    some (.inl (x35, m32))
  )
noncomputable def f_Hat_feedNumber (z : Nat → Nat) (σ : Mm) (o : Nat) (p1 : Int32) : Option (Mm) :=
  (mm_lp (f_Hat_feedNumber_L3 z o p1) ((24 : Int32), σ)).bind (fun q3 =>
    some q3)
set_option maxHeartbeats 4000000 in
set_option maxRecDepth 100000 in
theorem c_Hat_feedNumber (l : Launch) {L : Ly} (hg : gd_ok L) {σ : Mm} {o : Nat} {p1 : Int32} (k_o_0 : ly_k L o = 10) {res : Mm} (hf0 : f_Hat_feedNumber (ly_z L) σ o p1 = some res) : CtV l y_Hat_feedNumber b_Hat_feedNumber 3 (none) rm_Hat_feedNumber L [.ref (ly_a L o), .int p1] σ res := by
  refine ct_v hg (by decide) (Nat.le_of_ble_eq_true rfl) ?_
  intro E A Q hE C hN
  subst hE
  have k_o_3 : ly_k L (o + 3) = 0 := gd_Hat_tape hg k_o_0
  unfold f_Hat_feedNumber at hf0
  show GW E L A 3 0 0 Q σ 0 [(0, .ref (ly_a L o)), (1, .int p1)] []
  refine gw_bipush C (24 : Int32) d_Hat_feedNumber_0 (by decide) ?_
  refine gw_istore_n C [(2, .int (24 : Int32)), (0, .ref (ly_a L o)), (1, .int p1)] d_Hat_feedNumber_2 rfl (by decide) rfl ?_
  obtain ⟨q3, hq3, hf0⟩ := mx_bd hf0
  have hk3 : ∀ x9, q3 = x9 → GW E L A 3 0 0 Q x9 41 [] [] := by
    intro x9 hx9
    subst hx9
    exact en_v hN hf0 d_Hat_feedNumber_41
  refine gw_sub [1, 2, 0] (lv' := [(0, .ref (ly_a L o)), (1, .int p1), (2, .int (24 : Int32))]) rfl ?_
  refine mm_rule hq3 (P := fun (s3 : Int32 × Mm) => GW E L A 3 0 0 Q s3.2 3 [(0, .ref (ly_a L o)), (1, .int p1), (2, .int s3.1)] []) ?_
  intro s3 ih3 hx3 ⟨w3, hb3⟩
  have hf1 := hb3
  unfold f_Hat_feedNumber_L3 at hf1
  refine gw_iload_n C 2 d_Hat_feedNumber_3 rfl rfl ?_
  refine gw_if_lt C 41 d_Hat_feedNumber_4 (by decide) (fun hc => ?_) (fun hc => ?_)
  · replace hf1 := mx_t hc hf1
    exact gw_go [] (hk3 s3.2 (hx3 _ (hb3.trans hf1.symm)).symm) rfl
  · replace hf1 := mx_f hc hf1
    refine gw_aload_n C 0 d_Hat_feedNumber_7 rfl rfl ?_
    refine gw_getA C 0 d_Hat_feedNumber_8 k_o_0 (by decide) i_Hat rfl rfl (by decide) qw_403 rfl rfl (o + 3) rfl ?_
    refine gw_aload_n C 0 d_Hat_feedNumber_11 rfl rfl ?_
    refine gw_getI C 1 d_Hat_feedNumber_12 k_o_0 (by decide) i_Hat rfl rfl (by decide) qw_404 rfl rfl ?_
    refine gw_iload_n C 1 d_Hat_feedNumber_15 rfl rfl ?_
    refine gw_iload_n C 2 d_Hat_feedNumber_16 rfl rfl ?_
    refine gw_iushr C d_Hat_feedNumber_17 ?_
    refine gw_sipush C (255 : Int32) d_Hat_feedNumber_18 (by decide) ?_
    refine gw_iand C d_Hat_feedNumber_21 ?_
    obtain ⟨q22, hq22, hf1⟩ := mx_bd hf1
    refine gw_callV C (c_Row_put _ hg k_o_3 hq22) d_Hat_feedNumber_22 2 qw_460 qw_461 qw_462 qw_4 qw_463 k_o_3 (by decide) rfl hd_Row_put rfl rfl (Nat.le_of_ble_eq_true rfl) ⟨rfl, rfl, Nat.le_of_ble_eq_true rfl, Nat.le_of_ble_eq_true rfl⟩ ⟨Nat.zero_le _, Nat.zero_le _⟩ ?_
    refine gw_aload_n C 0 d_Hat_feedNumber_25 rfl rfl ?_
    refine gw_dup C d_Hat_feedNumber_26 rfl ?_
    refine gw_getI C 1 d_Hat_feedNumber_27 k_o_0 (by decide) i_Hat rfl rfl (by decide) qw_404 rfl rfl ?_
    refine gw_iconst C (1 : Int32) d_Hat_feedNumber_30 (by decide) ?_
    refine gw_iadd C d_Hat_feedNumber_31 ?_
    obtain ⟨m32, em32, hf1⟩ := mx_lt hf1
    refine gw_putI t_Hat C 1 d_Hat_feedNumber_32 k_o_0 (by decide) i_Hat rfl rfl (by decide) qw_404 rfl rfl t_Hat_ok n_Hat rfl (t_Hat_ok 1 (by decide)) rfl rfl em32 ?_
    obtain ⟨x35, ex35, hf1⟩ := mx_lt hf1
    refine gw_iinc C 2 [(2, .int x35), (0, .ref (ly_a L o)), (1, .int p1)] d_Hat_feedNumber_35 rfl (by rw [ex35]; rfl) (by decide) rfl ?_
    refine gw_goto C 3 d_Hat_feedNumber_38 (by decide) ?_
    exact gw_go [1, 2, 0] (ih3 (x35, m32) (hb3.trans hf1.symm)) rfl

/-! NameHat.feed(IIIII)I -/
abbrev b_Hat_feed : ByteArray := prog_1_method_2_code
def y_Hat_feed : MethodName := ⟨"NameHat", "feed", "(IIIII)I"⟩
abbrev rm_Hat_feed : Room := { frames := 2, cells := 0, slots := 0, locals := 44 }
theorem hd_Hat_feed : y_Hat_feed.cls ≠ "java/lang/invoke/MethodHandle" ∧ y_Hat_feed.cls ≠ "java/lang/invoke/VarHandle" ∧ (parseMethodDescriptor y_Hat_feed.desc).map (fun d => d.parameters.length) = some 5 := by decide +kernel
theorem d_Hat_feed_0 : decode b_Hat_feed 0 = .ok (.aload_n 0, 1) := by decide +kernel
theorem d_Hat_feed_1 : decode b_Hat_feed 1 = .ok (.getfield 77, 3) := by decide +kernel
theorem d_Hat_feed_4 : decode b_Hat_feed 4 = .ok (.bipush 20, 2) := by decide +kernel
theorem d_Hat_feed_6 : decode b_Hat_feed 6 = .ok (.iadd, 1) := by decide +kernel
theorem d_Hat_feed_7 : decode b_Hat_feed 7 = .ok (.sipush 940, 3) := by decide +kernel
theorem d_Hat_feed_10 : decode b_Hat_feed 10 = .ok (.if_icmp .le 5, 3) := by decide +kernel
theorem d_Hat_feed_13 : decode b_Hat_feed 13 = .ok (.iconst (-1), 1) := by decide +kernel
theorem d_Hat_feed_14 : decode b_Hat_feed 14 = .ok (.ireturn, 1) := by decide +kernel
theorem d_Hat_feed_15 : decode b_Hat_feed 15 = .ok (.aload_n 0, 1) := by decide +kernel
theorem d_Hat_feed_16 : decode b_Hat_feed 16 = .ok (.iload_n 1, 1) := by decide +kernel
theorem d_Hat_feed_17 : decode b_Hat_feed 17 = .ok (.invokevirtual 81, 3) := by decide +kernel
theorem d_Hat_feed_20 : decode b_Hat_feed 20 = .ok (.aload_n 0, 1) := by decide +kernel
theorem d_Hat_feed_21 : decode b_Hat_feed 21 = .ok (.iload_n 2, 1) := by decide +kernel
theorem d_Hat_feed_22 : decode b_Hat_feed 22 = .ok (.invokevirtual 81, 3) := by decide +kernel
theorem d_Hat_feed_25 : decode b_Hat_feed 25 = .ok (.aload_n 0, 1) := by decide +kernel
theorem d_Hat_feed_26 : decode b_Hat_feed 26 = .ok (.iload_n 3, 1) := by decide +kernel
theorem d_Hat_feed_27 : decode b_Hat_feed 27 = .ok (.invokevirtual 81, 3) := by decide +kernel
theorem d_Hat_feed_30 : decode b_Hat_feed 30 = .ok (.aload_n 0, 1) := by decide +kernel
theorem d_Hat_feed_31 : decode b_Hat_feed 31 = .ok (.iload 4, 2) := by decide +kernel
theorem d_Hat_feed_33 : decode b_Hat_feed 33 = .ok (.invokevirtual 81, 3) := by decide +kernel
theorem d_Hat_feed_36 : decode b_Hat_feed 36 = .ok (.aload_n 0, 1) := by decide +kernel
theorem d_Hat_feed_37 : decode b_Hat_feed 37 = .ok (.iload 5, 2) := by decide +kernel
theorem d_Hat_feed_39 : decode b_Hat_feed 39 = .ok (.invokevirtual 81, 3) := by decide +kernel
theorem d_Hat_feed_42 : decode b_Hat_feed 42 = .ok (.aload_n 0, 1) := by decide +kernel
theorem d_Hat_feed_43 : decode b_Hat_feed 43 = .ok (.getfield 77, 3) := by decide +kernel
theorem d_Hat_feed_46 : decode b_Hat_feed 46 = .ok (.ireturn, 1) := by decide +kernel
noncomputable def f_Hat_feed (z : Nat → Nat) (σ : Mm) (o : Nat) (p1 : Int32) (p2 : Int32) (p3 : Int32) (p4 : Int32) (p5 : Int32) : Option (Int32 × Mm) :=
  if ((σ.1 o 1) + (20 : Int32)) ≤ (940 : Int32) then (
    (f_Hat_feedNumber z σ o p1).bind fun q17 =>
    (f_Hat_feedNumber z q17 o p2).bind fun q22 =>
    (f_Hat_feedNumber z q22 o p3).bind fun q27 =>
    (f_Hat_feedNumber z q27 o p4).bind fun q33 =>
    (f_Hat_feedNumber z q33 o p5).bind fun q39 =>
    some ((q39.1 o 1), q39)
  ) else (
    some (((-1) : Int32), σ)
  )
set_option maxHeartbeats 4000000 in
set_option maxRecDepth 100000 in
theorem c_Hat_feed (l : Launch) {L : Ly} (hg : gd_ok L) {σ : Mm} {o : Nat} {p1 : Int32} {p2 : Int32} {p3 : Int32} {p4 : Int32} {p5 : Int32} (k_o_0 : ly_k L o = 10) {res : Int32 × Mm} (hf0 : f_Hat_feed (ly_z L) σ o p1 p2 p3 p4 p5 = some res) : CtI l y_Hat_feed b_Hat_feed 6 (some .int) rm_Hat_feed L [.ref (ly_a L o), .int p1, .int p2, .int p3, .int p4, .int p5] σ res.1 res.2 := by
  refine ct_i hg (by decide) (Nat.le_of_ble_eq_true rfl) ?_
  intro E A Q hE C hN
  subst hE
  unfold f_Hat_feed at hf0
  show GW E L A 6 0 0 Q σ 0 [(0, .ref (ly_a L o)), (1, .int p1), (2, .int p2), (3, .int p3), (4, .int p4), (5, .int p5)] []
  refine gw_aload_n C 0 d_Hat_feed_0 rfl rfl ?_
  refine gw_getI C 1 d_Hat_feed_1 k_o_0 (by decide) i_Hat rfl rfl (by decide) qw_404 rfl rfl ?_
  refine gw_bipush C (20 : Int32) d_Hat_feed_4 (by decide) ?_
  refine gw_iadd C d_Hat_feed_6 ?_
  refine gw_sipush C (940 : Int32) d_Hat_feed_7 (by decide) ?_
  refine gw_icmp_le C 15 d_Hat_feed_10 (by decide) (fun hc => ?_) (fun hc => ?_)
  · replace hf0 := mx_t hc hf0
    refine gw_aload_n C 0 d_Hat_feed_15 rfl rfl ?_
    refine gw_iload_n C 1 d_Hat_feed_16 rfl rfl ?_
    obtain ⟨q17, hq17, hf0⟩ := mx_bd hf0
    refine gw_callV C (c_Hat_feedNumber _ hg k_o_0 hq17) d_Hat_feed_17 1 qw_456 qw_458 qs_0 qw_1 qw_459 k_o_0 (by decide) rfl hd_Hat_feedNumber rfl rfl (Nat.le_of_ble_eq_true rfl) ⟨rfl, rfl, Nat.le_of_ble_eq_true rfl, Nat.le_of_ble_eq_true rfl⟩ ⟨Nat.zero_le _, Nat.zero_le _⟩ ?_
    refine gw_aload_n C 0 d_Hat_feed_20 rfl rfl ?_
    refine gw_iload_n C 2 d_Hat_feed_21 rfl rfl ?_
    obtain ⟨q22, hq22, hf0⟩ := mx_bd hf0
    refine gw_callV C (c_Hat_feedNumber _ hg k_o_0 hq22) d_Hat_feed_22 1 qw_456 qw_458 qs_0 qw_1 qw_459 k_o_0 (by decide) rfl hd_Hat_feedNumber rfl rfl (Nat.le_of_ble_eq_true rfl) ⟨rfl, rfl, Nat.le_of_ble_eq_true rfl, Nat.le_of_ble_eq_true rfl⟩ ⟨Nat.zero_le _, Nat.zero_le _⟩ ?_
    refine gw_aload_n C 0 d_Hat_feed_25 rfl rfl ?_
    refine gw_iload_n C 3 d_Hat_feed_26 rfl rfl ?_
    obtain ⟨q27, hq27, hf0⟩ := mx_bd hf0
    refine gw_callV C (c_Hat_feedNumber _ hg k_o_0 hq27) d_Hat_feed_27 1 qw_456 qw_458 qs_0 qw_1 qw_459 k_o_0 (by decide) rfl hd_Hat_feedNumber rfl rfl (Nat.le_of_ble_eq_true rfl) ⟨rfl, rfl, Nat.le_of_ble_eq_true rfl, Nat.le_of_ble_eq_true rfl⟩ ⟨Nat.zero_le _, Nat.zero_le _⟩ ?_
    refine gw_aload_n C 0 d_Hat_feed_30 rfl rfl ?_
    refine gw_iload C 4 d_Hat_feed_31 rfl ?_
    obtain ⟨q33, hq33, hf0⟩ := mx_bd hf0
    refine gw_callV C (c_Hat_feedNumber _ hg k_o_0 hq33) d_Hat_feed_33 1 qw_456 qw_458 qs_0 qw_1 qw_459 k_o_0 (by decide) rfl hd_Hat_feedNumber rfl rfl (Nat.le_of_ble_eq_true rfl) ⟨rfl, rfl, Nat.le_of_ble_eq_true rfl, Nat.le_of_ble_eq_true rfl⟩ ⟨Nat.zero_le _, Nat.zero_le _⟩ ?_
    refine gw_aload_n C 0 d_Hat_feed_36 rfl rfl ?_
    refine gw_iload C 5 d_Hat_feed_37 rfl ?_
    obtain ⟨q39, hq39, hf0⟩ := mx_bd hf0
    refine gw_callV C (c_Hat_feedNumber _ hg k_o_0 hq39) d_Hat_feed_39 1 qw_456 qw_458 qs_0 qw_1 qw_459 k_o_0 (by decide) rfl hd_Hat_feedNumber rfl rfl (Nat.le_of_ble_eq_true rfl) ⟨rfl, rfl, Nat.le_of_ble_eq_true rfl, Nat.le_of_ble_eq_true rfl⟩ ⟨Nat.zero_le _, Nat.zero_le _⟩ ?_
    refine gw_aload_n C 0 d_Hat_feed_42 rfl rfl ?_
    refine gw_getI C 1 d_Hat_feed_43 k_o_0 (by decide) i_Hat rfl rfl (by decide) qw_404 rfl rfl ?_
    exact en_i hN hf0 d_Hat_feed_46
  · replace hf0 := mx_f hc hf0
    refine gw_iconst C ((-1) : Int32) d_Hat_feed_13 (by decide) ?_
    exact en_i hN hf0 d_Hat_feed_14

/-! NameHat.end(I)Z -/
abbrev b_Hat_end : ByteArray := prog_1_method_4_code
def y_Hat_end : MethodName := ⟨"NameHat", "end", "(I)Z"⟩
abbrev rm_Hat_end : Room := { frames := 0, cells := 0, slots := 0, locals := 0 }
theorem hd_Hat_end : y_Hat_end.cls ≠ "java/lang/invoke/MethodHandle" ∧ y_Hat_end.cls ≠ "java/lang/invoke/VarHandle" ∧ (parseMethodDescriptor y_Hat_end.desc).map (fun d => d.parameters.length) = some 1 := by decide +kernel
theorem d_Hat_end_0 : decode b_Hat_end 0 = .ok (.iload_n 1, 1) := by decide +kernel
theorem d_Hat_end_1 : decode b_Hat_end 1 = .ok (.ifCond .lt 11, 3) := by decide +kernel
theorem d_Hat_end_4 : decode b_Hat_end 4 = .ok (.iload_n 1, 1) := by decide +kernel
theorem d_Hat_end_5 : decode b_Hat_end 5 = .ok (.aload_n 0, 1) := by decide +kernel
theorem d_Hat_end_6 : decode b_Hat_end 6 = .ok (.getfield 77, 3) := by decide +kernel
theorem d_Hat_end_9 : decode b_Hat_end 9 = .ok (.if_icmp .le 5, 3) := by decide +kernel
theorem d_Hat_end_12 : decode b_Hat_end 12 = .ok (.iconst 0, 1) := by decide +kernel
theorem d_Hat_end_13 : decode b_Hat_end 13 = .ok (.ireturn, 1) := by decide +kernel
theorem d_Hat_end_14 : decode b_Hat_end 14 = .ok (.aload_n 0, 1) := by decide +kernel
theorem d_Hat_end_15 : decode b_Hat_end 15 = .ok (.iload_n 1, 1) := by decide +kernel
theorem d_Hat_end_16 : decode b_Hat_end 16 = .ok (.putfield 77, 3) := by decide +kernel
theorem d_Hat_end_19 : decode b_Hat_end 19 = .ok (.iconst 1, 1) := by decide +kernel
theorem d_Hat_end_20 : decode b_Hat_end 20 = .ok (.ireturn, 1) := by decide +kernel
noncomputable def f_Hat_end (z : Nat → Nat) (σ : Mm) (o : Nat) (p1 : Int32) : Option (Int32 × Mm) :=
  if p1 < 0 then (
    some ((0 : Int32), σ)
  ) else (
    if p1 ≤ (σ.1 o 1) then (
      mm_lt (kI σ o 1 p1) fun m16 =>
      some ((1 : Int32), m16)
    ) else (
      some ((0 : Int32), σ)
    )
  )
set_option maxHeartbeats 4000000 in
set_option maxRecDepth 100000 in
theorem c_Hat_end (l : Launch) {L : Ly} (hg : gd_ok L) {σ : Mm} {o : Nat} {p1 : Int32} (k_o_0 : ly_k L o = 10) {res : Int32 × Mm} (hf0 : f_Hat_end (ly_z L) σ o p1 = some res) : CtI l y_Hat_end b_Hat_end 2 (some .boolean) rm_Hat_end L [.ref (ly_a L o), .int p1] σ res.1 res.2 := by
  refine ct_z hg (by decide) (Nat.le_of_ble_eq_true rfl) ?_
  intro E A Q hE C hN
  subst hE
  unfold f_Hat_end at hf0
  show GW E L A 2 0 0 Q σ 0 [(0, .ref (ly_a L o)), (1, .int p1)] []
  refine gw_iload_n C 1 d_Hat_end_0 rfl rfl ?_
  refine gw_if_lt C 12 d_Hat_end_1 (by decide) (fun hc => ?_) (fun hc => ?_)
  · replace hf0 := mx_t hc hf0
    refine gw_iconst C (0 : Int32) d_Hat_end_12 (by decide) ?_
    exact en_z hN (Or.inl rfl) hf0 d_Hat_end_13
  · replace hf0 := mx_f hc hf0
    refine gw_iload_n C 1 d_Hat_end_4 rfl rfl ?_
    refine gw_aload_n C 0 d_Hat_end_5 rfl rfl ?_
    refine gw_getI C 1 d_Hat_end_6 k_o_0 (by decide) i_Hat rfl rfl (by decide) qw_404 rfl rfl ?_
    refine gw_icmp_le C 14 d_Hat_end_9 (by decide) (fun hc => ?_) (fun hc => ?_)
    · replace hf0 := mx_t hc hf0
      refine gw_aload_n C 0 d_Hat_end_14 rfl rfl ?_
      refine gw_iload_n C 1 d_Hat_end_15 rfl rfl ?_
      obtain ⟨m16, em16, hf0⟩ := mx_lt hf0
      refine gw_putI t_Hat C 1 d_Hat_end_16 k_o_0 (by decide) i_Hat rfl rfl (by decide) qw_404 rfl rfl t_Hat_ok n_Hat rfl (t_Hat_ok 1 (by decide)) rfl rfl em16 ?_
      refine gw_iconst C (1 : Int32) d_Hat_end_19 (by decide) ?_
      exact en_z hN (Or.inr rfl) hf0 d_Hat_end_20
    · replace hf0 := mx_f hc hf0
      refine gw_iconst C (0 : Int32) d_Hat_end_12 (by decide) ?_
      exact en_z hN (Or.inl rfl) hf0 d_Hat_end_13

/-! NameHat.Tokens.start(II)V -/
abbrev b_Tokens_start : ByteArray := prog_11_method_2_code
def y_Tokens_start : MethodName := ⟨"NameHat$Tokens", "start", "(II)V"⟩
abbrev rm_Tokens_start : Room := { frames := 0, cells := 0, slots := 0, locals := 0 }
theorem hd_Tokens_start : y_Tokens_start.cls ≠ "java/lang/invoke/MethodHandle" ∧ y_Tokens_start.cls ≠ "java/lang/invoke/VarHandle" ∧ (parseMethodDescriptor y_Tokens_start.desc).map (fun d => d.parameters.length) = some 2 := by decide +kernel
theorem d_Tokens_start_0 : decode b_Tokens_start 0 = .ok (.aload_n 0, 1) := by decide +kernel
theorem d_Tokens_start_1 : decode b_Tokens_start 1 = .ok (.iload_n 1, 1) := by decide +kernel
theorem d_Tokens_start_2 : decode b_Tokens_start 2 = .ok (.putfield 20, 3) := by decide +kernel
theorem d_Tokens_start_5 : decode b_Tokens_start 5 = .ok (.aload_n 0, 1) := by decide +kernel
theorem d_Tokens_start_6 : decode b_Tokens_start 6 = .ok (.iload_n 2, 1) := by decide +kernel
theorem d_Tokens_start_7 : decode b_Tokens_start 7 = .ok (.putfield 24, 3) := by decide +kernel
theorem d_Tokens_start_10 : decode b_Tokens_start 10 = .ok (.aload_n 0, 1) := by decide +kernel
theorem d_Tokens_start_11 : decode b_Tokens_start 11 = .ok (.iconst 0, 1) := by decide +kernel
theorem d_Tokens_start_12 : decode b_Tokens_start 12 = .ok (.putfield 27, 3) := by decide +kernel
theorem d_Tokens_start_15 : decode b_Tokens_start 15 = .ok (.return_, 1) := by decide +kernel
noncomputable def f_Tokens_start (z : Nat → Nat) (σ : Mm) (o : Nat) (p1 : Int32) (p2 : Int32) : Option (Mm) :=
  mm_lt (kI σ o 1 p1) fun m2 =>
  mm_lt (kI m2 o 2 p2) fun m7 =>
  mm_lt (kI m7 o 3 (0 : Int32)) fun m12 =>
  some m12
set_option maxHeartbeats 4000000 in
set_option maxRecDepth 100000 in
theorem c_Tokens_start (l : Launch) {L : Ly} (hg : gd_ok L) {σ : Mm} {o : Nat} {p1 : Int32} {p2 : Int32} (k_o_0 : ly_k L o = 8) {res : Mm} (hf0 : f_Tokens_start (ly_z L) σ o p1 p2 = some res) : CtV l y_Tokens_start b_Tokens_start 3 (none) rm_Tokens_start L [.ref (ly_a L o), .int p1, .int p2] σ res := by
  refine ct_v hg (by decide) (Nat.le_of_ble_eq_true rfl) ?_
  intro E A Q hE C hN
  subst hE
  unfold f_Tokens_start at hf0
  show GW E L A 3 0 0 Q σ 0 [(0, .ref (ly_a L o)), (1, .int p1), (2, .int p2)] []
  refine gw_aload_n C 0 d_Tokens_start_0 rfl rfl ?_
  refine gw_iload_n C 1 d_Tokens_start_1 rfl rfl ?_
  obtain ⟨m2, em2, hf0⟩ := mx_lt hf0
  refine gw_putI t_Tokens C 1 d_Tokens_start_2 k_o_0 (by decide) i_Tokens rfl rfl (by decide) qw_57 rfl rfl t_Tokens_ok n_Tokens rfl (t_Tokens_ok 1 (by decide)) rfl rfl em2 ?_
  refine gw_aload_n C 0 d_Tokens_start_5 rfl rfl ?_
  refine gw_iload_n C 2 d_Tokens_start_6 rfl rfl ?_
  obtain ⟨m7, em7, hf0⟩ := mx_lt hf0
  refine gw_putI t_Tokens C 2 d_Tokens_start_7 k_o_0 (by decide) i_Tokens rfl rfl (by decide) qw_58 rfl rfl t_Tokens_ok n_Tokens rfl (t_Tokens_ok 2 (by decide)) rfl rfl em7 ?_
  refine gw_aload_n C 0 d_Tokens_start_10 rfl rfl ?_
  refine gw_iconst C (0 : Int32) d_Tokens_start_11 (by decide) ?_
  obtain ⟨m12, em12, hf0⟩ := mx_lt hf0
  refine gw_putI t_Tokens C 3 d_Tokens_start_12 k_o_0 (by decide) i_Tokens rfl rfl (by decide) qw_59 rfl rfl t_Tokens_ok n_Tokens rfl (t_Tokens_ok 3 (by decide)) rfl rfl em12 ?_
  exact en_v hN hf0 d_Tokens_start_15

/-! NameHat.Row.at(I)I -/
abbrev b_Row_at : ByteArray := prog_8_method_2_code
def y_Row_at : MethodName := ⟨"NameHat$Row", "at", "(I)I"⟩
abbrev rm_Row_at : Room := { frames := 0, cells := 0, slots := 0, locals := 0 }
theorem hd_Row_at : y_Row_at.cls ≠ "java/lang/invoke/MethodHandle" ∧ y_Row_at.cls ≠ "java/lang/invoke/VarHandle" ∧ (parseMethodDescriptor y_Row_at.desc).map (fun d => d.parameters.length) = some 1 := by decide +kernel
theorem d_Row_at_0 : decode b_Row_at 0 = .ok (.iload_n 1, 1) := by decide +kernel
theorem d_Row_at_1 : decode b_Row_at 1 = .ok (.ifCond .lt 21, 3) := by decide +kernel
theorem d_Row_at_4 : decode b_Row_at 4 = .ok (.iload_n 1, 1) := by decide +kernel
theorem d_Row_at_5 : decode b_Row_at 5 = .ok (.aload_n 0, 1) := by decide +kernel
theorem d_Row_at_6 : decode b_Row_at 6 = .ok (.getfield 9, 3) := by decide +kernel
theorem d_Row_at_9 : decode b_Row_at 9 = .ok (.arraylength, 1) := by decide +kernel
theorem d_Row_at_10 : decode b_Row_at 10 = .ok (.if_icmp .ge 12, 3) := by decide +kernel
theorem d_Row_at_13 : decode b_Row_at 13 = .ok (.aload_n 0, 1) := by decide +kernel
theorem d_Row_at_14 : decode b_Row_at 14 = .ok (.getfield 9, 3) := by decide +kernel
theorem d_Row_at_17 : decode b_Row_at 17 = .ok (.iload_n 1, 1) := by decide +kernel
theorem d_Row_at_18 : decode b_Row_at 18 = .ok (.iaload, 1) := by decide +kernel
theorem d_Row_at_19 : decode b_Row_at 19 = .ok (.goto 4, 3) := by decide +kernel
theorem d_Row_at_22 : decode b_Row_at 22 = .ok (.iconst (-1), 1) := by decide +kernel
theorem d_Row_at_23 : decode b_Row_at 23 = .ok (.ireturn, 1) := by decide +kernel
noncomputable def f_Row_at (z : Nat → Nat) (σ : Mm) (o : Nat) (p1 : Int32) : Option (Int32) :=
  if p1 < 0 then (
    some ((-1) : Int32)
  ) else (
    if (nI (z (o + 1))) ≤ p1 then (
      some ((-1) : Int32)
    ) else (
      (mm_ldI (σ.1 (o + 1)) (z (o + 1)) p1).bind fun x18 =>
      some x18
    )
  )
set_option maxHeartbeats 4000000 in
set_option maxRecDepth 100000 in
theorem c_Row_at (l : Launch) {L : Ly} (hg : gd_ok L) {σ : Mm} {o : Nat} {p1 : Int32} (k_o_0 : ly_k L o = 0) {res : Int32} (hf0 : f_Row_at (ly_z L) σ o p1 = some res) : CtI l y_Row_at b_Row_at 2 (some .int) rm_Row_at L [.ref (ly_a L o), .int p1] σ res σ := by
  refine ct_i hg (by decide) (Nat.le_of_ble_eq_true rfl) ?_
  intro E A Q hE C hN
  subst hE
  have k_o_1 : ly_k L (o + 1) = 20 := gd_Row_cells hg k_o_0
  unfold f_Row_at at hf0
  show GW E L A 2 0 0 Q σ 0 [(0, .ref (ly_a L o)), (1, .int p1)] []
  refine gw_iload_n C 1 d_Row_at_0 rfl rfl ?_
  refine gw_if_lt C 22 d_Row_at_1 (by decide) (fun hc => ?_) (fun hc => ?_)
  · replace hf0 := mx_t hc hf0
    refine gw_iconst C ((-1) : Int32) d_Row_at_22 (by decide) ?_
    exact en_ip hN hf0 d_Row_at_23
  · replace hf0 := mx_f hc hf0
    refine gw_iload_n C 1 d_Row_at_4 rfl rfl ?_
    refine gw_aload_n C 0 d_Row_at_5 rfl rfl ?_
    refine gw_getA C 0 d_Row_at_6 k_o_0 (by decide) i_Row rfl rfl (by decide) qw_50 rfl rfl (o + 1) rfl ?_
    refine gw_alen20 C d_Row_at_9 k_o_1 ?_
    refine gw_icmp_ge C 22 d_Row_at_10 (by decide) (fun hc => ?_) (fun hc => ?_)
    · replace hf0 := mx_t hc hf0
      refine gw_iconst C ((-1) : Int32) d_Row_at_22 (by decide) ?_
      exact en_ip hN hf0 d_Row_at_23
    · replace hf0 := mx_f hc hf0
      refine gw_aload_n C 0 d_Row_at_13 rfl rfl ?_
      refine gw_getA C 0 d_Row_at_14 k_o_0 (by decide) i_Row rfl rfl (by decide) qw_50 rfl rfl (o + 1) rfl ?_
      refine gw_iload_n C 1 d_Row_at_17 rfl rfl ?_
      obtain ⟨x18, hx18, hf0⟩ := mx_bd hf0
      obtain ⟨gx18, ex18⟩ := mx_ldI hx18
      refine gw_iald C d_Row_at_18 k_o_1 gx18 ex18 ?_
      refine gw_goto C 23 d_Row_at_19 (by decide) ?_
      exact en_ip hN hf0 d_Row_at_23

/-! NameHat.Tokens.isDigit(I)Z -/
abbrev b_Tokens_isDigit : ByteArray := prog_11_method_5_code
def y_Tokens_isDigit : MethodName := ⟨"NameHat$Tokens", "isDigit", "(I)Z"⟩
abbrev rm_Tokens_isDigit : Room := { frames := 0, cells := 0, slots := 0, locals := 0 }
theorem hd_Tokens_isDigit : y_Tokens_isDigit.cls ≠ "java/lang/invoke/MethodHandle" ∧ y_Tokens_isDigit.cls ≠ "java/lang/invoke/VarHandle" ∧ (parseMethodDescriptor y_Tokens_isDigit.desc).map (fun d => d.parameters.length) = some 1 := by decide +kernel
theorem d_Tokens_isDigit_0 : decode b_Tokens_isDigit 0 = .ok (.iload_n 0, 1) := by decide +kernel
theorem d_Tokens_isDigit_1 : decode b_Tokens_isDigit 1 = .ok (.bipush 48, 2) := by decide +kernel
theorem d_Tokens_isDigit_3 : decode b_Tokens_isDigit 3 = .ok (.if_icmp .lt 13, 3) := by decide +kernel
theorem d_Tokens_isDigit_6 : decode b_Tokens_isDigit 6 = .ok (.iload_n 0, 1) := by decide +kernel
theorem d_Tokens_isDigit_7 : decode b_Tokens_isDigit 7 = .ok (.bipush 57, 2) := by decide +kernel
theorem d_Tokens_isDigit_9 : decode b_Tokens_isDigit 9 = .ok (.if_icmp .gt 7, 3) := by decide +kernel
theorem d_Tokens_isDigit_12 : decode b_Tokens_isDigit 12 = .ok (.iconst 1, 1) := by decide +kernel
theorem d_Tokens_isDigit_13 : decode b_Tokens_isDigit 13 = .ok (.goto 4, 3) := by decide +kernel
theorem d_Tokens_isDigit_16 : decode b_Tokens_isDigit 16 = .ok (.iconst 0, 1) := by decide +kernel
theorem d_Tokens_isDigit_17 : decode b_Tokens_isDigit 17 = .ok (.ireturn, 1) := by decide +kernel
noncomputable def f_Tokens_isDigit (z : Nat → Nat) (σ : Mm) (p1 : Int32) : Option (Int32) :=
  if p1 < (48 : Int32) then (
    some (0 : Int32)
  ) else (
    if (57 : Int32) < p1 then (
      some (0 : Int32)
    ) else (
      some (1 : Int32)
    )
  )
set_option maxHeartbeats 4000000 in
set_option maxRecDepth 100000 in
theorem c_Tokens_isDigit (l : Launch) {L : Ly} (hg : gd_ok L) {σ : Mm} {p1 : Int32} {res : Int32} (hf0 : f_Tokens_isDigit (ly_z L) σ p1 = some res) : CtI l y_Tokens_isDigit b_Tokens_isDigit 1 (some .boolean) rm_Tokens_isDigit L [.int p1] σ res σ := by
  refine ct_z hg (by decide) (Nat.le_of_ble_eq_true rfl) ?_
  intro E A Q hE C hN
  subst hE
  unfold f_Tokens_isDigit at hf0
  show GW E L A 1 0 0 Q σ 0 [(0, .int p1)] []
  refine gw_iload_n C 0 d_Tokens_isDigit_0 rfl rfl ?_
  refine gw_bipush C (48 : Int32) d_Tokens_isDigit_1 (by decide) ?_
  refine gw_icmp_lt C 16 d_Tokens_isDigit_3 (by decide) (fun hc => ?_) (fun hc => ?_)
  · replace hf0 := mx_t hc hf0
    refine gw_iconst C (0 : Int32) d_Tokens_isDigit_16 (by decide) ?_
    exact en_zp hN (Or.inl rfl) hf0 d_Tokens_isDigit_17
  · replace hf0 := mx_f hc hf0
    refine gw_iload_n C 0 d_Tokens_isDigit_6 rfl rfl ?_
    refine gw_bipush C (57 : Int32) d_Tokens_isDigit_7 (by decide) ?_
    refine gw_icmp_gt C 16 d_Tokens_isDigit_9 (by decide) (fun hc => ?_) (fun hc => ?_)
    · replace hf0 := mx_t hc hf0
      refine gw_iconst C (0 : Int32) d_Tokens_isDigit_16 (by decide) ?_
      exact en_zp hN (Or.inl rfl) hf0 d_Tokens_isDigit_17
    · replace hf0 := mx_f hc hf0
      refine gw_iconst C (1 : Int32) d_Tokens_isDigit_12 (by decide) ?_
      refine gw_goto C 17 d_Tokens_isDigit_13 (by decide) ?_
      exact en_zp hN (Or.inr rfl) hf0 d_Tokens_isDigit_17

/-! NameHat.Tokens.isLetter(I)Z -/
abbrev b_Tokens_isLetter : ByteArray := prog_11_method_6_code
def y_Tokens_isLetter : MethodName := ⟨"NameHat$Tokens", "isLetter", "(I)Z"⟩
abbrev rm_Tokens_isLetter : Room := { frames := 0, cells := 0, slots := 0, locals := 0 }
theorem hd_Tokens_isLetter : y_Tokens_isLetter.cls ≠ "java/lang/invoke/MethodHandle" ∧ y_Tokens_isLetter.cls ≠ "java/lang/invoke/VarHandle" ∧ (parseMethodDescriptor y_Tokens_isLetter.desc).map (fun d => d.parameters.length) = some 1 := by decide +kernel
theorem d_Tokens_isLetter_0 : decode b_Tokens_isLetter 0 = .ok (.iload_n 0, 1) := by decide +kernel
theorem d_Tokens_isLetter_1 : decode b_Tokens_isLetter 1 = .ok (.bipush 97, 2) := by decide +kernel
theorem d_Tokens_isLetter_3 : decode b_Tokens_isLetter 3 = .ok (.if_icmp .lt 13, 3) := by decide +kernel
theorem d_Tokens_isLetter_6 : decode b_Tokens_isLetter 6 = .ok (.iload_n 0, 1) := by decide +kernel
theorem d_Tokens_isLetter_7 : decode b_Tokens_isLetter 7 = .ok (.bipush 122, 2) := by decide +kernel
theorem d_Tokens_isLetter_9 : decode b_Tokens_isLetter 9 = .ok (.if_icmp .gt 7, 3) := by decide +kernel
theorem d_Tokens_isLetter_12 : decode b_Tokens_isLetter 12 = .ok (.iconst 1, 1) := by decide +kernel
theorem d_Tokens_isLetter_13 : decode b_Tokens_isLetter 13 = .ok (.goto 4, 3) := by decide +kernel
theorem d_Tokens_isLetter_16 : decode b_Tokens_isLetter 16 = .ok (.iconst 0, 1) := by decide +kernel
theorem d_Tokens_isLetter_17 : decode b_Tokens_isLetter 17 = .ok (.ireturn, 1) := by decide +kernel
noncomputable def f_Tokens_isLetter (z : Nat → Nat) (σ : Mm) (p1 : Int32) : Option (Int32) :=
  if p1 < (97 : Int32) then (
    some (0 : Int32)
  ) else (
    if (122 : Int32) < p1 then (
      some (0 : Int32)
    ) else (
      some (1 : Int32)
    )
  )
set_option maxHeartbeats 4000000 in
set_option maxRecDepth 100000 in
theorem c_Tokens_isLetter (l : Launch) {L : Ly} (hg : gd_ok L) {σ : Mm} {p1 : Int32} {res : Int32} (hf0 : f_Tokens_isLetter (ly_z L) σ p1 = some res) : CtI l y_Tokens_isLetter b_Tokens_isLetter 1 (some .boolean) rm_Tokens_isLetter L [.int p1] σ res σ := by
  refine ct_z hg (by decide) (Nat.le_of_ble_eq_true rfl) ?_
  intro E A Q hE C hN
  subst hE
  unfold f_Tokens_isLetter at hf0
  show GW E L A 1 0 0 Q σ 0 [(0, .int p1)] []
  refine gw_iload_n C 0 d_Tokens_isLetter_0 rfl rfl ?_
  refine gw_bipush C (97 : Int32) d_Tokens_isLetter_1 (by decide) ?_
  refine gw_icmp_lt C 16 d_Tokens_isLetter_3 (by decide) (fun hc => ?_) (fun hc => ?_)
  · replace hf0 := mx_t hc hf0
    refine gw_iconst C (0 : Int32) d_Tokens_isLetter_16 (by decide) ?_
    exact en_zp hN (Or.inl rfl) hf0 d_Tokens_isLetter_17
  · replace hf0 := mx_f hc hf0
    refine gw_iload_n C 0 d_Tokens_isLetter_6 rfl rfl ?_
    refine gw_bipush C (122 : Int32) d_Tokens_isLetter_7 (by decide) ?_
    refine gw_icmp_gt C 16 d_Tokens_isLetter_9 (by decide) (fun hc => ?_) (fun hc => ?_)
    · replace hf0 := mx_t hc hf0
      refine gw_iconst C (0 : Int32) d_Tokens_isLetter_16 (by decide) ?_
      exact en_zp hN (Or.inl rfl) hf0 d_Tokens_isLetter_17
    · replace hf0 := mx_f hc hf0
      refine gw_iconst C (1 : Int32) d_Tokens_isLetter_12 (by decide) ?_
      refine gw_goto C 17 d_Tokens_isLetter_13 (by decide) ?_
      exact en_zp hN (Or.inr rfl) hf0 d_Tokens_isLetter_17

/-! NameHat.Tokens.readRun()V -/
abbrev b_Tokens_readRun : ByteArray := prog_11_method_4_code
def y_Tokens_readRun : MethodName := ⟨"NameHat$Tokens", "readRun", "()V"⟩
abbrev rm_Tokens_readRun : Room := { frames := 11, cells := 0, slots := 0, locals := 425 }
theorem hd_Tokens_readRun : y_Tokens_readRun.cls ≠ "java/lang/invoke/MethodHandle" ∧ y_Tokens_readRun.cls ≠ "java/lang/invoke/VarHandle" ∧ (parseMethodDescriptor y_Tokens_readRun.desc).map (fun d => d.parameters.length) = some 0 := by decide +kernel
theorem d_Tokens_readRun_0 : decode b_Tokens_readRun 0 = .ok (.iconst 0, 1) := by decide +kernel
theorem d_Tokens_readRun_1 : decode b_Tokens_readRun 1 = .ok (.istore_n 1, 1) := by decide +kernel
theorem d_Tokens_readRun_2 : decode b_Tokens_readRun 2 = .ok (.aload_n 0, 1) := by decide +kernel
theorem d_Tokens_readRun_3 : decode b_Tokens_readRun 3 = .ok (.iconst 0, 1) := by decide +kernel
theorem d_Tokens_readRun_4 : decode b_Tokens_readRun 4 = .ok (.putfield 52, 3) := by decide +kernel
theorem d_Tokens_readRun_7 : decode b_Tokens_readRun 7 = .ok (.aload_n 0, 1) := by decide +kernel
theorem d_Tokens_readRun_8 : decode b_Tokens_readRun 8 = .ok (.lconst 0, 1) := by decide +kernel
theorem d_Tokens_readRun_9 : decode b_Tokens_readRun 9 = .ok (.putfield 55, 3) := by decide +kernel
theorem d_Tokens_readRun_12 : decode b_Tokens_readRun 12 = .ok (.aload_n 0, 1) := by decide +kernel
theorem d_Tokens_readRun_13 : decode b_Tokens_readRun 13 = .ok (.aload_n 0, 1) := by decide +kernel
theorem d_Tokens_readRun_14 : decode b_Tokens_readRun 14 = .ok (.getfield 36, 3) := by decide +kernel
theorem d_Tokens_readRun_17 : decode b_Tokens_readRun 17 = .ok (.putfield 27, 3) := by decide +kernel
theorem d_Tokens_readRun_20 : decode b_Tokens_readRun 20 = .ok (.aload_n 0, 1) := by decide +kernel
theorem d_Tokens_readRun_21 : decode b_Tokens_readRun 21 = .ok (.getfield 27, 3) := by decide +kernel
theorem d_Tokens_readRun_24 : decode b_Tokens_readRun 24 = .ok (.aload_n 0, 1) := by decide +kernel
theorem d_Tokens_readRun_25 : decode b_Tokens_readRun 25 = .ok (.getfield 20, 3) := by decide +kernel
theorem d_Tokens_readRun_28 : decode b_Tokens_readRun 28 = .ok (.if_icmp .ge 106, 3) := by decide +kernel
theorem d_Tokens_readRun_31 : decode b_Tokens_readRun 31 = .ok (.aload_n 0, 1) := by decide +kernel
theorem d_Tokens_readRun_32 : decode b_Tokens_readRun 32 = .ok (.getfield 14, 3) := by decide +kernel
theorem d_Tokens_readRun_35 : decode b_Tokens_readRun 35 = .ok (.aload_n 0, 1) := by decide +kernel
theorem d_Tokens_readRun_36 : decode b_Tokens_readRun 36 = .ok (.getfield 27, 3) := by decide +kernel
theorem d_Tokens_readRun_39 : decode b_Tokens_readRun 39 = .ok (.invokevirtual 39, 3) := by decide +kernel
theorem d_Tokens_readRun_42 : decode b_Tokens_readRun 42 = .ok (.invokestatic 59, 3) := by decide +kernel
theorem d_Tokens_readRun_45 : decode b_Tokens_readRun 45 = .ok (.ifCond .ne 20, 3) := by decide +kernel
theorem d_Tokens_readRun_48 : decode b_Tokens_readRun 48 = .ok (.aload_n 0, 1) := by decide +kernel
theorem d_Tokens_readRun_49 : decode b_Tokens_readRun 49 = .ok (.getfield 14, 3) := by decide +kernel
theorem d_Tokens_readRun_52 : decode b_Tokens_readRun 52 = .ok (.aload_n 0, 1) := by decide +kernel
theorem d_Tokens_readRun_53 : decode b_Tokens_readRun 53 = .ok (.getfield 27, 3) := by decide +kernel
theorem d_Tokens_readRun_56 : decode b_Tokens_readRun 56 = .ok (.invokevirtual 39, 3) := by decide +kernel
theorem d_Tokens_readRun_59 : decode b_Tokens_readRun 59 = .ok (.invokestatic 63, 3) := by decide +kernel
theorem d_Tokens_readRun_62 : decode b_Tokens_readRun 62 = .ok (.ifCond .eq 72, 3) := by decide +kernel
theorem d_Tokens_readRun_65 : decode b_Tokens_readRun 65 = .ok (.aload_n 0, 1) := by decide +kernel
theorem d_Tokens_readRun_66 : decode b_Tokens_readRun 66 = .ok (.getfield 14, 3) := by decide +kernel
theorem d_Tokens_readRun_69 : decode b_Tokens_readRun 69 = .ok (.aload_n 0, 1) := by decide +kernel
theorem d_Tokens_readRun_70 : decode b_Tokens_readRun 70 = .ok (.getfield 27, 3) := by decide +kernel
theorem d_Tokens_readRun_73 : decode b_Tokens_readRun 73 = .ok (.invokevirtual 39, 3) := by decide +kernel
theorem d_Tokens_readRun_76 : decode b_Tokens_readRun 76 = .ok (.istore_n 2, 1) := by decide +kernel
theorem d_Tokens_readRun_77 : decode b_Tokens_readRun 77 = .ok (.iload_n 2, 1) := by decide +kernel
theorem d_Tokens_readRun_78 : decode b_Tokens_readRun 78 = .ok (.invokestatic 59, 3) := by decide +kernel
theorem d_Tokens_readRun_81 : decode b_Tokens_readRun 81 = .ok (.ifCond .eq 25, 3) := by decide +kernel
theorem d_Tokens_readRun_84 : decode b_Tokens_readRun 84 = .ok (.aload_n 0, 1) := by decide +kernel
theorem d_Tokens_readRun_85 : decode b_Tokens_readRun 85 = .ok (.aload_n 0, 1) := by decide +kernel
theorem d_Tokens_readRun_86 : decode b_Tokens_readRun 86 = .ok (.getfield 52, 3) := by decide +kernel
theorem d_Tokens_readRun_89 : decode b_Tokens_readRun 89 = .ok (.bipush 10, 2) := by decide +kernel
theorem d_Tokens_readRun_91 : decode b_Tokens_readRun 91 = .ok (.imul, 1) := by decide +kernel
theorem d_Tokens_readRun_92 : decode b_Tokens_readRun 92 = .ok (.iload_n 2, 1) := by decide +kernel
theorem d_Tokens_readRun_93 : decode b_Tokens_readRun 93 = .ok (.bipush 48, 2) := by decide +kernel
theorem d_Tokens_readRun_95 : decode b_Tokens_readRun 95 = .ok (.isub, 1) := by decide +kernel
theorem d_Tokens_readRun_96 : decode b_Tokens_readRun 96 = .ok (.iadd, 1) := by decide +kernel
theorem d_Tokens_readRun_97 : decode b_Tokens_readRun 97 = .ok (.putfield 52, 3) := by decide +kernel
theorem d_Tokens_readRun_100 : decode b_Tokens_readRun 100 = .ok (.iinc 1 1, 3) := by decide +kernel
theorem d_Tokens_readRun_103 : decode b_Tokens_readRun 103 = .ok (.goto 18, 3) := by decide +kernel
theorem d_Tokens_readRun_106 : decode b_Tokens_readRun 106 = .ok (.aload_n 0, 1) := by decide +kernel
theorem d_Tokens_readRun_107 : decode b_Tokens_readRun 107 = .ok (.aload_n 0, 1) := by decide +kernel
theorem d_Tokens_readRun_108 : decode b_Tokens_readRun 108 = .ok (.getfield 55, 3) := by decide +kernel
theorem d_Tokens_readRun_111 : decode b_Tokens_readRun 111 = .ok (.ldc2_w 68, 3) := by decide +kernel
theorem d_Tokens_readRun_114 : decode b_Tokens_readRun 114 = .ok (.lmul, 1) := by decide +kernel
theorem d_Tokens_readRun_115 : decode b_Tokens_readRun 115 = .ok (.iload_n 2, 1) := by decide +kernel
theorem d_Tokens_readRun_116 : decode b_Tokens_readRun 116 = .ok (.i2l, 1) := by decide +kernel
theorem d_Tokens_readRun_117 : decode b_Tokens_readRun 117 = .ok (.ladd, 1) := by decide +kernel
theorem d_Tokens_readRun_118 : decode b_Tokens_readRun 118 = .ok (.putfield 55, 3) := by decide +kernel
theorem d_Tokens_readRun_121 : decode b_Tokens_readRun 121 = .ok (.aload_n 0, 1) := by decide +kernel
theorem d_Tokens_readRun_122 : decode b_Tokens_readRun 122 = .ok (.dup, 1) := by decide +kernel
theorem d_Tokens_readRun_123 : decode b_Tokens_readRun 123 = .ok (.getfield 27, 3) := by decide +kernel
theorem d_Tokens_readRun_126 : decode b_Tokens_readRun 126 = .ok (.iconst 1, 1) := by decide +kernel
theorem d_Tokens_readRun_127 : decode b_Tokens_readRun 127 = .ok (.iadd, 1) := by decide +kernel
theorem d_Tokens_readRun_128 : decode b_Tokens_readRun 128 = .ok (.putfield 27, 3) := by decide +kernel
theorem d_Tokens_readRun_131 : decode b_Tokens_readRun 131 = .ok (.goto (-111), 3) := by decide +kernel
theorem d_Tokens_readRun_134 : decode b_Tokens_readRun 134 = .ok (.aload_n 0, 1) := by decide +kernel
theorem d_Tokens_readRun_135 : decode b_Tokens_readRun 135 = .ok (.getfield 27, 3) := by decide +kernel
theorem d_Tokens_readRun_138 : decode b_Tokens_readRun 138 = .ok (.aload_n 0, 1) := by decide +kernel
theorem d_Tokens_readRun_139 : decode b_Tokens_readRun 139 = .ok (.getfield 36, 3) := by decide +kernel
theorem d_Tokens_readRun_142 : decode b_Tokens_readRun 142 = .ok (.isub, 1) := by decide +kernel
theorem d_Tokens_readRun_143 : decode b_Tokens_readRun 143 = .ok (.istore_n 2, 1) := by decide +kernel
theorem d_Tokens_readRun_144 : decode b_Tokens_readRun 144 = .ok (.aload_n 0, 1) := by decide +kernel
theorem d_Tokens_readRun_145 : decode b_Tokens_readRun 145 = .ok (.iconst 4, 1) := by decide +kernel
theorem d_Tokens_readRun_146 : decode b_Tokens_readRun 146 = .ok (.putfield 46, 3) := by decide +kernel
theorem d_Tokens_readRun_149 : decode b_Tokens_readRun 149 = .ok (.iload_n 1, 1) := by decide +kernel
theorem d_Tokens_readRun_150 : decode b_Tokens_readRun 150 = .ok (.ifCond .ne 28, 3) := by decide +kernel
theorem d_Tokens_readRun_153 : decode b_Tokens_readRun 153 = .ok (.iload_n 2, 1) := by decide +kernel
theorem d_Tokens_readRun_154 : decode b_Tokens_readRun 154 = .ok (.bipush 7, 2) := by decide +kernel
theorem d_Tokens_readRun_156 : decode b_Tokens_readRun 156 = .ok (.if_icmp .gt 22, 3) := by decide +kernel
theorem d_Tokens_readRun_159 : decode b_Tokens_readRun 159 = .ok (.aload_n 0, 1) := by decide +kernel
theorem d_Tokens_readRun_160 : decode b_Tokens_readRun 160 = .ok (.iconst 1, 1) := by decide +kernel
theorem d_Tokens_readRun_161 : decode b_Tokens_readRun 161 = .ok (.putfield 46, 3) := by decide +kernel
theorem d_Tokens_readRun_164 : decode b_Tokens_readRun 164 = .ok (.aload_n 0, 1) := by decide +kernel
theorem d_Tokens_readRun_165 : decode b_Tokens_readRun 165 = .ok (.aload_n 0, 1) := by decide +kernel
theorem d_Tokens_readRun_166 : decode b_Tokens_readRun 166 = .ok (.getfield 55, 3) := by decide +kernel
theorem d_Tokens_readRun_169 : decode b_Tokens_readRun 169 = .ok (.invokestatic 70, 3) := by decide +kernel
theorem d_Tokens_readRun_172 : decode b_Tokens_readRun 172 = .ok (.putfield 43, 3) := by decide +kernel
theorem d_Tokens_readRun_175 : decode b_Tokens_readRun 175 = .ok (.goto 18, 3) := by decide +kernel
theorem d_Tokens_readRun_178 : decode b_Tokens_readRun 178 = .ok (.iload_n 1, 1) := by decide +kernel
theorem d_Tokens_readRun_179 : decode b_Tokens_readRun 179 = .ok (.iload_n 2, 1) := by decide +kernel
theorem d_Tokens_readRun_180 : decode b_Tokens_readRun 180 = .ok (.if_icmp .ne 13, 3) := by decide +kernel
theorem d_Tokens_readRun_183 : decode b_Tokens_readRun 183 = .ok (.iload_n 2, 1) := by decide +kernel
theorem d_Tokens_readRun_184 : decode b_Tokens_readRun 184 = .ok (.iconst 2, 1) := by decide +kernel
theorem d_Tokens_readRun_185 : decode b_Tokens_readRun 185 = .ok (.if_icmp .gt 8, 3) := by decide +kernel
theorem d_Tokens_readRun_188 : decode b_Tokens_readRun 188 = .ok (.aload_n 0, 1) := by decide +kernel
theorem d_Tokens_readRun_189 : decode b_Tokens_readRun 189 = .ok (.iconst 2, 1) := by decide +kernel
theorem d_Tokens_readRun_190 : decode b_Tokens_readRun 190 = .ok (.putfield 46, 3) := by decide +kernel
theorem d_Tokens_readRun_193 : decode b_Tokens_readRun 193 = .ok (.return_, 1) := by decide +kernel
noncomputable def f_Tokens_readRun_J178 (z : Nat → Nat) (o : Nat) (v1 : Int32) (v2 : Int32) (m178 : Mm) : Option (Mm) :=
  if v1 = v2 then (
    if (2 : Int32) < v2 then (
      some m178
    ) else (
      mm_lt (kI m178 o 4 (2 : Int32)) fun m190 =>
      some m190
    )
  ) else (
    some m178
  )
noncomputable def f_Tokens_readRun_J134 (z : Nat → Nat) (o : Nat) (v1 : Int32) (m134 : Mm) : Option (Mm) :=
  mm_lt (((m134.1 o 3) - (m134.1 o 5))) fun x143 =>
  mm_lt (kI m134 o 4 (4 : Int32)) fun m146 =>
  if v1 = 0 then (
    if (7 : Int32) < x143 then (
      f_Tokens_readRun_J178 z o v1 x143 m146
    ) else (
      mm_lt (kI m146 o 4 (1 : Int32)) fun m161 =>
      (f_Words_numberOf z m161 (m161.2 o 7)).bind fun q169 =>
      mm_lt (kI m161 o 8 q169) fun m172 =>
      some m172
    )
  ) else (
    f_Tokens_readRun_J178 z o v1 x143 m146
  )
noncomputable def f_Tokens_readRun_J65 (z : Nat → Nat) (o : Nat) (v1 : Int32) (m65 : Mm) : Option ((Int32 × Mm) ⊕ (Int32 × Mm)) :=
  (f_Row_at z m65 (o + 1) (m65.1 o 3)).bind fun q73 =>
  (f_Tokens_isDigit z m65 q73).bind fun q78 =>
  if q78 = 0 then (
    mm_lt (kL m65 o 7 (((m65.2 o 7) * (128 : Int64)) + (Int32.toInt64 q73))) fun m118 =>
    mm_lt (kI m118 o 3 ((m118.1 o 3) + (1 : Int32))) fun m128 =>
    some (.inl (v1, m128))
  ) else (
    mm_lt (kI m65 o 6 (((m65.1 o 6) * (10 : Int32)) + (q73 - (48 : Int32)))) fun m97 =>
    mm_lt (v1 + (1 : Int32)) fun x100 =>
    mm_lt (kI m97 o 3 ((m97.1 o 3) + (1 : Int32))) fun m128 =>
    some (.inl (x100, m128))
  )
noncomputable def f_Tokens_readRun_L20 (z : Nat → Nat) (o : Nat) (s20 : Int32 × Mm) : Option ((Int32 × Mm) ⊕ (Int32 × Mm)) :=
  if (s20.2.1 o 1) ≤ (s20.2.1 o 3) then (
    some (.inr (s20.1, s20.2))
  ) else (
    (f_Row_at z s20.2 (o + 1) (s20.2.1 o 3)).bind fun q39 =>
    (f_Tokens_isDigit z s20.2 q39).bind fun q42 =>
    if q42 = 0 then (
      (f_Row_at z s20.2 (o + 1) (s20.2.1 o 3)).bind fun q56 =>
      (f_Tokens_isLetter z s20.2 q56).bind fun q59 =>
      if q59 = 0 then (
        some (.inr (s20.1, s20.2))
      ) else (
        f_Tokens_readRun_J65 z o s20.1 s20.2
      )
    ) else (
      f_Tokens_readRun_J65 z o s20.1 s20.2
    )
  )
noncomputable def f_Tokens_readRun (z : Nat → Nat) (σ : Mm) (o : Nat) : Option (Mm) :=
  mm_lt (kI σ o 6 (0 : Int32)) fun m4 =>
  mm_lt (kL m4 o 7 (0 : Int64)) fun m9 =>
  mm_lt (kI m9 o 3 (m9.1 o 5)) fun m17 =>
  (mm_lp (f_Tokens_readRun_L20 z o) ((0 : Int32), m17)).bind (fun q20 =>
    f_Tokens_readRun_J134 z o q20.1 q20.2)
set_option maxHeartbeats 4000000 in
set_option maxRecDepth 100000 in
theorem c_Tokens_readRun (l : Launch) {L : Ly} (hg : gd_ok L) {σ : Mm} {o : Nat} (k_o_0 : ly_k L o = 8) {res : Mm} (hf0 : f_Tokens_readRun (ly_z L) σ o = some res) : CtV l y_Tokens_readRun b_Tokens_readRun 3 (none) rm_Tokens_readRun L [.ref (ly_a L o)] σ res := by
  refine ct_v hg (by decide) (Nat.le_of_ble_eq_true rfl) ?_
  intro E A Q hE C hN
  subst hE
  have k_o_1 : ly_k L (o + 1) = 0 := gd_Tokens_tape hg k_o_0
  unfold f_Tokens_readRun at hf0
  show GW E L A 3 0 0 Q σ 0 [(0, .ref (ly_a L o))] []
  have hj178 : ∀ (v1 : Int32) (v2 : Int32) (m178 : Mm), f_Tokens_readRun_J178 (ly_z L) o v1 v2 m178 = some res → GW E L A 3 0 0 Q m178 178 [(0, .ref (ly_a L o)), (1, .int v1), (2, .int v2)] [] := by
    intro v1 v2 m178 hf0
    unfold f_Tokens_readRun_J178 at hf0
    refine gw_iload_n C 1 d_Tokens_readRun_178 rfl rfl ?_
    refine gw_iload_n C 2 d_Tokens_readRun_179 rfl rfl ?_
    refine gw_icmp_ne C 193 d_Tokens_readRun_180 (by decide) (fun hc => ?_) (fun hc => ?_)
    · replace hf0 := mx_f hc hf0
      exact en_v hN hf0 d_Tokens_readRun_193
    · replace hf0 := mx_t hc hf0
      refine gw_iload_n C 2 d_Tokens_readRun_183 rfl rfl ?_
      refine gw_iconst C (2 : Int32) d_Tokens_readRun_184 (by decide) ?_
      refine gw_icmp_gt C 193 d_Tokens_readRun_185 (by decide) (fun hc => ?_) (fun hc => ?_)
      · replace hf0 := mx_t hc hf0
        exact en_v hN hf0 d_Tokens_readRun_193
      · replace hf0 := mx_f hc hf0
        refine gw_aload_n C 0 d_Tokens_readRun_188 rfl rfl ?_
        refine gw_iconst C (2 : Int32) d_Tokens_readRun_189 (by decide) ?_
        obtain ⟨m190, em190, hf0⟩ := mx_lt hf0
        refine gw_putI t_Tokens C 4 d_Tokens_readRun_190 k_o_0 (by decide) i_Tokens rfl rfl (by decide) qw_61 rfl rfl t_Tokens_ok n_Tokens rfl (t_Tokens_ok 4 (by decide)) rfl rfl em190 ?_
        exact en_v hN hf0 d_Tokens_readRun_193
  have hj134 : ∀ (v1 : Int32) (m134 : Mm), f_Tokens_readRun_J134 (ly_z L) o v1 m134 = some res → GW E L A 3 0 0 Q m134 134 [(0, .ref (ly_a L o)), (1, .int v1)] [] := by
    intro v1 m134 hf0
    unfold f_Tokens_readRun_J134 at hf0
    refine gw_aload_n C 0 d_Tokens_readRun_134 rfl rfl ?_
    refine gw_getI C 3 d_Tokens_readRun_135 k_o_0 (by decide) i_Tokens rfl rfl (by decide) qw_59 rfl rfl ?_
    refine gw_aload_n C 0 d_Tokens_readRun_138 rfl rfl ?_
    refine gw_getI C 5 d_Tokens_readRun_139 k_o_0 (by decide) i_Tokens rfl rfl (by decide) qw_63 rfl rfl ?_
    refine gw_isub C d_Tokens_readRun_142 ?_
    obtain ⟨x143, ex143, hf0⟩ := mx_lt hf0
    refine gw_topi ex143 ?_
    refine gw_istore_n C [(2, .int x143), (0, .ref (ly_a L o)), (1, .int v1)] d_Tokens_readRun_143 rfl (by decide) rfl ?_
    refine gw_aload_n C 1 d_Tokens_readRun_144 rfl rfl ?_
    refine gw_iconst C (4 : Int32) d_Tokens_readRun_145 (by decide) ?_
    obtain ⟨m146, em146, hf0⟩ := mx_lt hf0
    refine gw_putI t_Tokens C 4 d_Tokens_readRun_146 k_o_0 (by decide) i_Tokens rfl rfl (by decide) qw_61 rfl rfl t_Tokens_ok n_Tokens rfl (t_Tokens_ok 4 (by decide)) rfl rfl em146 ?_
    refine gw_iload_n C 2 d_Tokens_readRun_149 rfl rfl ?_
    refine gw_if_ne C 178 d_Tokens_readRun_150 (by decide) (fun hc => ?_) (fun hc => ?_)
    · replace hf0 := mx_f hc hf0
      exact gw_go [1, 2, 0] (hj178 _ _ _ hf0) rfl
    · replace hf0 := mx_t hc hf0
      refine gw_iload_n C 0 d_Tokens_readRun_153 rfl rfl ?_
      refine gw_bipush C (7 : Int32) d_Tokens_readRun_154 (by decide) ?_
      refine gw_icmp_gt C 178 d_Tokens_readRun_156 (by decide) (fun hc => ?_) (fun hc => ?_)
      · replace hf0 := mx_t hc hf0
        exact gw_go [1, 2, 0] (hj178 _ _ _ hf0) rfl
      · replace hf0 := mx_f hc hf0
        refine gw_aload_n C 1 d_Tokens_readRun_159 rfl rfl ?_
        refine gw_iconst C (1 : Int32) d_Tokens_readRun_160 (by decide) ?_
        obtain ⟨m161, em161, hf0⟩ := mx_lt hf0
        refine gw_putI t_Tokens C 4 d_Tokens_readRun_161 k_o_0 (by decide) i_Tokens rfl rfl (by decide) qw_61 rfl rfl t_Tokens_ok n_Tokens rfl (t_Tokens_ok 4 (by decide)) rfl rfl em161 ?_
        refine gw_aload_n C 1 d_Tokens_readRun_164 rfl rfl ?_
        refine gw_aload_n C 1 d_Tokens_readRun_165 rfl rfl ?_
        refine gw_getL C 7 d_Tokens_readRun_166 k_o_0 (by decide) i_Tokens rfl rfl (by decide) qw_66 rfl rfl ?_
        obtain ⟨q169, hq169, hf0⟩ := mx_bd hf0
        refine gw_callIS C (c_Words_numberOf _ hg hq169) d_Tokens_readRun_169 1 qw_503 qw_504 qw_14 qw_505 hd_Words_numberOf rfl rfl (Nat.le_of_ble_eq_true rfl) ⟨rfl, rfl, Nat.le_of_ble_eq_true rfl, Nat.le_of_ble_eq_true rfl⟩ ⟨Nat.zero_le _, Nat.zero_le _⟩ ?_
        obtain ⟨m172, em172, hf0⟩ := mx_lt hf0
        refine gw_putI t_Tokens C 8 d_Tokens_readRun_172 k_o_0 (by decide) i_Tokens rfl rfl (by decide) qw_68 rfl rfl t_Tokens_ok n_Tokens rfl (t_Tokens_ok 8 (by decide)) rfl rfl em172 ?_
        refine gw_goto C 193 d_Tokens_readRun_175 (by decide) ?_
        exact en_v hN hf0 d_Tokens_readRun_193
  refine gw_iconst C (0 : Int32) d_Tokens_readRun_0 (by decide) ?_
  refine gw_istore_n C [(1, .int (0 : Int32)), (0, .ref (ly_a L o))] d_Tokens_readRun_1 rfl (by decide) rfl ?_
  refine gw_aload_n C 1 d_Tokens_readRun_2 rfl rfl ?_
  refine gw_iconst C (0 : Int32) d_Tokens_readRun_3 (by decide) ?_
  obtain ⟨m4, em4, hf0⟩ := mx_lt hf0
  refine gw_putI t_Tokens C 6 d_Tokens_readRun_4 k_o_0 (by decide) i_Tokens rfl rfl (by decide) qw_64 rfl rfl t_Tokens_ok n_Tokens rfl (t_Tokens_ok 6 (by decide)) rfl rfl em4 ?_
  refine gw_aload_n C 1 d_Tokens_readRun_7 rfl rfl ?_
  refine gw_lconst C (0 : Int64) d_Tokens_readRun_8 (by decide) ?_
  obtain ⟨m9, em9, hf0⟩ := mx_lt hf0
  refine gw_putL t_Tokens C 7 d_Tokens_readRun_9 k_o_0 (by decide) i_Tokens rfl rfl (by decide) qw_66 rfl rfl t_Tokens_ok n_Tokens rfl (t_Tokens_ok 7 (by decide)) rfl rfl em9 ?_
  refine gw_aload_n C 1 d_Tokens_readRun_12 rfl rfl ?_
  refine gw_aload_n C 1 d_Tokens_readRun_13 rfl rfl ?_
  refine gw_getI C 5 d_Tokens_readRun_14 k_o_0 (by decide) i_Tokens rfl rfl (by decide) qw_63 rfl rfl ?_
  obtain ⟨m17, em17, hf0⟩ := mx_lt hf0
  refine gw_putI t_Tokens C 3 d_Tokens_readRun_17 k_o_0 (by decide) i_Tokens rfl rfl (by decide) qw_59 rfl rfl t_Tokens_ok n_Tokens rfl (t_Tokens_ok 3 (by decide)) rfl rfl em17 ?_
  obtain ⟨q20, hq20, hf0⟩ := mx_bd hf0
  have hk20 : ∀ x9, q20 = x9 → GW E L A 3 0 0 Q x9.2 134 [(0, .ref (ly_a L o)), (1, .int x9.1)] [] := by
    intro x9 hx9
    subst hx9
    exact gw_go [0, 1] (hj134 _ _ hf0) rfl
  refine gw_sub [1, 0] (lv' := [(0, .ref (ly_a L o)), (1, .int (0 : Int32))]) rfl ?_
  refine mm_rule hq20 (P := fun (s20 : Int32 × Mm) => GW E L A 3 0 0 Q s20.2 20 [(0, .ref (ly_a L o)), (1, .int s20.1)] []) ?_
  intro s20 ih20 hx20 ⟨w20, hb20⟩
  have hj65 : ∀ (v1 : Int32) (m65 : Mm), f_Tokens_readRun_J65 (ly_z L) o v1 m65 = some w20 → GW E L A 3 0 0 Q m65 65 [(0, .ref (ly_a L o)), (1, .int v1)] [] := by
    intro v1 m65 hf1
    unfold f_Tokens_readRun_J65 at hf1
    refine gw_aload_n C 0 d_Tokens_readRun_65 rfl rfl ?_
    refine gw_getA C 0 d_Tokens_readRun_66 k_o_0 (by decide) i_Tokens rfl rfl (by decide) qw_55 rfl rfl (o + 1) rfl ?_
    refine gw_aload_n C 0 d_Tokens_readRun_69 rfl rfl ?_
    refine gw_getI C 3 d_Tokens_readRun_70 k_o_0 (by decide) i_Tokens rfl rfl (by decide) qw_59 rfl rfl ?_
    obtain ⟨q73, hq73, hf1⟩ := mx_bd hf1
    refine gw_callI C (c_Row_at _ hg k_o_1 hq73) d_Tokens_readRun_73 1 qw_488 qw_489 qw_490 qw_4 qw_491 k_o_1 (by decide) rfl hd_Row_at rfl rfl (Nat.le_of_ble_eq_true rfl) ⟨rfl, rfl, Nat.le_of_ble_eq_true rfl, Nat.le_of_ble_eq_true rfl⟩ ⟨Nat.zero_le _, Nat.zero_le _⟩ ?_
    refine gw_istore_n C [(2, .int q73), (0, .ref (ly_a L o)), (1, .int v1)] d_Tokens_readRun_76 rfl (by decide) rfl ?_
    refine gw_iload_n C 0 d_Tokens_readRun_77 rfl rfl ?_
    obtain ⟨q78, hq78, hf1⟩ := mx_bd hf1
    refine gw_callIS C (c_Tokens_isDigit _ hg hq78) d_Tokens_readRun_78 1 qw_496 qw_497 qw_3 qw_498 hd_Tokens_isDigit rfl rfl (Nat.le_of_ble_eq_true rfl) ⟨rfl, rfl, Nat.le_of_ble_eq_true rfl, Nat.le_of_ble_eq_true rfl⟩ ⟨Nat.zero_le _, Nat.zero_le _⟩ ?_
    refine gw_if_eq C 106 d_Tokens_readRun_81 (by decide) (fun hc => ?_) (fun hc => ?_)
    · replace hf1 := mx_t hc hf1
      refine gw_aload_n C 1 d_Tokens_readRun_106 rfl rfl ?_
      refine gw_aload_n C 1 d_Tokens_readRun_107 rfl rfl ?_
      refine gw_getL C 7 d_Tokens_readRun_108 k_o_0 (by decide) i_Tokens rfl rfl (by decide) qw_66 rfl rfl ?_
      refine gw_ldc2_w C d_Tokens_readRun_111 qw_502 ?_
      refine gw_lmul C d_Tokens_readRun_114 ?_
      refine gw_iload_n C 0 d_Tokens_readRun_115 rfl rfl ?_
      refine gw_i2l C d_Tokens_readRun_116 ?_
      refine gw_ladd C d_Tokens_readRun_117 ?_
      obtain ⟨m118, em118, hf1⟩ := mx_lt hf1
      refine gw_putL t_Tokens C 7 d_Tokens_readRun_118 k_o_0 (by decide) i_Tokens rfl rfl (by decide) qw_66 rfl rfl t_Tokens_ok n_Tokens rfl (t_Tokens_ok 7 (by decide)) rfl rfl em118 ?_
      refine gw_aload_n C 1 d_Tokens_readRun_121 rfl rfl ?_
      refine gw_dup C d_Tokens_readRun_122 rfl ?_
      refine gw_getI C 3 d_Tokens_readRun_123 k_o_0 (by decide) i_Tokens rfl rfl (by decide) qw_59 rfl rfl ?_
      refine gw_iconst C (1 : Int32) d_Tokens_readRun_126 (by decide) ?_
      refine gw_iadd C d_Tokens_readRun_127 ?_
      obtain ⟨m128, em128, hf1⟩ := mx_lt hf1
      refine gw_putI t_Tokens C 3 d_Tokens_readRun_128 k_o_0 (by decide) i_Tokens rfl rfl (by decide) qw_59 rfl rfl t_Tokens_ok n_Tokens rfl (t_Tokens_ok 3 (by decide)) rfl rfl em128 ?_
      refine gw_goto C 20 d_Tokens_readRun_131 (by decide) ?_
      exact gw_go [1, 2] (ih20 (v1, m128) (hb20.trans hf1.symm)) rfl
    · replace hf1 := mx_f hc hf1
      refine gw_aload_n C 1 d_Tokens_readRun_84 rfl rfl ?_
      refine gw_aload_n C 1 d_Tokens_readRun_85 rfl rfl ?_
      refine gw_getI C 6 d_Tokens_readRun_86 k_o_0 (by decide) i_Tokens rfl rfl (by decide) qw_64 rfl rfl ?_
      refine gw_bipush C (10 : Int32) d_Tokens_readRun_89 (by decide) ?_
      refine gw_imul C d_Tokens_readRun_91 ?_
      refine gw_iload_n C 0 d_Tokens_readRun_92 rfl rfl ?_
      refine gw_bipush C (48 : Int32) d_Tokens_readRun_93 (by decide) ?_
      refine gw_isub C d_Tokens_readRun_95 ?_
      refine gw_iadd C d_Tokens_readRun_96 ?_
      obtain ⟨m97, em97, hf1⟩ := mx_lt hf1
      refine gw_putI t_Tokens C 6 d_Tokens_readRun_97 k_o_0 (by decide) i_Tokens rfl rfl (by decide) qw_64 rfl rfl t_Tokens_ok n_Tokens rfl (t_Tokens_ok 6 (by decide)) rfl rfl em97 ?_
      obtain ⟨x100, ex100, hf1⟩ := mx_lt hf1
      refine gw_iinc C 2 [(1, .int x100), (2, .int q73), (0, .ref (ly_a L o))] d_Tokens_readRun_100 rfl (by rw [ex100]; rfl) (by decide) rfl ?_
      refine gw_goto C 121 d_Tokens_readRun_103 (by decide) ?_
      refine gw_aload_n C 2 d_Tokens_readRun_121 rfl rfl ?_
      refine gw_dup C d_Tokens_readRun_122 rfl ?_
      refine gw_getI C 3 d_Tokens_readRun_123 k_o_0 (by decide) i_Tokens rfl rfl (by decide) qw_59 rfl rfl ?_
      refine gw_iconst C (1 : Int32) d_Tokens_readRun_126 (by decide) ?_
      refine gw_iadd C d_Tokens_readRun_127 ?_
      obtain ⟨m128, em128, hf1⟩ := mx_lt hf1
      refine gw_putI t_Tokens C 3 d_Tokens_readRun_128 k_o_0 (by decide) i_Tokens rfl rfl (by decide) qw_59 rfl rfl t_Tokens_ok n_Tokens rfl (t_Tokens_ok 3 (by decide)) rfl rfl em128 ?_
      refine gw_goto C 20 d_Tokens_readRun_131 (by decide) ?_
      exact gw_go [2, 0] (ih20 (x100, m128) (hb20.trans hf1.symm)) rfl
  have hf1 := hb20
  unfold f_Tokens_readRun_L20 at hf1
  refine gw_aload_n C 0 d_Tokens_readRun_20 rfl rfl ?_
  refine gw_getI C 3 d_Tokens_readRun_21 k_o_0 (by decide) i_Tokens rfl rfl (by decide) qw_59 rfl rfl ?_
  refine gw_aload_n C 0 d_Tokens_readRun_24 rfl rfl ?_
  refine gw_getI C 1 d_Tokens_readRun_25 k_o_0 (by decide) i_Tokens rfl rfl (by decide) qw_57 rfl rfl ?_
  refine gw_icmp_ge C 134 d_Tokens_readRun_28 (by decide) (fun hc => ?_) (fun hc => ?_)
  · replace hf1 := mx_t hc hf1
    exact gw_go [0, 1] (hk20 (s20.1, s20.2) (hx20 _ (hb20.trans hf1.symm)).symm) rfl
  · replace hf1 := mx_f hc hf1
    refine gw_aload_n C 0 d_Tokens_readRun_31 rfl rfl ?_
    refine gw_getA C 0 d_Tokens_readRun_32 k_o_0 (by decide) i_Tokens rfl rfl (by decide) qw_55 rfl rfl (o + 1) rfl ?_
    refine gw_aload_n C 0 d_Tokens_readRun_35 rfl rfl ?_
    refine gw_getI C 3 d_Tokens_readRun_36 k_o_0 (by decide) i_Tokens rfl rfl (by decide) qw_59 rfl rfl ?_
    obtain ⟨q39, hq39, hf1⟩ := mx_bd hf1
    refine gw_callI C (c_Row_at _ hg k_o_1 hq39) d_Tokens_readRun_39 1 qw_488 qw_489 qw_490 qw_4 qw_491 k_o_1 (by decide) rfl hd_Row_at rfl rfl (Nat.le_of_ble_eq_true rfl) ⟨rfl, rfl, Nat.le_of_ble_eq_true rfl, Nat.le_of_ble_eq_true rfl⟩ ⟨Nat.zero_le _, Nat.zero_le _⟩ ?_
    obtain ⟨q42, hq42, hf1⟩ := mx_bd hf1
    refine gw_callIS C (c_Tokens_isDigit _ hg hq42) d_Tokens_readRun_42 1 qw_496 qw_497 qw_3 qw_498 hd_Tokens_isDigit rfl rfl (Nat.le_of_ble_eq_true rfl) ⟨rfl, rfl, Nat.le_of_ble_eq_true rfl, Nat.le_of_ble_eq_true rfl⟩ ⟨Nat.zero_le _, Nat.zero_le _⟩ ?_
    refine gw_if_ne C 65 d_Tokens_readRun_45 (by decide) (fun hc => ?_) (fun hc => ?_)
    · replace hf1 := mx_f hc hf1
      exact gw_go [0, 1] (hj65 _ _ hf1) rfl
    · replace hf1 := mx_t hc hf1
      refine gw_aload_n C 0 d_Tokens_readRun_48 rfl rfl ?_
      refine gw_getA C 0 d_Tokens_readRun_49 k_o_0 (by decide) i_Tokens rfl rfl (by decide) qw_55 rfl rfl (o + 1) rfl ?_
      refine gw_aload_n C 0 d_Tokens_readRun_52 rfl rfl ?_
      refine gw_getI C 3 d_Tokens_readRun_53 k_o_0 (by decide) i_Tokens rfl rfl (by decide) qw_59 rfl rfl ?_
      obtain ⟨q56, hq56, hf1⟩ := mx_bd hf1
      refine gw_callI C (c_Row_at _ hg k_o_1 hq56) d_Tokens_readRun_56 1 qw_488 qw_489 qw_490 qw_4 qw_491 k_o_1 (by decide) rfl hd_Row_at rfl rfl (Nat.le_of_ble_eq_true rfl) ⟨rfl, rfl, Nat.le_of_ble_eq_true rfl, Nat.le_of_ble_eq_true rfl⟩ ⟨Nat.zero_le _, Nat.zero_le _⟩ ?_
      obtain ⟨q59, hq59, hf1⟩ := mx_bd hf1
      refine gw_callIS C (c_Tokens_isLetter _ hg hq59) d_Tokens_readRun_59 1 qw_499 qw_500 qw_3 qw_501 hd_Tokens_isLetter rfl rfl (Nat.le_of_ble_eq_true rfl) ⟨rfl, rfl, Nat.le_of_ble_eq_true rfl, Nat.le_of_ble_eq_true rfl⟩ ⟨Nat.zero_le _, Nat.zero_le _⟩ ?_
      refine gw_if_eq C 134 d_Tokens_readRun_62 (by decide) (fun hc => ?_) (fun hc => ?_)
      · replace hf1 := mx_t hc hf1
        exact gw_go [0, 1] (hk20 (s20.1, s20.2) (hx20 _ (hb20.trans hf1.symm)).symm) rfl
      · replace hf1 := mx_f hc hf1
        exact gw_go [0, 1] (hj65 _ _ hf1) rfl

/-! NameHat.Tokens.step()V -/
abbrev b_Tokens_step : ByteArray := prog_11_method_3_code
def y_Tokens_step : MethodName := ⟨"NameHat$Tokens", "step", "()V"⟩
abbrev rm_Tokens_step : Room := { frames := 12, cells := 0, slots := 0, locals := 447 }
theorem hd_Tokens_step : y_Tokens_step.cls ≠ "java/lang/invoke/MethodHandle" ∧ y_Tokens_step.cls ≠ "java/lang/invoke/VarHandle" ∧ (parseMethodDescriptor y_Tokens_step.desc).map (fun d => d.parameters.length) = some 0 := by decide +kernel
theorem d_Tokens_step_0 : decode b_Tokens_step 0 = .ok (.aload_n 0, 1) := by decide +kernel
theorem d_Tokens_step_1 : decode b_Tokens_step 1 = .ok (.getfield 20, 3) := by decide +kernel
theorem d_Tokens_step_4 : decode b_Tokens_step 4 = .ok (.aload_n 0, 1) := by decide +kernel
theorem d_Tokens_step_5 : decode b_Tokens_step 5 = .ok (.getfield 24, 3) := by decide +kernel
theorem d_Tokens_step_8 : decode b_Tokens_step 8 = .ok (.invokestatic 30, 3) := by decide +kernel
theorem d_Tokens_step_11 : decode b_Tokens_step 11 = .ok (.istore_n 1, 1) := by decide +kernel
theorem d_Tokens_step_12 : decode b_Tokens_step 12 = .ok (.aload_n 0, 1) := by decide +kernel
theorem d_Tokens_step_13 : decode b_Tokens_step 13 = .ok (.aload_n 0, 1) := by decide +kernel
theorem d_Tokens_step_14 : decode b_Tokens_step 14 = .ok (.getfield 27, 3) := by decide +kernel
theorem d_Tokens_step_17 : decode b_Tokens_step 17 = .ok (.putfield 36, 3) := by decide +kernel
theorem d_Tokens_step_20 : decode b_Tokens_step 20 = .ok (.aload_n 0, 1) := by decide +kernel
theorem d_Tokens_step_21 : decode b_Tokens_step 21 = .ok (.getfield 36, 3) := by decide +kernel
theorem d_Tokens_step_24 : decode b_Tokens_step 24 = .ok (.iload_n 1, 1) := by decide +kernel
theorem d_Tokens_step_25 : decode b_Tokens_step 25 = .ok (.if_icmp .ge 48, 3) := by decide +kernel
theorem d_Tokens_step_28 : decode b_Tokens_step 28 = .ok (.aload_n 0, 1) := by decide +kernel
theorem d_Tokens_step_29 : decode b_Tokens_step 29 = .ok (.getfield 14, 3) := by decide +kernel
theorem d_Tokens_step_32 : decode b_Tokens_step 32 = .ok (.aload_n 0, 1) := by decide +kernel
theorem d_Tokens_step_33 : decode b_Tokens_step 33 = .ok (.getfield 36, 3) := by decide +kernel
theorem d_Tokens_step_36 : decode b_Tokens_step 36 = .ok (.invokevirtual 39, 3) := by decide +kernel
theorem d_Tokens_step_39 : decode b_Tokens_step 39 = .ok (.bipush 32, 2) := by decide +kernel
theorem d_Tokens_step_41 : decode b_Tokens_step 41 = .ok (.if_icmp .eq 19, 3) := by decide +kernel
theorem d_Tokens_step_44 : decode b_Tokens_step 44 = .ok (.aload_n 0, 1) := by decide +kernel
theorem d_Tokens_step_45 : decode b_Tokens_step 45 = .ok (.getfield 14, 3) := by decide +kernel
theorem d_Tokens_step_48 : decode b_Tokens_step 48 = .ok (.aload_n 0, 1) := by decide +kernel
theorem d_Tokens_step_49 : decode b_Tokens_step 49 = .ok (.getfield 36, 3) := by decide +kernel
theorem d_Tokens_step_52 : decode b_Tokens_step 52 = .ok (.invokevirtual 39, 3) := by decide +kernel
theorem d_Tokens_step_55 : decode b_Tokens_step 55 = .ok (.bipush 10, 2) := by decide +kernel
theorem d_Tokens_step_57 : decode b_Tokens_step 57 = .ok (.if_icmp .ne 16, 3) := by decide +kernel
theorem d_Tokens_step_60 : decode b_Tokens_step 60 = .ok (.aload_n 0, 1) := by decide +kernel
theorem d_Tokens_step_61 : decode b_Tokens_step 61 = .ok (.dup, 1) := by decide +kernel
theorem d_Tokens_step_62 : decode b_Tokens_step 62 = .ok (.getfield 36, 3) := by decide +kernel
theorem d_Tokens_step_65 : decode b_Tokens_step 65 = .ok (.iconst 1, 1) := by decide +kernel
theorem d_Tokens_step_66 : decode b_Tokens_step 66 = .ok (.iadd, 1) := by decide +kernel
theorem d_Tokens_step_67 : decode b_Tokens_step 67 = .ok (.putfield 36, 3) := by decide +kernel
theorem d_Tokens_step_70 : decode b_Tokens_step 70 = .ok (.goto (-50), 3) := by decide +kernel
theorem d_Tokens_step_73 : decode b_Tokens_step 73 = .ok (.aload_n 0, 1) := by decide +kernel
theorem d_Tokens_step_74 : decode b_Tokens_step 74 = .ok (.iconst (-1), 1) := by decide +kernel
theorem d_Tokens_step_75 : decode b_Tokens_step 75 = .ok (.putfield 43, 3) := by decide +kernel
theorem d_Tokens_step_78 : decode b_Tokens_step 78 = .ok (.aload_n 0, 1) := by decide +kernel
theorem d_Tokens_step_79 : decode b_Tokens_step 79 = .ok (.getfield 36, 3) := by decide +kernel
theorem d_Tokens_step_82 : decode b_Tokens_step 82 = .ok (.iload_n 1, 1) := by decide +kernel
theorem d_Tokens_step_83 : decode b_Tokens_step 83 = .ok (.if_icmp .lt 29, 3) := by decide +kernel
theorem d_Tokens_step_86 : decode b_Tokens_step 86 = .ok (.aload_n 0, 1) := by decide +kernel
theorem d_Tokens_step_87 : decode b_Tokens_step 87 = .ok (.iload_n 1, 1) := by decide +kernel
theorem d_Tokens_step_88 : decode b_Tokens_step 88 = .ok (.putfield 36, 3) := by decide +kernel
theorem d_Tokens_step_91 : decode b_Tokens_step 91 = .ok (.aload_n 0, 1) := by decide +kernel
theorem d_Tokens_step_92 : decode b_Tokens_step 92 = .ok (.aload_n 0, 1) := by decide +kernel
theorem d_Tokens_step_93 : decode b_Tokens_step 93 = .ok (.getfield 20, 3) := by decide +kernel
theorem d_Tokens_step_96 : decode b_Tokens_step 96 = .ok (.aload_n 0, 1) := by decide +kernel
theorem d_Tokens_step_97 : decode b_Tokens_step 97 = .ok (.getfield 24, 3) := by decide +kernel
theorem d_Tokens_step_100 : decode b_Tokens_step 100 = .ok (.if_icmp .le 7, 3) := by decide +kernel
theorem d_Tokens_step_103 : decode b_Tokens_step 103 = .ok (.iconst 4, 1) := by decide +kernel
theorem d_Tokens_step_104 : decode b_Tokens_step 104 = .ok (.goto 4, 3) := by decide +kernel
theorem d_Tokens_step_107 : decode b_Tokens_step 107 = .ok (.iconst 0, 1) := by decide +kernel
theorem d_Tokens_step_108 : decode b_Tokens_step 108 = .ok (.putfield 46, 3) := by decide +kernel
theorem d_Tokens_step_111 : decode b_Tokens_step 111 = .ok (.return_, 1) := by decide +kernel
theorem d_Tokens_step_112 : decode b_Tokens_step 112 = .ok (.aload_n 0, 1) := by decide +kernel
theorem d_Tokens_step_113 : decode b_Tokens_step 113 = .ok (.invokevirtual 49, 3) := by decide +kernel
theorem d_Tokens_step_116 : decode b_Tokens_step 116 = .ok (.aload_n 0, 1) := by decide +kernel
theorem d_Tokens_step_117 : decode b_Tokens_step 117 = .ok (.getfield 27, 3) := by decide +kernel
theorem d_Tokens_step_120 : decode b_Tokens_step 120 = .ok (.aload_n 0, 1) := by decide +kernel
theorem d_Tokens_step_121 : decode b_Tokens_step 121 = .ok (.getfield 36, 3) := by decide +kernel
theorem d_Tokens_step_124 : decode b_Tokens_step 124 = .ok (.if_icmp .ne 38, 3) := by decide +kernel
theorem d_Tokens_step_127 : decode b_Tokens_step 127 = .ok (.aload_n 0, 1) := by decide +kernel
theorem d_Tokens_step_128 : decode b_Tokens_step 128 = .ok (.aload_n 0, 1) := by decide +kernel
theorem d_Tokens_step_129 : decode b_Tokens_step 129 = .ok (.getfield 14, 3) := by decide +kernel
theorem d_Tokens_step_132 : decode b_Tokens_step 132 = .ok (.aload_n 0, 1) := by decide +kernel
theorem d_Tokens_step_133 : decode b_Tokens_step 133 = .ok (.getfield 36, 3) := by decide +kernel
theorem d_Tokens_step_136 : decode b_Tokens_step 136 = .ok (.invokevirtual 39, 3) := by decide +kernel
theorem d_Tokens_step_139 : decode b_Tokens_step 139 = .ok (.bipush 59, 2) := by decide +kernel
theorem d_Tokens_step_141 : decode b_Tokens_step 141 = .ok (.if_icmp .ne 7, 3) := by decide +kernel
theorem d_Tokens_step_144 : decode b_Tokens_step 144 = .ok (.iconst 3, 1) := by decide +kernel
theorem d_Tokens_step_145 : decode b_Tokens_step 145 = .ok (.goto 4, 3) := by decide +kernel
theorem d_Tokens_step_148 : decode b_Tokens_step 148 = .ok (.iconst 4, 1) := by decide +kernel
theorem d_Tokens_step_149 : decode b_Tokens_step 149 = .ok (.putfield 46, 3) := by decide +kernel
theorem d_Tokens_step_152 : decode b_Tokens_step 152 = .ok (.aload_n 0, 1) := by decide +kernel
theorem d_Tokens_step_153 : decode b_Tokens_step 153 = .ok (.aload_n 0, 1) := by decide +kernel
theorem d_Tokens_step_154 : decode b_Tokens_step 154 = .ok (.getfield 36, 3) := by decide +kernel
theorem d_Tokens_step_157 : decode b_Tokens_step 157 = .ok (.iconst 1, 1) := by decide +kernel
theorem d_Tokens_step_158 : decode b_Tokens_step 158 = .ok (.iadd, 1) := by decide +kernel
theorem d_Tokens_step_159 : decode b_Tokens_step 159 = .ok (.putfield 27, 3) := by decide +kernel
theorem d_Tokens_step_162 : decode b_Tokens_step 162 = .ok (.return_, 1) := by decide +kernel
noncomputable def f_Tokens_step_J73 (z : Nat → Nat) (o : Nat) (v1 : Int32) (m73 : Mm) : Option (Mm) :=
  mm_lt (kI m73 o 8 ((-1) : Int32)) fun m75 =>
  if (m75.1 o 5) < v1 then (
    (f_Tokens_readRun z m75 o).bind fun q113 =>
    if (q113.1 o 3) = (q113.1 o 5) then (
      (f_Row_at z q113 (o + 1) (q113.1 o 5)).bind fun q136 =>
      if q136 = (59 : Int32) then (
        mm_lt (kI q113 o 4 (3 : Int32)) fun m149 =>
        mm_lt (kI m149 o 3 ((m149.1 o 5) + (1 : Int32))) fun m159 =>
        some m159
      ) else (
        mm_lt (kI q113 o 4 (4 : Int32)) fun m149 =>
        mm_lt (kI m149 o 3 ((m149.1 o 5) + (1 : Int32))) fun m159 =>
        some m159
      )
    ) else (
      some q113
    )
  ) else (
    mm_lt (kI m75 o 5 v1) fun m88 =>
    if (m88.1 o 1) ≤ (m88.1 o 2) then (
      mm_lt (kI m88 o 4 (0 : Int32)) fun m108 =>
      some m108
    ) else (
      mm_lt (kI m88 o 4 (4 : Int32)) fun m108 =>
      some m108
    )
  )
noncomputable def f_Tokens_step_L20 (z : Nat → Nat) (o : Nat) (v1 : Int32) (s20 : Mm) : Option ((Mm) ⊕ (Mm)) :=
  if v1 ≤ (s20.1 o 5) then (
    some (.inr s20)
  ) else (
    (f_Row_at z s20 (o + 1) (s20.1 o 5)).bind fun q36 =>
    if q36 = (32 : Int32) then (
      mm_lt (kI s20 o 5 ((s20.1 o 5) + (1 : Int32))) fun m67 =>
      some (.inl m67)
    ) else (
      (f_Row_at z s20 (o + 1) (s20.1 o 5)).bind fun q52 =>
      if q52 = (10 : Int32) then (
        mm_lt (kI s20 o 5 ((s20.1 o 5) + (1 : Int32))) fun m67 =>
        some (.inl m67)
      ) else (
        some (.inr s20)
      )
    )
  )
noncomputable def f_Tokens_step (z : Nat → Nat) (σ : Mm) (o : Nat) : Option (Mm) :=
  mm_lt ((if (σ.1 o 2) < (σ.1 o 1) then (σ.1 o 2) else (σ.1 o 1))) fun x11 =>
  mm_lt (kI σ o 5 (σ.1 o 3)) fun m17 =>
  (mm_lp (f_Tokens_step_L20 z o x11) m17).bind (fun q20 =>
    f_Tokens_step_J73 z o x11 q20)
set_option maxHeartbeats 4000000 in
set_option maxRecDepth 100000 in
theorem c_Tokens_step (l : Launch) {L : Ly} (hg : gd_ok L) {σ : Mm} {o : Nat} (k_o_0 : ly_k L o = 8) {res : Mm} (hf0 : f_Tokens_step (ly_z L) σ o = some res) : CtV l y_Tokens_step b_Tokens_step 2 (none) rm_Tokens_step L [.ref (ly_a L o)] σ res := by
  refine ct_v hg (by decide) (Nat.le_of_ble_eq_true rfl) ?_
  intro E A Q hE C hN
  subst hE
  have k_o_1 : ly_k L (o + 1) = 0 := gd_Tokens_tape hg k_o_0
  unfold f_Tokens_step at hf0
  show GW E L A 2 0 0 Q σ 0 [(0, .ref (ly_a L o))] []
  have hj73 : ∀ (v1 : Int32) (m73 : Mm), f_Tokens_step_J73 (ly_z L) o v1 m73 = some res → GW E L A 2 0 0 Q m73 73 [(0, .ref (ly_a L o)), (1, .int v1)] [] := by
    intro v1 m73 hf0
    unfold f_Tokens_step_J73 at hf0
    refine gw_aload_n C 0 d_Tokens_step_73 rfl rfl ?_
    refine gw_iconst C ((-1) : Int32) d_Tokens_step_74 (by decide) ?_
    obtain ⟨m75, em75, hf0⟩ := mx_lt hf0
    refine gw_putI t_Tokens C 8 d_Tokens_step_75 k_o_0 (by decide) i_Tokens rfl rfl (by decide) qw_68 rfl rfl t_Tokens_ok n_Tokens rfl (t_Tokens_ok 8 (by decide)) rfl rfl em75 ?_
    refine gw_aload_n C 0 d_Tokens_step_78 rfl rfl ?_
    refine gw_getI C 5 d_Tokens_step_79 k_o_0 (by decide) i_Tokens rfl rfl (by decide) qw_63 rfl rfl ?_
    refine gw_iload_n C 1 d_Tokens_step_82 rfl rfl ?_
    refine gw_icmp_lt C 112 d_Tokens_step_83 (by decide) (fun hc => ?_) (fun hc => ?_)
    · replace hf0 := mx_t hc hf0
      refine gw_aload_n C 0 d_Tokens_step_112 rfl rfl ?_
      obtain ⟨q113, hq113, hf0⟩ := mx_bd hf0
      refine gw_callV C (c_Tokens_readRun _ hg k_o_0 hq113) d_Tokens_step_113 0 qw_492 qw_494 qs_1 qw_3 qw_495 k_o_0 (by decide) rfl hd_Tokens_readRun rfl rfl (Nat.le_of_ble_eq_true rfl) ⟨rfl, rfl, Nat.le_of_ble_eq_true rfl, Nat.le_of_ble_eq_true rfl⟩ ⟨Nat.zero_le _, Nat.zero_le _⟩ ?_
      refine gw_aload_n C 0 d_Tokens_step_116 rfl rfl ?_
      refine gw_getI C 3 d_Tokens_step_117 k_o_0 (by decide) i_Tokens rfl rfl (by decide) qw_59 rfl rfl ?_
      refine gw_aload_n C 0 d_Tokens_step_120 rfl rfl ?_
      refine gw_getI C 5 d_Tokens_step_121 k_o_0 (by decide) i_Tokens rfl rfl (by decide) qw_63 rfl rfl ?_
      refine gw_icmp_ne C 162 d_Tokens_step_124 (by decide) (fun hc => ?_) (fun hc => ?_)
      · replace hf0 := mx_f hc hf0
        exact en_v hN hf0 d_Tokens_step_162
      · replace hf0 := mx_t hc hf0
        refine gw_aload_n C 0 d_Tokens_step_127 rfl rfl ?_
        refine gw_aload_n C 0 d_Tokens_step_128 rfl rfl ?_
        refine gw_getA C 0 d_Tokens_step_129 k_o_0 (by decide) i_Tokens rfl rfl (by decide) qw_55 rfl rfl (o + 1) rfl ?_
        refine gw_aload_n C 0 d_Tokens_step_132 rfl rfl ?_
        refine gw_getI C 5 d_Tokens_step_133 k_o_0 (by decide) i_Tokens rfl rfl (by decide) qw_63 rfl rfl ?_
        obtain ⟨q136, hq136, hf0⟩ := mx_bd hf0
        refine gw_callI C (c_Row_at _ hg k_o_1 hq136) d_Tokens_step_136 1 qw_488 qw_489 qw_490 qw_4 qw_491 k_o_1 (by decide) rfl hd_Row_at rfl rfl (Nat.le_of_ble_eq_true rfl) ⟨rfl, rfl, Nat.le_of_ble_eq_true rfl, Nat.le_of_ble_eq_true rfl⟩ ⟨Nat.zero_le _, Nat.zero_le _⟩ ?_
        refine gw_bipush C (59 : Int32) d_Tokens_step_139 (by decide) ?_
        refine gw_icmp_ne C 148 d_Tokens_step_141 (by decide) (fun hc => ?_) (fun hc => ?_)
        · replace hf0 := mx_f hc hf0
          refine gw_iconst C (4 : Int32) d_Tokens_step_148 (by decide) ?_
          obtain ⟨m149, em149, hf0⟩ := mx_lt hf0
          refine gw_putI t_Tokens C 4 d_Tokens_step_149 k_o_0 (by decide) i_Tokens rfl rfl (by decide) qw_61 rfl rfl t_Tokens_ok n_Tokens rfl (t_Tokens_ok 4 (by decide)) rfl rfl em149 ?_
          refine gw_aload_n C 0 d_Tokens_step_152 rfl rfl ?_
          refine gw_aload_n C 0 d_Tokens_step_153 rfl rfl ?_
          refine gw_getI C 5 d_Tokens_step_154 k_o_0 (by decide) i_Tokens rfl rfl (by decide) qw_63 rfl rfl ?_
          refine gw_iconst C (1 : Int32) d_Tokens_step_157 (by decide) ?_
          refine gw_iadd C d_Tokens_step_158 ?_
          obtain ⟨m159, em159, hf0⟩ := mx_lt hf0
          refine gw_putI t_Tokens C 3 d_Tokens_step_159 k_o_0 (by decide) i_Tokens rfl rfl (by decide) qw_59 rfl rfl t_Tokens_ok n_Tokens rfl (t_Tokens_ok 3 (by decide)) rfl rfl em159 ?_
          exact en_v hN hf0 d_Tokens_step_162
        · replace hf0 := mx_t hc hf0
          refine gw_iconst C (3 : Int32) d_Tokens_step_144 (by decide) ?_
          refine gw_goto C 149 d_Tokens_step_145 (by decide) ?_
          obtain ⟨m149, em149, hf0⟩ := mx_lt hf0
          refine gw_putI t_Tokens C 4 d_Tokens_step_149 k_o_0 (by decide) i_Tokens rfl rfl (by decide) qw_61 rfl rfl t_Tokens_ok n_Tokens rfl (t_Tokens_ok 4 (by decide)) rfl rfl em149 ?_
          refine gw_aload_n C 0 d_Tokens_step_152 rfl rfl ?_
          refine gw_aload_n C 0 d_Tokens_step_153 rfl rfl ?_
          refine gw_getI C 5 d_Tokens_step_154 k_o_0 (by decide) i_Tokens rfl rfl (by decide) qw_63 rfl rfl ?_
          refine gw_iconst C (1 : Int32) d_Tokens_step_157 (by decide) ?_
          refine gw_iadd C d_Tokens_step_158 ?_
          obtain ⟨m159, em159, hf0⟩ := mx_lt hf0
          refine gw_putI t_Tokens C 3 d_Tokens_step_159 k_o_0 (by decide) i_Tokens rfl rfl (by decide) qw_59 rfl rfl t_Tokens_ok n_Tokens rfl (t_Tokens_ok 3 (by decide)) rfl rfl em159 ?_
          exact en_v hN hf0 d_Tokens_step_162
    · replace hf0 := mx_f hc hf0
      refine gw_aload_n C 0 d_Tokens_step_86 rfl rfl ?_
      refine gw_iload_n C 1 d_Tokens_step_87 rfl rfl ?_
      obtain ⟨m88, em88, hf0⟩ := mx_lt hf0
      refine gw_putI t_Tokens C 5 d_Tokens_step_88 k_o_0 (by decide) i_Tokens rfl rfl (by decide) qw_63 rfl rfl t_Tokens_ok n_Tokens rfl (t_Tokens_ok 5 (by decide)) rfl rfl em88 ?_
      refine gw_aload_n C 0 d_Tokens_step_91 rfl rfl ?_
      refine gw_aload_n C 0 d_Tokens_step_92 rfl rfl ?_
      refine gw_getI C 1 d_Tokens_step_93 k_o_0 (by decide) i_Tokens rfl rfl (by decide) qw_57 rfl rfl ?_
      refine gw_aload_n C 0 d_Tokens_step_96 rfl rfl ?_
      refine gw_getI C 2 d_Tokens_step_97 k_o_0 (by decide) i_Tokens rfl rfl (by decide) qw_58 rfl rfl ?_
      refine gw_icmp_le C 107 d_Tokens_step_100 (by decide) (fun hc => ?_) (fun hc => ?_)
      · replace hf0 := mx_t hc hf0
        refine gw_iconst C (0 : Int32) d_Tokens_step_107 (by decide) ?_
        obtain ⟨m108, em108, hf0⟩ := mx_lt hf0
        refine gw_putI t_Tokens C 4 d_Tokens_step_108 k_o_0 (by decide) i_Tokens rfl rfl (by decide) qw_61 rfl rfl t_Tokens_ok n_Tokens rfl (t_Tokens_ok 4 (by decide)) rfl rfl em108 ?_
        exact en_v hN hf0 d_Tokens_step_111
      · replace hf0 := mx_f hc hf0
        refine gw_iconst C (4 : Int32) d_Tokens_step_103 (by decide) ?_
        refine gw_goto C 108 d_Tokens_step_104 (by decide) ?_
        obtain ⟨m108, em108, hf0⟩ := mx_lt hf0
        refine gw_putI t_Tokens C 4 d_Tokens_step_108 k_o_0 (by decide) i_Tokens rfl rfl (by decide) qw_61 rfl rfl t_Tokens_ok n_Tokens rfl (t_Tokens_ok 4 (by decide)) rfl rfl em108 ?_
        exact en_v hN hf0 d_Tokens_step_111
  refine gw_aload_n C 0 d_Tokens_step_0 rfl rfl ?_
  refine gw_getI C 1 d_Tokens_step_1 k_o_0 (by decide) i_Tokens rfl rfl (by decide) qw_57 rfl rfl ?_
  refine gw_aload_n C 0 d_Tokens_step_4 rfl rfl ?_
  refine gw_getI C 2 d_Tokens_step_5 k_o_0 (by decide) i_Tokens rfl rfl (by decide) qw_58 rfl rfl ?_
  refine gw_mmin C d_Tokens_step_8 qw_485 qw_486 qw_13 qw_487 (Nat.le_of_ble_eq_true rfl) ⟨Nat.le_of_ble_eq_true rfl, Nat.le_of_ble_eq_true rfl⟩ ⟨Nat.zero_le _, Nat.zero_le _⟩ ?_
  obtain ⟨x11, ex11, hf0⟩ := mx_lt hf0
  refine gw_topi ex11 ?_
  refine gw_istore_n C [(1, .int x11), (0, .ref (ly_a L o))] d_Tokens_step_11 rfl (by decide) rfl ?_
  refine gw_aload_n C 1 d_Tokens_step_12 rfl rfl ?_
  refine gw_aload_n C 1 d_Tokens_step_13 rfl rfl ?_
  refine gw_getI C 3 d_Tokens_step_14 k_o_0 (by decide) i_Tokens rfl rfl (by decide) qw_59 rfl rfl ?_
  obtain ⟨m17, em17, hf0⟩ := mx_lt hf0
  refine gw_putI t_Tokens C 5 d_Tokens_step_17 k_o_0 (by decide) i_Tokens rfl rfl (by decide) qw_63 rfl rfl t_Tokens_ok n_Tokens rfl (t_Tokens_ok 5 (by decide)) rfl rfl em17 ?_
  obtain ⟨q20, hq20, hf0⟩ := mx_bd hf0
  have hk20 : ∀ x9, q20 = x9 → GW E L A 2 0 0 Q x9 73 [(0, .ref (ly_a L o)), (1, .int x11)] [] := by
    intro x9 hx9
    subst hx9
    exact gw_go [0, 1] (hj73 _ _ hf0) rfl
  refine gw_sub [1, 0] (lv' := [(0, .ref (ly_a L o)), (1, .int x11)]) rfl ?_
  refine mm_rule hq20 (P := fun (s20 : Mm) => GW E L A 2 0 0 Q s20 20 [(0, .ref (ly_a L o)), (1, .int x11)] []) ?_
  intro s20 ih20 hx20 ⟨w20, hb20⟩
  have hf1 := hb20
  unfold f_Tokens_step_L20 at hf1
  refine gw_aload_n C 0 d_Tokens_step_20 rfl rfl ?_
  refine gw_getI C 5 d_Tokens_step_21 k_o_0 (by decide) i_Tokens rfl rfl (by decide) qw_63 rfl rfl ?_
  refine gw_iload_n C 1 d_Tokens_step_24 rfl rfl ?_
  refine gw_icmp_ge C 73 d_Tokens_step_25 (by decide) (fun hc => ?_) (fun hc => ?_)
  · replace hf1 := mx_t hc hf1
    exact gw_go [0, 1] (hk20 s20 (hx20 _ (hb20.trans hf1.symm)).symm) rfl
  · replace hf1 := mx_f hc hf1
    refine gw_aload_n C 0 d_Tokens_step_28 rfl rfl ?_
    refine gw_getA C 0 d_Tokens_step_29 k_o_0 (by decide) i_Tokens rfl rfl (by decide) qw_55 rfl rfl (o + 1) rfl ?_
    refine gw_aload_n C 0 d_Tokens_step_32 rfl rfl ?_
    refine gw_getI C 5 d_Tokens_step_33 k_o_0 (by decide) i_Tokens rfl rfl (by decide) qw_63 rfl rfl ?_
    obtain ⟨q36, hq36, hf1⟩ := mx_bd hf1
    refine gw_callI C (c_Row_at _ hg k_o_1 hq36) d_Tokens_step_36 1 qw_488 qw_489 qw_490 qw_4 qw_491 k_o_1 (by decide) rfl hd_Row_at rfl rfl (Nat.le_of_ble_eq_true rfl) ⟨rfl, rfl, Nat.le_of_ble_eq_true rfl, Nat.le_of_ble_eq_true rfl⟩ ⟨Nat.zero_le _, Nat.zero_le _⟩ ?_
    refine gw_bipush C (32 : Int32) d_Tokens_step_39 (by decide) ?_
    refine gw_icmp_eq C 60 d_Tokens_step_41 (by decide) (fun hc => ?_) (fun hc => ?_)
    · replace hf1 := mx_t hc hf1
      refine gw_aload_n C 0 d_Tokens_step_60 rfl rfl ?_
      refine gw_dup C d_Tokens_step_61 rfl ?_
      refine gw_getI C 5 d_Tokens_step_62 k_o_0 (by decide) i_Tokens rfl rfl (by decide) qw_63 rfl rfl ?_
      refine gw_iconst C (1 : Int32) d_Tokens_step_65 (by decide) ?_
      refine gw_iadd C d_Tokens_step_66 ?_
      obtain ⟨m67, em67, hf1⟩ := mx_lt hf1
      refine gw_putI t_Tokens C 5 d_Tokens_step_67 k_o_0 (by decide) i_Tokens rfl rfl (by decide) qw_63 rfl rfl t_Tokens_ok n_Tokens rfl (t_Tokens_ok 5 (by decide)) rfl rfl em67 ?_
      refine gw_goto C 20 d_Tokens_step_70 (by decide) ?_
      exact gw_go [0, 1] (ih20 m67 (hb20.trans hf1.symm)) rfl
    · replace hf1 := mx_f hc hf1
      refine gw_aload_n C 0 d_Tokens_step_44 rfl rfl ?_
      refine gw_getA C 0 d_Tokens_step_45 k_o_0 (by decide) i_Tokens rfl rfl (by decide) qw_55 rfl rfl (o + 1) rfl ?_
      refine gw_aload_n C 0 d_Tokens_step_48 rfl rfl ?_
      refine gw_getI C 5 d_Tokens_step_49 k_o_0 (by decide) i_Tokens rfl rfl (by decide) qw_63 rfl rfl ?_
      obtain ⟨q52, hq52, hf1⟩ := mx_bd hf1
      refine gw_callI C (c_Row_at _ hg k_o_1 hq52) d_Tokens_step_52 1 qw_488 qw_489 qw_490 qw_4 qw_491 k_o_1 (by decide) rfl hd_Row_at rfl rfl (Nat.le_of_ble_eq_true rfl) ⟨rfl, rfl, Nat.le_of_ble_eq_true rfl, Nat.le_of_ble_eq_true rfl⟩ ⟨Nat.zero_le _, Nat.zero_le _⟩ ?_
      refine gw_bipush C (10 : Int32) d_Tokens_step_55 (by decide) ?_
      refine gw_icmp_ne C 73 d_Tokens_step_57 (by decide) (fun hc => ?_) (fun hc => ?_)
      · replace hf1 := mx_f hc hf1
        exact gw_go [0, 1] (hk20 s20 (hx20 _ (hb20.trans hf1.symm)).symm) rfl
      · replace hf1 := mx_t hc hf1
        refine gw_aload_n C 0 d_Tokens_step_60 rfl rfl ?_
        refine gw_dup C d_Tokens_step_61 rfl ?_
        refine gw_getI C 5 d_Tokens_step_62 k_o_0 (by decide) i_Tokens rfl rfl (by decide) qw_63 rfl rfl ?_
        refine gw_iconst C (1 : Int32) d_Tokens_step_65 (by decide) ?_
        refine gw_iadd C d_Tokens_step_66 ?_
        obtain ⟨m67, em67, hf1⟩ := mx_lt hf1
        refine gw_putI t_Tokens C 5 d_Tokens_step_67 k_o_0 (by decide) i_Tokens rfl rfl (by decide) qw_63 rfl rfl t_Tokens_ok n_Tokens rfl (t_Tokens_ok 5 (by decide)) rfl rfl em67 ?_
        refine gw_goto C 20 d_Tokens_step_70 (by decide) ?_
        exact gw_go [0, 1] (ih20 m67 (hb20.trans hf1.symm)) rfl

/-! NameHat.Names.isFull()Z -/
abbrev b_Names_isFull : ByteArray := prog_5_method_3_code
def y_Names_isFull : MethodName := ⟨"NameHat$Names", "isFull", "()Z"⟩
abbrev rm_Names_isFull : Room := { frames := 0, cells := 0, slots := 0, locals := 0 }
theorem hd_Names_isFull : y_Names_isFull.cls ≠ "java/lang/invoke/MethodHandle" ∧ y_Names_isFull.cls ≠ "java/lang/invoke/VarHandle" ∧ (parseMethodDescriptor y_Names_isFull.desc).map (fun d => d.parameters.length) = some 0 := by decide +kernel
theorem d_Names_isFull_0 : decode b_Names_isFull 0 = .ok (.aload_n 0, 1) := by decide +kernel
theorem d_Names_isFull_1 : decode b_Names_isFull 1 = .ok (.getfield 15, 3) := by decide +kernel
theorem d_Names_isFull_4 : decode b_Names_isFull 4 = .ok (.aload_n 0, 1) := by decide +kernel
theorem d_Names_isFull_5 : decode b_Names_isFull 5 = .ok (.getfield 9, 3) := by decide +kernel
theorem d_Names_isFull_8 : decode b_Names_isFull 8 = .ok (.arraylength, 1) := by decide +kernel
theorem d_Names_isFull_9 : decode b_Names_isFull 9 = .ok (.if_icmp .lt 7, 3) := by decide +kernel
theorem d_Names_isFull_12 : decode b_Names_isFull 12 = .ok (.iconst 1, 1) := by decide +kernel
theorem d_Names_isFull_13 : decode b_Names_isFull 13 = .ok (.goto 4, 3) := by decide +kernel
theorem d_Names_isFull_16 : decode b_Names_isFull 16 = .ok (.iconst 0, 1) := by decide +kernel
theorem d_Names_isFull_17 : decode b_Names_isFull 17 = .ok (.ireturn, 1) := by decide +kernel
noncomputable def f_Names_isFull (z : Nat → Nat) (σ : Mm) (o : Nat) : Option (Int32) :=
  if (σ.1 o 1) < (nI (z (o + 1))) then (
    some (0 : Int32)
  ) else (
    some (1 : Int32)
  )
set_option maxHeartbeats 4000000 in
set_option maxRecDepth 100000 in
theorem c_Names_isFull (l : Launch) {L : Ly} (hg : gd_ok L) {σ : Mm} {o : Nat} (k_o_0 : ly_k L o = 1) {res : Int32} (hf0 : f_Names_isFull (ly_z L) σ o = some res) : CtI l y_Names_isFull b_Names_isFull 1 (some .boolean) rm_Names_isFull L [.ref (ly_a L o)] σ res σ := by
  refine ct_z hg (by decide) (Nat.le_of_ble_eq_true rfl) ?_
  intro E A Q hE C hN
  subst hE
  have k_o_1 : ly_k L (o + 1) = 21 := gd_Names_letters hg k_o_0
  unfold f_Names_isFull at hf0
  show GW E L A 1 0 0 Q σ 0 [(0, .ref (ly_a L o))] []
  refine gw_aload_n C 0 d_Names_isFull_0 rfl rfl ?_
  refine gw_getI C 1 d_Names_isFull_1 k_o_0 (by decide) i_Names rfl rfl (by decide) qw_109 rfl rfl ?_
  refine gw_aload_n C 0 d_Names_isFull_4 rfl rfl ?_
  refine gw_getA C 0 d_Names_isFull_5 k_o_0 (by decide) i_Names rfl rfl (by decide) qw_107 rfl rfl (o + 1) rfl ?_
  refine gw_alen21 C d_Names_isFull_8 k_o_1 ?_
  refine gw_icmp_lt C 16 d_Names_isFull_9 (by decide) (fun hc => ?_) (fun hc => ?_)
  · replace hf0 := mx_t hc hf0
    refine gw_iconst C (0 : Int32) d_Names_isFull_16 (by decide) ?_
    exact en_zp hN (Or.inl rfl) hf0 d_Names_isFull_17
  · replace hf0 := mx_f hc hf0
    refine gw_iconst C (1 : Int32) d_Names_isFull_12 (by decide) ?_
    refine gw_goto C 17 d_Names_isFull_13 (by decide) ?_
    exact en_zp hN (Or.inr rfl) hf0 d_Names_isFull_17

/-! NameHat.Reader.fail(I)Z -/
abbrev b_Reader_fail : ByteArray := prog_6_method_3_code
def y_Reader_fail : MethodName := ⟨"NameHat$Reader", "fail", "(I)Z"⟩
abbrev rm_Reader_fail : Room := { frames := 0, cells := 0, slots := 0, locals := 0 }
theorem hd_Reader_fail : y_Reader_fail.cls ≠ "java/lang/invoke/MethodHandle" ∧ y_Reader_fail.cls ≠ "java/lang/invoke/VarHandle" ∧ (parseMethodDescriptor y_Reader_fail.desc).map (fun d => d.parameters.length) = some 1 := by decide +kernel
theorem d_Reader_fail_0 : decode b_Reader_fail 0 = .ok (.aload_n 0, 1) := by decide +kernel
theorem d_Reader_fail_1 : decode b_Reader_fail 1 = .ok (.iload_n 1, 1) := by decide +kernel
theorem d_Reader_fail_2 : decode b_Reader_fail 2 = .ok (.putfield 33, 3) := by decide +kernel
theorem d_Reader_fail_5 : decode b_Reader_fail 5 = .ok (.aload_n 0, 1) := by decide +kernel
theorem d_Reader_fail_6 : decode b_Reader_fail 6 = .ok (.aload_n 0, 1) := by decide +kernel
theorem d_Reader_fail_7 : decode b_Reader_fail 7 = .ok (.getfield 12, 3) := by decide +kernel
theorem d_Reader_fail_10 : decode b_Reader_fail 10 = .ok (.getfield 65, 3) := by decide +kernel
theorem d_Reader_fail_13 : decode b_Reader_fail 13 = .ok (.putfield 68, 3) := by decide +kernel
theorem d_Reader_fail_16 : decode b_Reader_fail 16 = .ok (.iconst 0, 1) := by decide +kernel
theorem d_Reader_fail_17 : decode b_Reader_fail 17 = .ok (.ireturn, 1) := by decide +kernel
noncomputable def f_Reader_fail (z : Nat → Nat) (σ : Mm) (o : Nat) (p1 : Int32) : Option (Int32 × Mm) :=
  mm_lt (kI σ o 3 p1) fun m2 =>
  mm_lt (kI m2 o 4 (m2.1 (o + 1) 5)) fun m13 =>
  some ((0 : Int32), m13)
set_option maxHeartbeats 4000000 in
set_option maxRecDepth 100000 in
theorem c_Reader_fail (l : Launch) {L : Ly} (hg : gd_ok L) {σ : Mm} {o : Nat} {p1 : Int32} (k_o_0 : ly_k L o = 9) {res : Int32 × Mm} (hf0 : f_Reader_fail (ly_z L) σ o p1 = some res) : CtI l y_Reader_fail b_Reader_fail 2 (some .boolean) rm_Reader_fail L [.ref (ly_a L o), .int p1] σ res.1 res.2 := by
  refine ct_z hg (by decide) (Nat.le_of_ble_eq_true rfl) ?_
  intro E A Q hE C hN
  subst hE
  have k_o_1 : ly_k L (o + 1) = 8 := gd_Reader_tokens hg k_o_0
  unfold f_Reader_fail at hf0
  show GW E L A 2 0 0 Q σ 0 [(0, .ref (ly_a L o)), (1, .int p1)] []
  refine gw_aload_n C 0 d_Reader_fail_0 rfl rfl ?_
  refine gw_iload_n C 1 d_Reader_fail_1 rfl rfl ?_
  obtain ⟨m2, em2, hf0⟩ := mx_lt hf0
  refine gw_putI t_Reader C 3 d_Reader_fail_2 k_o_0 (by decide) i_Reader rfl rfl (by decide) qw_293 rfl rfl t_Reader_ok n_Reader rfl (t_Reader_ok 3 (by decide)) rfl rfl em2 ?_
  refine gw_aload_n C 0 d_Reader_fail_5 rfl rfl ?_
  refine gw_aload_n C 0 d_Reader_fail_6 rfl rfl ?_
  refine gw_getA C 0 d_Reader_fail_7 k_o_0 (by decide) i_Reader rfl rfl (by decide) qw_287 rfl rfl (o + 1) rfl ?_
  refine gw_getIN C 5 d_Reader_fail_10 k_o_1 (by decide) i_Tokens rfl rfl (by decide) qw_62 rfl rfl ?_
  obtain ⟨m13, em13, hf0⟩ := mx_lt hf0
  refine gw_putI t_Reader C 4 d_Reader_fail_13 k_o_0 (by decide) i_Reader rfl rfl (by decide) qw_295 rfl rfl t_Reader_ok n_Reader rfl (t_Reader_ok 4 (by decide)) rfl rfl em13 ?_
  refine gw_iconst C (0 : Int32) d_Reader_fail_16 (by decide) ?_
  exact en_z hN (Or.inl rfl) hf0 d_Reader_fail_17

/-! NameHat.Reader.isName()Z -/
abbrev b_Reader_isName : ByteArray := prog_6_method_6_code
def y_Reader_isName : MethodName := ⟨"NameHat$Reader", "isName", "()Z"⟩
abbrev rm_Reader_isName : Room := { frames := 1, cells := 0, slots := 0, locals := 21 }
theorem hd_Reader_isName : y_Reader_isName.cls ≠ "java/lang/invoke/MethodHandle" ∧ y_Reader_isName.cls ≠ "java/lang/invoke/VarHandle" ∧ (parseMethodDescriptor y_Reader_isName.desc).map (fun d => d.parameters.length) = some 0 := by decide +kernel
theorem d_Reader_isName_0 : decode b_Reader_isName 0 = .ok (.aload_n 0, 1) := by decide +kernel
theorem d_Reader_isName_1 : decode b_Reader_isName 1 = .ok (.getfield 12, 3) := by decide +kernel
theorem d_Reader_isName_4 : decode b_Reader_isName 4 = .ok (.getfield 49, 3) := by decide +kernel
theorem d_Reader_isName_7 : decode b_Reader_isName 7 = .ok (.iconst 1, 1) := by decide +kernel
theorem d_Reader_isName_8 : decode b_Reader_isName 8 = .ok (.if_icmp .ne 14, 3) := by decide +kernel
theorem d_Reader_isName_11 : decode b_Reader_isName 11 = .ok (.aload_n 0, 1) := by decide +kernel
theorem d_Reader_isName_12 : decode b_Reader_isName 12 = .ok (.getfield 12, 3) := by decide +kernel
theorem d_Reader_isName_15 : decode b_Reader_isName 15 = .ok (.getfield 78, 3) := by decide +kernel
theorem d_Reader_isName_18 : decode b_Reader_isName 18 = .ok (.iconst (-1), 1) := by decide +kernel
theorem d_Reader_isName_19 : decode b_Reader_isName 19 = .ok (.if_icmp .eq 11, 3) := by decide +kernel
theorem d_Reader_isName_22 : decode b_Reader_isName 22 = .ok (.aload_n 0, 1) := by decide +kernel
theorem d_Reader_isName_23 : decode b_Reader_isName 23 = .ok (.iconst 1, 1) := by decide +kernel
theorem d_Reader_isName_24 : decode b_Reader_isName 24 = .ok (.invokevirtual 71, 3) := by decide +kernel
theorem d_Reader_isName_27 : decode b_Reader_isName 27 = .ok (.ifCond .eq 7, 3) := by decide +kernel
theorem d_Reader_isName_30 : decode b_Reader_isName 30 = .ok (.iconst 1, 1) := by decide +kernel
theorem d_Reader_isName_31 : decode b_Reader_isName 31 = .ok (.goto 4, 3) := by decide +kernel
theorem d_Reader_isName_34 : decode b_Reader_isName 34 = .ok (.iconst 0, 1) := by decide +kernel
theorem d_Reader_isName_35 : decode b_Reader_isName 35 = .ok (.ireturn, 1) := by decide +kernel
noncomputable def f_Reader_isName_J22 (z : Nat → Nat) (o : Nat) (m22 : Mm) : Option (Int32 × Mm) :=
  (f_Reader_fail z m22 o (1 : Int32)).bind fun q24 =>
  if q24.1 = 0 then (
    some ((0 : Int32), q24.2)
  ) else (
    some ((1 : Int32), q24.2)
  )
noncomputable def f_Reader_isName (z : Nat → Nat) (σ : Mm) (o : Nat) : Option (Int32 × Mm) :=
  if (σ.1 (o + 1) 4) = (1 : Int32) then (
    if (σ.1 (o + 1) 8) = ((-1) : Int32) then (
      some ((1 : Int32), σ)
    ) else (
      f_Reader_isName_J22 z o σ
    )
  ) else (
    f_Reader_isName_J22 z o σ
  )
set_option maxHeartbeats 4000000 in
set_option maxRecDepth 100000 in
theorem c_Reader_isName (l : Launch) {L : Ly} (hg : gd_ok L) {σ : Mm} {o : Nat} (k_o_0 : ly_k L o = 9) {res : Int32 × Mm} (hf0 : f_Reader_isName (ly_z L) σ o = some res) : CtI l y_Reader_isName b_Reader_isName 1 (some .boolean) rm_Reader_isName L [.ref (ly_a L o)] σ res.1 res.2 := by
  refine ct_z hg (by decide) (Nat.le_of_ble_eq_true rfl) ?_
  intro E A Q hE C hN
  subst hE
  have k_o_1 : ly_k L (o + 1) = 8 := gd_Reader_tokens hg k_o_0
  unfold f_Reader_isName at hf0
  show GW E L A 1 0 0 Q σ 0 [(0, .ref (ly_a L o))] []
  have hj22 : ∀ (m22 : Mm), f_Reader_isName_J22 (ly_z L) o m22 = some res → GW E L A 1 0 0 Q m22 22 [(0, .ref (ly_a L o))] [] := by
    intro m22 hf0
    unfold f_Reader_isName_J22 at hf0
    refine gw_aload_n C 0 d_Reader_isName_22 rfl rfl ?_
    refine gw_iconst C (1 : Int32) d_Reader_isName_23 (by decide) ?_
    obtain ⟨q24, hq24, hf0⟩ := mx_bd hf0
    refine gw_callI C (c_Reader_fail _ hg k_o_0 hq24) d_Reader_isName_24 1 qw_568 qw_570 qs_4 qw_2 qw_571 k_o_0 (by decide) rfl hd_Reader_fail rfl rfl (Nat.le_of_ble_eq_true rfl) ⟨rfl, rfl, Nat.le_of_ble_eq_true rfl, Nat.le_of_ble_eq_true rfl⟩ ⟨Nat.zero_le _, Nat.zero_le _⟩ ?_
    refine gw_if_eq C 34 d_Reader_isName_27 (by decide) (fun hc => ?_) (fun hc => ?_)
    · replace hf0 := mx_t hc hf0
      refine gw_iconst C (0 : Int32) d_Reader_isName_34 (by decide) ?_
      exact en_z hN (Or.inl rfl) hf0 d_Reader_isName_35
    · replace hf0 := mx_f hc hf0
      refine gw_iconst C (1 : Int32) d_Reader_isName_30 (by decide) ?_
      refine gw_goto C 35 d_Reader_isName_31 (by decide) ?_
      exact en_z hN (Or.inr rfl) hf0 d_Reader_isName_35
  refine gw_aload_n C 0 d_Reader_isName_0 rfl rfl ?_
  refine gw_getA C 0 d_Reader_isName_1 k_o_0 (by decide) i_Reader rfl rfl (by decide) qw_287 rfl rfl (o + 1) rfl ?_
  refine gw_getIN C 4 d_Reader_isName_4 k_o_1 (by decide) i_Tokens rfl rfl (by decide) qw_60 rfl rfl ?_
  refine gw_iconst C (1 : Int32) d_Reader_isName_7 (by decide) ?_
  refine gw_icmp_ne C 22 d_Reader_isName_8 (by decide) (fun hc => ?_) (fun hc => ?_)
  · replace hf0 := mx_f hc hf0
    exact gw_go [0] (hj22 _ hf0) rfl
  · replace hf0 := mx_t hc hf0
    refine gw_aload_n C 0 d_Reader_isName_11 rfl rfl ?_
    refine gw_getA C 0 d_Reader_isName_12 k_o_0 (by decide) i_Reader rfl rfl (by decide) qw_287 rfl rfl (o + 1) rfl ?_
    refine gw_getIN C 8 d_Reader_isName_15 k_o_1 (by decide) i_Tokens rfl rfl (by decide) qw_69 rfl rfl ?_
    refine gw_iconst C ((-1) : Int32) d_Reader_isName_18 (by decide) ?_
    refine gw_icmp_eq C 30 d_Reader_isName_19 (by decide) (fun hc => ?_) (fun hc => ?_)
    · replace hf0 := mx_t hc hf0
      refine gw_iconst C (1 : Int32) d_Reader_isName_30 (by decide) ?_
      refine gw_goto C 35 d_Reader_isName_31 (by decide) ?_
      exact en_z hN (Or.inr rfl) hf0 d_Reader_isName_35
    · replace hf0 := mx_f hc hf0
      exact gw_go [0] (hj22 _ hf0) rfl

/-! NameHat.Names.find(J)I -/
abbrev b_Names_find : ByteArray := prog_5_method_5_code
def y_Names_find : MethodName := ⟨"NameHat$Names", "find", "(J)I"⟩
abbrev rm_Names_find : Room := { frames := 0, cells := 0, slots := 0, locals := 0 }
theorem hd_Names_find : y_Names_find.cls ≠ "java/lang/invoke/MethodHandle" ∧ y_Names_find.cls ≠ "java/lang/invoke/VarHandle" ∧ (parseMethodDescriptor y_Names_find.desc).map (fun d => d.parameters.length) = some 1 := by decide +kernel
theorem d_Names_find_0 : decode b_Names_find 0 = .ok (.iconst 0, 1) := by decide +kernel
theorem d_Names_find_1 : decode b_Names_find 1 = .ok (.istore_n 3, 1) := by decide +kernel
theorem d_Names_find_2 : decode b_Names_find 2 = .ok (.iload_n 3, 1) := by decide +kernel
theorem d_Names_find_3 : decode b_Names_find 3 = .ok (.aload_n 0, 1) := by decide +kernel
theorem d_Names_find_4 : decode b_Names_find 4 = .ok (.getfield 15, 3) := by decide +kernel
theorem d_Names_find_7 : decode b_Names_find 7 = .ok (.if_icmp .ge 31, 3) := by decide +kernel
theorem d_Names_find_10 : decode b_Names_find 10 = .ok (.iload_n 3, 1) := by decide +kernel
theorem d_Names_find_11 : decode b_Names_find 11 = .ok (.aload_n 0, 1) := by decide +kernel
theorem d_Names_find_12 : decode b_Names_find 12 = .ok (.getfield 9, 3) := by decide +kernel
theorem d_Names_find_15 : decode b_Names_find 15 = .ok (.arraylength, 1) := by decide +kernel
theorem d_Names_find_16 : decode b_Names_find 16 = .ok (.if_icmp .ge 22, 3) := by decide +kernel
theorem d_Names_find_19 : decode b_Names_find 19 = .ok (.aload_n 0, 1) := by decide +kernel
theorem d_Names_find_20 : decode b_Names_find 20 = .ok (.getfield 9, 3) := by decide +kernel
theorem d_Names_find_23 : decode b_Names_find 23 = .ok (.iload_n 3, 1) := by decide +kernel
theorem d_Names_find_24 : decode b_Names_find 24 = .ok (.laload, 1) := by decide +kernel
theorem d_Names_find_25 : decode b_Names_find 25 = .ok (.lload_n 1, 1) := by decide +kernel
theorem d_Names_find_26 : decode b_Names_find 26 = .ok (.lcmp, 1) := by decide +kernel
theorem d_Names_find_27 : decode b_Names_find 27 = .ok (.ifCond .ne 5, 3) := by decide +kernel
theorem d_Names_find_30 : decode b_Names_find 30 = .ok (.iload_n 3, 1) := by decide +kernel
theorem d_Names_find_31 : decode b_Names_find 31 = .ok (.ireturn, 1) := by decide +kernel
theorem d_Names_find_32 : decode b_Names_find 32 = .ok (.iinc 3 1, 3) := by decide +kernel
theorem d_Names_find_35 : decode b_Names_find 35 = .ok (.goto (-33), 3) := by decide +kernel
theorem d_Names_find_38 : decode b_Names_find 38 = .ok (.iconst (-1), 1) := by decide +kernel
theorem d_Names_find_39 : decode b_Names_find 39 = .ok (.ireturn, 1) := by decide +kernel
noncomputable def f_Names_find_L2 (z : Nat → Nat) (σ : Mm) (o : Nat) (v1 : Int64) (s2 : Int32) : Option ((Int32) ⊕ ((Int32) ⊕ (Unit))) :=
  if (σ.1 o 1) ≤ s2 then (
    some (.inr (.inr ()))
  ) else (
    if (nI (z (o + 1))) ≤ s2 then (
      some (.inr (.inr ()))
    ) else (
      (mm_ldL (σ.2 (o + 1)) (z (o + 1)) s2).bind fun x24 =>
      if (lg_cmp x24 v1) = 0 then (
        some (.inr (.inl s2))
      ) else (
        mm_lt (s2 + (1 : Int32)) fun x32 =>
        some (.inl x32)
      )
    )
  )
noncomputable def f_Names_find (z : Nat → Nat) (σ : Mm) (o : Nat) (p1 : Int64) : Option (Int32) :=
  (mm_lp (f_Names_find_L2 z σ o p1) (0 : Int32)).bind (Sum.elim (fun r9 => some r9) (fun x2_ =>
    some ((-1) : Int32)))
set_option maxHeartbeats 4000000 in
set_option maxRecDepth 100000 in
theorem c_Names_find (l : Launch) {L : Ly} (hg : gd_ok L) {σ : Mm} {o : Nat} {p1 : Int64} (k_o_0 : ly_k L o = 1) {res : Int32} (hf0 : f_Names_find (ly_z L) σ o p1 = some res) : CtI l y_Names_find b_Names_find 4 (some .int) rm_Names_find L [.ref (ly_a L o), .long p1] σ res σ := by
  refine ct_i hg (by decide) (Nat.le_of_ble_eq_true rfl) ?_
  intro E A Q hE C hN
  subst hE
  have k_o_1 : ly_k L (o + 1) = 21 := gd_Names_letters hg k_o_0
  unfold f_Names_find at hf0
  show GW E L A 4 0 0 Q σ 0 [(0, .ref (ly_a L o)), (1, .long p1)] []
  refine gw_iconst C (0 : Int32) d_Names_find_0 (by decide) ?_
  refine gw_istore_n C [(3, .int (0 : Int32)), (0, .ref (ly_a L o)), (1, .long p1)] d_Names_find_1 rfl (by decide) rfl ?_
  obtain ⟨q2, hq2, hf0⟩ := mx_bd hf0
  have hk2 : ∀ x2_, q2 = .inr x2_ → GW E L A 4 0 0 Q σ 38 [] [] := by
    intro x2_ hx9
    subst hx9
    replace hf0 := mx_sr hf0
    refine gw_iconst C ((-1) : Int32) d_Names_find_38 (by decide) ?_
    exact en_ip hN hf0 d_Names_find_39
  refine gw_sub [1, 2, 0] (lv' := [(0, .ref (ly_a L o)), (1, .long p1), (3, .int (0 : Int32))]) rfl ?_
  refine mm_rule hq2 (P := fun (s2 : Int32) => GW E L A 4 0 0 Q σ 2 [(0, .ref (ly_a L o)), (1, .long p1), (3, .int s2)] []) ?_
  intro s2 ih2 hx2 ⟨w2, hb2⟩
  have hf1 := hb2
  unfold f_Names_find_L2 at hf1
  refine gw_iload_n C 2 d_Names_find_2 rfl rfl ?_
  refine gw_aload_n C 0 d_Names_find_3 rfl rfl ?_
  refine gw_getI C 1 d_Names_find_4 k_o_0 (by decide) i_Names rfl rfl (by decide) qw_109 rfl rfl ?_
  refine gw_icmp_ge C 38 d_Names_find_7 (by decide) (fun hc => ?_) (fun hc => ?_)
  · replace hf1 := mx_t hc hf1
    exact gw_go [] (hk2 () (hx2 _ (hb2.trans hf1.symm)).symm) rfl
  · replace hf1 := mx_f hc hf1
    refine gw_iload_n C 2 d_Names_find_10 rfl rfl ?_
    refine gw_aload_n C 0 d_Names_find_11 rfl rfl ?_
    refine gw_getA C 0 d_Names_find_12 k_o_0 (by decide) i_Names rfl rfl (by decide) qw_107 rfl rfl (o + 1) rfl ?_
    refine gw_alen21 C d_Names_find_15 k_o_1 ?_
    refine gw_icmp_ge C 38 d_Names_find_16 (by decide) (fun hc => ?_) (fun hc => ?_)
    · replace hf1 := mx_t hc hf1
      exact gw_go [] (hk2 () (hx2 _ (hb2.trans hf1.symm)).symm) rfl
    · replace hf1 := mx_f hc hf1
      refine gw_aload_n C 0 d_Names_find_19 rfl rfl ?_
      refine gw_getA C 0 d_Names_find_20 k_o_0 (by decide) i_Names rfl rfl (by decide) qw_107 rfl rfl (o + 1) rfl ?_
      refine gw_iload_n C 2 d_Names_find_23 rfl rfl ?_
      obtain ⟨x24, hx24, hf1⟩ := mx_bd hf1
      obtain ⟨gx24, ex24⟩ := mx_ldL hx24
      refine gw_lald C d_Names_find_24 k_o_1 gx24 ex24 ?_
      refine gw_lload_n C 1 d_Names_find_25 rfl rfl ?_
      refine gw_lcmp C d_Names_find_26 ?_
      refine gw_if_ne C 32 d_Names_find_27 (by decide) (fun hc => ?_) (fun hc => ?_)
      · replace hf1 := mx_f hc hf1
        obtain ⟨x32, ex32, hf1⟩ := mx_lt hf1
        refine gw_iinc C 2 [(3, .int x32), (0, .ref (ly_a L o)), (1, .long p1)] d_Names_find_32 rfl (by rw [ex32]; rfl) (by decide) rfl ?_
        refine gw_goto C 2 d_Names_find_35 (by decide) ?_
        exact gw_go [1, 2, 0] (ih2 x32 (hb2.trans hf1.symm)) rfl
      · replace hf1 := mx_t hc hf1
        refine gw_iload_n C 2 d_Names_find_30 rfl rfl ?_
        have hr2 := hx2 _ (hb2.trans hf1.symm)
        subst hr2
        replace hf0 := mx_sl hf0
        exact en_ip hN hf0 d_Names_find_31

/-! NameHat.Reader.isNewName()Z -/
abbrev b_Reader_isNewName : ByteArray := prog_6_method_7_code
def y_Reader_isNewName : MethodName := ⟨"NameHat$Reader", "isNewName", "()Z"⟩
abbrev rm_Reader_isNewName : Room := { frames := 2, cells := 0, slots := 0, locals := 41 }
theorem hd_Reader_isNewName : y_Reader_isNewName.cls ≠ "java/lang/invoke/MethodHandle" ∧ y_Reader_isNewName.cls ≠ "java/lang/invoke/VarHandle" ∧ (parseMethodDescriptor y_Reader_isNewName.desc).map (fun d => d.parameters.length) = some 0 := by decide +kernel
theorem d_Reader_isNewName_0 : decode b_Reader_isNewName 0 = .ok (.aload_n 0, 1) := by decide +kernel
theorem d_Reader_isNewName_1 : decode b_Reader_isNewName 1 = .ok (.invokevirtual 81, 3) := by decide +kernel
theorem d_Reader_isNewName_4 : decode b_Reader_isNewName 4 = .ok (.ifCond .ne 5, 3) := by decide +kernel
theorem d_Reader_isNewName_7 : decode b_Reader_isNewName 7 = .ok (.iconst 0, 1) := by decide +kernel
theorem d_Reader_isNewName_8 : decode b_Reader_isNewName 8 = .ok (.ireturn, 1) := by decide +kernel
theorem d_Reader_isNewName_9 : decode b_Reader_isNewName 9 = .ok (.aload_n 0, 1) := by decide +kernel
theorem d_Reader_isNewName_10 : decode b_Reader_isNewName 10 = .ok (.getfield 21, 3) := by decide +kernel
theorem d_Reader_isNewName_13 : decode b_Reader_isNewName 13 = .ok (.getfield 84, 3) := by decide +kernel
theorem d_Reader_isNewName_16 : decode b_Reader_isNewName 16 = .ok (.getfield 88, 3) := by decide +kernel
theorem d_Reader_isNewName_19 : decode b_Reader_isNewName 19 = .ok (.aload_n 0, 1) := by decide +kernel
theorem d_Reader_isNewName_20 : decode b_Reader_isNewName 20 = .ok (.getfield 12, 3) := by decide +kernel
theorem d_Reader_isNewName_23 : decode b_Reader_isNewName 23 = .ok (.getfield 94, 3) := by decide +kernel
theorem d_Reader_isNewName_26 : decode b_Reader_isNewName 26 = .ok (.invokevirtual 98, 3) := by decide +kernel
theorem d_Reader_isNewName_29 : decode b_Reader_isNewName 29 = .ok (.iconst (-1), 1) := by decide +kernel
theorem d_Reader_isNewName_30 : decode b_Reader_isNewName 30 = .ok (.if_icmp .ne 27, 3) := by decide +kernel
theorem d_Reader_isNewName_33 : decode b_Reader_isNewName 33 = .ok (.aload_n 0, 1) := by decide +kernel
theorem d_Reader_isNewName_34 : decode b_Reader_isNewName 34 = .ok (.getfield 21, 3) := by decide +kernel
theorem d_Reader_isNewName_37 : decode b_Reader_isNewName 37 = .ok (.getfield 84, 3) := by decide +kernel
theorem d_Reader_isNewName_40 : decode b_Reader_isNewName 40 = .ok (.getfield 104, 3) := by decide +kernel
theorem d_Reader_isNewName_43 : decode b_Reader_isNewName 43 = .ok (.aload_n 0, 1) := by decide +kernel
theorem d_Reader_isNewName_44 : decode b_Reader_isNewName 44 = .ok (.getfield 12, 3) := by decide +kernel
theorem d_Reader_isNewName_47 : decode b_Reader_isNewName 47 = .ok (.getfield 94, 3) := by decide +kernel
theorem d_Reader_isNewName_50 : decode b_Reader_isNewName 50 = .ok (.invokevirtual 98, 3) := by decide +kernel
theorem d_Reader_isNewName_53 : decode b_Reader_isNewName 53 = .ok (.iconst (-1), 1) := by decide +kernel
theorem d_Reader_isNewName_54 : decode b_Reader_isNewName 54 = .ok (.if_icmp .eq 7, 3) := by decide +kernel
theorem d_Reader_isNewName_57 : decode b_Reader_isNewName 57 = .ok (.iconst 1, 1) := by decide +kernel
theorem d_Reader_isNewName_58 : decode b_Reader_isNewName 58 = .ok (.goto 4, 3) := by decide +kernel
theorem d_Reader_isNewName_61 : decode b_Reader_isNewName 61 = .ok (.iconst 0, 1) := by decide +kernel
theorem d_Reader_isNewName_62 : decode b_Reader_isNewName 62 = .ok (.istore_n 1, 1) := by decide +kernel
theorem d_Reader_isNewName_63 : decode b_Reader_isNewName 63 = .ok (.iload_n 1, 1) := by decide +kernel
theorem d_Reader_isNewName_64 : decode b_Reader_isNewName 64 = .ok (.ifCond .eq 11, 3) := by decide +kernel
theorem d_Reader_isNewName_67 : decode b_Reader_isNewName 67 = .ok (.aload_n 0, 1) := by decide +kernel
theorem d_Reader_isNewName_68 : decode b_Reader_isNewName 68 = .ok (.iconst 3, 1) := by decide +kernel
theorem d_Reader_isNewName_69 : decode b_Reader_isNewName 69 = .ok (.invokevirtual 71, 3) := by decide +kernel
theorem d_Reader_isNewName_72 : decode b_Reader_isNewName 72 = .ok (.ifCond .eq 7, 3) := by decide +kernel
theorem d_Reader_isNewName_75 : decode b_Reader_isNewName 75 = .ok (.iconst 1, 1) := by decide +kernel
theorem d_Reader_isNewName_76 : decode b_Reader_isNewName 76 = .ok (.goto 4, 3) := by decide +kernel
theorem d_Reader_isNewName_79 : decode b_Reader_isNewName 79 = .ok (.iconst 0, 1) := by decide +kernel
theorem d_Reader_isNewName_80 : decode b_Reader_isNewName 80 = .ok (.ireturn, 1) := by decide +kernel
noncomputable def f_Reader_isNewName_J62 (z : Nat → Nat) (o : Nat) (t62_0 : Int32) (m62 : Mm) : Option (Int32 × Mm) :=
  if t62_0 = 0 then (
    some ((1 : Int32), m62)
  ) else (
    (f_Reader_fail z m62 o (3 : Int32)).bind fun q69 =>
    if q69.1 = 0 then (
      some ((0 : Int32), q69.2)
    ) else (
      some ((1 : Int32), q69.2)
    )
  )
noncomputable def f_Reader_isNewName (z : Nat → Nat) (σ : Mm) (o : Nat) : Option (Int32 × Mm) :=
  (f_Reader_isName z σ o).bind fun q1 =>
  if q1.1 = 0 then (
    some ((0 : Int32), q1.2)
  ) else (
    (f_Names_find z q1.2 (o + 6) (q1.2.2 (o + 1) 7)).bind fun q26 =>
    if q26 = ((-1) : Int32) then (
      (f_Names_find z q1.2 (o + 8) (q1.2.2 (o + 1) 7)).bind fun q50 =>
      if q50 = ((-1) : Int32) then (
        f_Reader_isNewName_J62 z o (0 : Int32) q1.2
      ) else (
        f_Reader_isNewName_J62 z o (1 : Int32) q1.2
      )
    ) else (
      f_Reader_isNewName_J62 z o (1 : Int32) q1.2
    )
  )
set_option maxHeartbeats 4000000 in
set_option maxRecDepth 100000 in
theorem c_Reader_isNewName (l : Launch) {L : Ly} (hg : gd_ok L) {σ : Mm} {o : Nat} (k_o_0 : ly_k L o = 9) {res : Int32 × Mm} (hf0 : f_Reader_isNewName (ly_z L) σ o = some res) : CtI l y_Reader_isNewName b_Reader_isNewName 2 (some .boolean) rm_Reader_isNewName L [.ref (ly_a L o)] σ res.1 res.2 := by
  refine ct_z hg (by decide) (Nat.le_of_ble_eq_true rfl) ?_
  intro E A Q hE C hN
  subst hE
  have k_o_4 : ly_k L (o + 4) = 4 := gd_Reader_draft hg k_o_0
  have k_o_5 : ly_k L (o + 5) = 2 := gd_State_island hg k_o_4
  have k_o_1 : ly_k L (o + 1) = 8 := gd_Reader_tokens hg k_o_0
  have k_o_6 : ly_k L (o + 6) = 1 := gd_Island_surnames hg k_o_5
  have k_o_8 : ly_k L (o + 8) = 1 := gd_Island_houses hg k_o_5
  unfold f_Reader_isNewName at hf0
  show GW E L A 2 0 0 Q σ 0 [(0, .ref (ly_a L o))] []
  have hj62 : ∀ (t62_0 : Int32) (m62 : Mm), f_Reader_isNewName_J62 (ly_z L) o t62_0 m62 = some res → GW E L A 2 0 0 Q m62 62 [(0, .ref (ly_a L o))] [.int t62_0] := by
    intro t62_0 m62 hf0
    unfold f_Reader_isNewName_J62 at hf0
    refine gw_istore_n C [(1, .int t62_0), (0, .ref (ly_a L o))] d_Reader_isNewName_62 rfl (by decide) rfl ?_
    refine gw_iload_n C 0 d_Reader_isNewName_63 rfl rfl ?_
    refine gw_if_eq C 75 d_Reader_isNewName_64 (by decide) (fun hc => ?_) (fun hc => ?_)
    · replace hf0 := mx_t hc hf0
      refine gw_iconst C (1 : Int32) d_Reader_isNewName_75 (by decide) ?_
      refine gw_goto C 80 d_Reader_isNewName_76 (by decide) ?_
      exact en_z hN (Or.inr rfl) hf0 d_Reader_isNewName_80
    · replace hf0 := mx_f hc hf0
      refine gw_aload_n C 1 d_Reader_isNewName_67 rfl rfl ?_
      refine gw_iconst C (3 : Int32) d_Reader_isNewName_68 (by decide) ?_
      obtain ⟨q69, hq69, hf0⟩ := mx_bd hf0
      refine gw_callI C (c_Reader_fail _ hg k_o_0 hq69) d_Reader_isNewName_69 1 qw_568 qw_570 qs_4 qw_2 qw_571 k_o_0 (by decide) rfl hd_Reader_fail rfl rfl (Nat.le_of_ble_eq_true rfl) ⟨rfl, rfl, Nat.le_of_ble_eq_true rfl, Nat.le_of_ble_eq_true rfl⟩ ⟨Nat.zero_le _, Nat.zero_le _⟩ ?_
      refine gw_if_eq C 79 d_Reader_isNewName_72 (by decide) (fun hc => ?_) (fun hc => ?_)
      · replace hf0 := mx_t hc hf0
        refine gw_iconst C (0 : Int32) d_Reader_isNewName_79 (by decide) ?_
        exact en_z hN (Or.inl rfl) hf0 d_Reader_isNewName_80
      · replace hf0 := mx_f hc hf0
        refine gw_iconst C (1 : Int32) d_Reader_isNewName_75 (by decide) ?_
        refine gw_goto C 80 d_Reader_isNewName_76 (by decide) ?_
        exact en_z hN (Or.inr rfl) hf0 d_Reader_isNewName_80
  refine gw_aload_n C 0 d_Reader_isNewName_0 rfl rfl ?_
  obtain ⟨q1, hq1, hf0⟩ := mx_bd hf0
  refine gw_callI C (c_Reader_isName _ hg k_o_0 hq1) d_Reader_isNewName_1 0 qw_576 qw_578 qs_6 qw_2 qw_579 k_o_0 (by decide) rfl hd_Reader_isName rfl rfl (Nat.le_of_ble_eq_true rfl) ⟨rfl, rfl, Nat.le_of_ble_eq_true rfl, Nat.le_of_ble_eq_true rfl⟩ ⟨Nat.zero_le _, Nat.zero_le _⟩ ?_
  refine gw_if_ne C 9 d_Reader_isNewName_4 (by decide) (fun hc => ?_) (fun hc => ?_)
  · replace hf0 := mx_f hc hf0
    refine gw_aload_n C 0 d_Reader_isNewName_9 rfl rfl ?_
    refine gw_getA C 1 d_Reader_isNewName_10 k_o_0 (by decide) i_Reader rfl rfl (by decide) qw_289 rfl rfl (o + 4) rfl ?_
    refine gw_getAN C 0 d_Reader_isNewName_13 k_o_4 (by decide) i_State rfl rfl (by decide) qw_236 rfl rfl (o + 5) rfl ?_
    refine gw_getAN C 0 d_Reader_isNewName_16 k_o_5 (by decide) i_Island rfl rfl (by decide) qw_127 rfl rfl (o + 6) rfl ?_
    refine gw_aload_n C 0 d_Reader_isNewName_19 rfl rfl ?_
    refine gw_getA C 0 d_Reader_isNewName_20 k_o_0 (by decide) i_Reader rfl rfl (by decide) qw_287 rfl rfl (o + 1) rfl ?_
    refine gw_getLN C 7 d_Reader_isNewName_23 k_o_1 (by decide) i_Tokens rfl rfl (by decide) qw_67 rfl rfl ?_
    obtain ⟨q26, hq26, hf0⟩ := mx_bd hf0
    refine gw_callI C (c_Names_find _ hg k_o_6 hq26) d_Reader_isNewName_26 1 qw_580 qw_581 qw_582 qw_7 qw_583 k_o_6 (by decide) rfl hd_Names_find rfl rfl (Nat.le_of_ble_eq_true rfl) ⟨rfl, rfl, Nat.le_of_ble_eq_true rfl, Nat.le_of_ble_eq_true rfl⟩ ⟨Nat.zero_le _, Nat.zero_le _⟩ ?_
    refine gw_iconst C ((-1) : Int32) d_Reader_isNewName_29 (by decide) ?_
    refine gw_icmp_ne C 57 d_Reader_isNewName_30 (by decide) (fun hc => ?_) (fun hc => ?_)
    · replace hf0 := mx_f hc hf0
      refine gw_iconst C (1 : Int32) d_Reader_isNewName_57 (by decide) ?_
      refine gw_goto C 62 d_Reader_isNewName_58 (by decide) ?_
      exact gw_go [0] (hj62 _ _ hf0) rfl
    · replace hf0 := mx_t hc hf0
      refine gw_aload_n C 0 d_Reader_isNewName_33 rfl rfl ?_
      refine gw_getA C 1 d_Reader_isNewName_34 k_o_0 (by decide) i_Reader rfl rfl (by decide) qw_289 rfl rfl (o + 4) rfl ?_
      refine gw_getAN C 0 d_Reader_isNewName_37 k_o_4 (by decide) i_State rfl rfl (by decide) qw_236 rfl rfl (o + 5) rfl ?_
      refine gw_getAN C 1 d_Reader_isNewName_40 k_o_5 (by decide) i_Island rfl rfl (by decide) qw_135 rfl rfl (o + 8) rfl ?_
      refine gw_aload_n C 0 d_Reader_isNewName_43 rfl rfl ?_
      refine gw_getA C 0 d_Reader_isNewName_44 k_o_0 (by decide) i_Reader rfl rfl (by decide) qw_287 rfl rfl (o + 1) rfl ?_
      refine gw_getLN C 7 d_Reader_isNewName_47 k_o_1 (by decide) i_Tokens rfl rfl (by decide) qw_67 rfl rfl ?_
      obtain ⟨q50, hq50, hf0⟩ := mx_bd hf0
      refine gw_callI C (c_Names_find _ hg k_o_8 hq50) d_Reader_isNewName_50 1 qw_580 qw_581 qw_582 qw_7 qw_583 k_o_8 (by decide) rfl hd_Names_find rfl rfl (Nat.le_of_ble_eq_true rfl) ⟨rfl, rfl, Nat.le_of_ble_eq_true rfl, Nat.le_of_ble_eq_true rfl⟩ ⟨Nat.zero_le _, Nat.zero_le _⟩ ?_
      refine gw_iconst C ((-1) : Int32) d_Reader_isNewName_53 (by decide) ?_
      refine gw_icmp_eq C 61 d_Reader_isNewName_54 (by decide) (fun hc => ?_) (fun hc => ?_)
      · replace hf0 := mx_t hc hf0
        refine gw_iconst C (0 : Int32) d_Reader_isNewName_61 (by decide) ?_
        exact gw_go [0] (hj62 _ _ hf0) rfl
      · replace hf0 := mx_f hc hf0
        refine gw_iconst C (1 : Int32) d_Reader_isNewName_57 (by decide) ?_
        refine gw_goto C 62 d_Reader_isNewName_58 (by decide) ?_
        exact gw_go [0] (hj62 _ _ hf0) rfl
  · replace hf0 := mx_t hc hf0
    refine gw_iconst C (0 : Int32) d_Reader_isNewName_7 (by decide) ?_
    exact en_z hN (Or.inl rfl) hf0 d_Reader_isNewName_8

/-! NameHat.Names.add(J)I -/
abbrev b_Names_add : ByteArray := prog_5_method_6_code
def y_Names_add : MethodName := ⟨"NameHat$Names", "add", "(J)I"⟩
abbrev rm_Names_add : Room := { frames := 0, cells := 0, slots := 0, locals := 0 }
theorem hd_Names_add : y_Names_add.cls ≠ "java/lang/invoke/MethodHandle" ∧ y_Names_add.cls ≠ "java/lang/invoke/VarHandle" ∧ (parseMethodDescriptor y_Names_add.desc).map (fun d => d.parameters.length) = some 1 := by decide +kernel
theorem d_Names_add_0 : decode b_Names_add 0 = .ok (.aload_n 0, 1) := by decide +kernel
theorem d_Names_add_1 : decode b_Names_add 1 = .ok (.getfield 15, 3) := by decide +kernel
theorem d_Names_add_4 : decode b_Names_add 4 = .ok (.ifCond .lt 15, 3) := by decide +kernel
theorem d_Names_add_7 : decode b_Names_add 7 = .ok (.aload_n 0, 1) := by decide +kernel
theorem d_Names_add_8 : decode b_Names_add 8 = .ok (.getfield 15, 3) := by decide +kernel
theorem d_Names_add_11 : decode b_Names_add 11 = .ok (.aload_n 0, 1) := by decide +kernel
theorem d_Names_add_12 : decode b_Names_add 12 = .ok (.getfield 9, 3) := by decide +kernel
theorem d_Names_add_15 : decode b_Names_add 15 = .ok (.arraylength, 1) := by decide +kernel
theorem d_Names_add_16 : decode b_Names_add 16 = .ok (.if_icmp .lt 5, 3) := by decide +kernel
theorem d_Names_add_19 : decode b_Names_add 19 = .ok (.iconst (-1), 1) := by decide +kernel
theorem d_Names_add_20 : decode b_Names_add 20 = .ok (.ireturn, 1) := by decide +kernel
theorem d_Names_add_21 : decode b_Names_add 21 = .ok (.aload_n 0, 1) := by decide +kernel
theorem d_Names_add_22 : decode b_Names_add 22 = .ok (.getfield 9, 3) := by decide +kernel
theorem d_Names_add_25 : decode b_Names_add 25 = .ok (.aload_n 0, 1) := by decide +kernel
theorem d_Names_add_26 : decode b_Names_add 26 = .ok (.getfield 15, 3) := by decide +kernel
theorem d_Names_add_29 : decode b_Names_add 29 = .ok (.lload_n 1, 1) := by decide +kernel
theorem d_Names_add_30 : decode b_Names_add 30 = .ok (.lastore, 1) := by decide +kernel
theorem d_Names_add_31 : decode b_Names_add 31 = .ok (.aload_n 0, 1) := by decide +kernel
theorem d_Names_add_32 : decode b_Names_add 32 = .ok (.dup, 1) := by decide +kernel
theorem d_Names_add_33 : decode b_Names_add 33 = .ok (.getfield 15, 3) := by decide +kernel
theorem d_Names_add_36 : decode b_Names_add 36 = .ok (.iconst 1, 1) := by decide +kernel
theorem d_Names_add_37 : decode b_Names_add 37 = .ok (.iadd, 1) := by decide +kernel
theorem d_Names_add_38 : decode b_Names_add 38 = .ok (.putfield 15, 3) := by decide +kernel
theorem d_Names_add_41 : decode b_Names_add 41 = .ok (.aload_n 0, 1) := by decide +kernel
theorem d_Names_add_42 : decode b_Names_add 42 = .ok (.getfield 15, 3) := by decide +kernel
theorem d_Names_add_45 : decode b_Names_add 45 = .ok (.iconst 1, 1) := by decide +kernel
theorem d_Names_add_46 : decode b_Names_add 46 = .ok (.isub, 1) := by decide +kernel
theorem d_Names_add_47 : decode b_Names_add 47 = .ok (.ireturn, 1) := by decide +kernel
noncomputable def f_Names_add (z : Nat → Nat) (σ : Mm) (o : Nat) (p1 : Int64) : Option (Int32 × Mm) :=
  if (σ.1 o 1) < 0 then (
    some (((-1) : Int32), σ)
  ) else (
    if (σ.1 o 1) < (nI (z (o + 1))) then (
      (mm_stL σ (o + 1) (z (o + 1)) (σ.1 o 1) p1).bind fun m30 =>
      mm_lt (kI m30 o 1 ((m30.1 o 1) + (1 : Int32))) fun m38 =>
      some (((m38.1 o 1) - (1 : Int32)), m38)
    ) else (
      some (((-1) : Int32), σ)
    )
  )
set_option maxHeartbeats 4000000 in
set_option maxRecDepth 100000 in
theorem c_Names_add (l : Launch) {L : Ly} (hg : gd_ok L) {σ : Mm} {o : Nat} {p1 : Int64} (k_o_0 : ly_k L o = 1) {res : Int32 × Mm} (hf0 : f_Names_add (ly_z L) σ o p1 = some res) : CtI l y_Names_add b_Names_add 3 (some .int) rm_Names_add L [.ref (ly_a L o), .long p1] σ res.1 res.2 := by
  refine ct_i hg (by decide) (Nat.le_of_ble_eq_true rfl) ?_
  intro E A Q hE C hN
  subst hE
  have k_o_1 : ly_k L (o + 1) = 21 := gd_Names_letters hg k_o_0
  unfold f_Names_add at hf0
  show GW E L A 3 0 0 Q σ 0 [(0, .ref (ly_a L o)), (1, .long p1)] []
  refine gw_aload_n C 0 d_Names_add_0 rfl rfl ?_
  refine gw_getI C 1 d_Names_add_1 k_o_0 (by decide) i_Names rfl rfl (by decide) qw_109 rfl rfl ?_
  refine gw_if_lt C 19 d_Names_add_4 (by decide) (fun hc => ?_) (fun hc => ?_)
  · replace hf0 := mx_t hc hf0
    refine gw_iconst C ((-1) : Int32) d_Names_add_19 (by decide) ?_
    exact en_i hN hf0 d_Names_add_20
  · replace hf0 := mx_f hc hf0
    refine gw_aload_n C 0 d_Names_add_7 rfl rfl ?_
    refine gw_getI C 1 d_Names_add_8 k_o_0 (by decide) i_Names rfl rfl (by decide) qw_109 rfl rfl ?_
    refine gw_aload_n C 0 d_Names_add_11 rfl rfl ?_
    refine gw_getA C 0 d_Names_add_12 k_o_0 (by decide) i_Names rfl rfl (by decide) qw_107 rfl rfl (o + 1) rfl ?_
    refine gw_alen21 C d_Names_add_15 k_o_1 ?_
    refine gw_icmp_lt C 21 d_Names_add_16 (by decide) (fun hc => ?_) (fun hc => ?_)
    · replace hf0 := mx_t hc hf0
      refine gw_aload_n C 0 d_Names_add_21 rfl rfl ?_
      refine gw_getA C 0 d_Names_add_22 k_o_0 (by decide) i_Names rfl rfl (by decide) qw_107 rfl rfl (o + 1) rfl ?_
      refine gw_aload_n C 0 d_Names_add_25 rfl rfl ?_
      refine gw_getI C 1 d_Names_add_26 k_o_0 (by decide) i_Names rfl rfl (by decide) qw_109 rfl rfl ?_
      refine gw_lload_n C 1 d_Names_add_29 rfl rfl ?_
      obtain ⟨m30, hm30, hf0⟩ := mx_bd hf0
      obtain ⟨gm30, em30⟩ := mx_stL hm30
      refine gw_last C d_Names_add_30 k_o_1 gm30 em30 ?_
      refine gw_aload_n C 0 d_Names_add_31 rfl rfl ?_
      refine gw_dup C d_Names_add_32 rfl ?_
      refine gw_getI C 1 d_Names_add_33 k_o_0 (by decide) i_Names rfl rfl (by decide) qw_109 rfl rfl ?_
      refine gw_iconst C (1 : Int32) d_Names_add_36 (by decide) ?_
      refine gw_iadd C d_Names_add_37 ?_
      obtain ⟨m38, em38, hf0⟩ := mx_lt hf0
      refine gw_putI t_Names C 1 d_Names_add_38 k_o_0 (by decide) i_Names rfl rfl (by decide) qw_109 rfl rfl t_Names_ok n_Names rfl (t_Names_ok 1 (by decide)) rfl rfl em38 ?_
      refine gw_aload_n C 0 d_Names_add_41 rfl rfl ?_
      refine gw_getI C 1 d_Names_add_42 k_o_0 (by decide) i_Names rfl rfl (by decide) qw_109 rfl rfl ?_
      refine gw_iconst C (1 : Int32) d_Names_add_45 (by decide) ?_
      refine gw_isub C d_Names_add_46 ?_
      exact en_i hN hf0 d_Names_add_47
    · replace hf0 := mx_f hc hf0
      refine gw_iconst C ((-1) : Int32) d_Names_add_19 (by decide) ?_
      exact en_i hN hf0 d_Names_add_20

/-! NameHat.Reader.isNumber(II)Z -/
abbrev b_Reader_isNumber : ByteArray := prog_6_method_5_code
def y_Reader_isNumber : MethodName := ⟨"NameHat$Reader", "isNumber", "(II)Z"⟩
abbrev rm_Reader_isNumber : Room := { frames := 1, cells := 0, slots := 0, locals := 21 }
theorem hd_Reader_isNumber : y_Reader_isNumber.cls ≠ "java/lang/invoke/MethodHandle" ∧ y_Reader_isNumber.cls ≠ "java/lang/invoke/VarHandle" ∧ (parseMethodDescriptor y_Reader_isNumber.desc).map (fun d => d.parameters.length) = some 2 := by decide +kernel
theorem d_Reader_isNumber_0 : decode b_Reader_isNumber 0 = .ok (.aload_n 0, 1) := by decide +kernel
theorem d_Reader_isNumber_1 : decode b_Reader_isNumber 1 = .ok (.getfield 12, 3) := by decide +kernel
theorem d_Reader_isNumber_4 : decode b_Reader_isNumber 4 = .ok (.getfield 49, 3) := by decide +kernel
theorem d_Reader_isNumber_7 : decode b_Reader_isNumber 7 = .ok (.iconst 2, 1) := by decide +kernel
theorem d_Reader_isNumber_8 : decode b_Reader_isNumber 8 = .ok (.if_icmp .eq 9, 3) := by decide +kernel
theorem d_Reader_isNumber_11 : decode b_Reader_isNumber 11 = .ok (.aload_n 0, 1) := by decide +kernel
theorem d_Reader_isNumber_12 : decode b_Reader_isNumber 12 = .ok (.iconst 1, 1) := by decide +kernel
theorem d_Reader_isNumber_13 : decode b_Reader_isNumber 13 = .ok (.invokevirtual 71, 3) := by decide +kernel
theorem d_Reader_isNumber_16 : decode b_Reader_isNumber 16 = .ok (.ireturn, 1) := by decide +kernel
theorem d_Reader_isNumber_17 : decode b_Reader_isNumber 17 = .ok (.aload_n 0, 1) := by decide +kernel
theorem d_Reader_isNumber_18 : decode b_Reader_isNumber 18 = .ok (.getfield 12, 3) := by decide +kernel
theorem d_Reader_isNumber_21 : decode b_Reader_isNumber 21 = .ok (.getfield 75, 3) := by decide +kernel
theorem d_Reader_isNumber_24 : decode b_Reader_isNumber 24 = .ok (.iload_n 1, 1) := by decide +kernel
theorem d_Reader_isNumber_25 : decode b_Reader_isNumber 25 = .ok (.if_icmp .lt 14, 3) := by decide +kernel
theorem d_Reader_isNumber_28 : decode b_Reader_isNumber 28 = .ok (.aload_n 0, 1) := by decide +kernel
theorem d_Reader_isNumber_29 : decode b_Reader_isNumber 29 = .ok (.getfield 12, 3) := by decide +kernel
theorem d_Reader_isNumber_32 : decode b_Reader_isNumber 32 = .ok (.getfield 75, 3) := by decide +kernel
theorem d_Reader_isNumber_35 : decode b_Reader_isNumber 35 = .ok (.iload_n 2, 1) := by decide +kernel
theorem d_Reader_isNumber_36 : decode b_Reader_isNumber 36 = .ok (.if_icmp .le 11, 3) := by decide +kernel
theorem d_Reader_isNumber_39 : decode b_Reader_isNumber 39 = .ok (.aload_n 0, 1) := by decide +kernel
theorem d_Reader_isNumber_40 : decode b_Reader_isNumber 40 = .ok (.iconst 2, 1) := by decide +kernel
theorem d_Reader_isNumber_41 : decode b_Reader_isNumber 41 = .ok (.invokevirtual 71, 3) := by decide +kernel
theorem d_Reader_isNumber_44 : decode b_Reader_isNumber 44 = .ok (.ifCond .eq 7, 3) := by decide +kernel
theorem d_Reader_isNumber_47 : decode b_Reader_isNumber 47 = .ok (.iconst 1, 1) := by decide +kernel
theorem d_Reader_isNumber_48 : decode b_Reader_isNumber 48 = .ok (.goto 4, 3) := by decide +kernel
theorem d_Reader_isNumber_51 : decode b_Reader_isNumber 51 = .ok (.iconst 0, 1) := by decide +kernel
theorem d_Reader_isNumber_52 : decode b_Reader_isNumber 52 = .ok (.ireturn, 1) := by decide +kernel
noncomputable def f_Reader_isNumber_J39 (z : Nat → Nat) (o : Nat) (m39 : Mm) : Option (Int32 × Mm) :=
  (f_Reader_fail z m39 o (2 : Int32)).bind fun q41 =>
  if q41.1 = 0 then (
    some ((0 : Int32), q41.2)
  ) else (
    some ((1 : Int32), q41.2)
  )
noncomputable def f_Reader_isNumber (z : Nat → Nat) (σ : Mm) (o : Nat) (p1 : Int32) (p2 : Int32) : Option (Int32 × Mm) :=
  if (σ.1 (o + 1) 4) = (2 : Int32) then (
    if (σ.1 (o + 1) 6) < p1 then (
      f_Reader_isNumber_J39 z o σ
    ) else (
      if (σ.1 (o + 1) 6) ≤ p2 then (
        some ((1 : Int32), σ)
      ) else (
        f_Reader_isNumber_J39 z o σ
      )
    )
  ) else (
    (f_Reader_fail z σ o (1 : Int32)).bind fun q13 =>
    (mm_zb q13.1).bind fun y16 =>
    some (y16, q13.2)
  )
set_option maxHeartbeats 4000000 in
set_option maxRecDepth 100000 in
theorem c_Reader_isNumber (l : Launch) {L : Ly} (hg : gd_ok L) {σ : Mm} {o : Nat} {p1 : Int32} {p2 : Int32} (k_o_0 : ly_k L o = 9) {res : Int32 × Mm} (hf0 : f_Reader_isNumber (ly_z L) σ o p1 p2 = some res) : CtI l y_Reader_isNumber b_Reader_isNumber 3 (some .boolean) rm_Reader_isNumber L [.ref (ly_a L o), .int p1, .int p2] σ res.1 res.2 := by
  refine ct_z hg (by decide) (Nat.le_of_ble_eq_true rfl) ?_
  intro E A Q hE C hN
  subst hE
  have k_o_1 : ly_k L (o + 1) = 8 := gd_Reader_tokens hg k_o_0
  unfold f_Reader_isNumber at hf0
  show GW E L A 3 0 0 Q σ 0 [(0, .ref (ly_a L o)), (1, .int p1), (2, .int p2)] []
  have hj39 : ∀ (m39 : Mm), f_Reader_isNumber_J39 (ly_z L) o m39 = some res → GW E L A 3 0 0 Q m39 39 [(0, .ref (ly_a L o))] [] := by
    intro m39 hf0
    unfold f_Reader_isNumber_J39 at hf0
    refine gw_aload_n C 0 d_Reader_isNumber_39 rfl rfl ?_
    refine gw_iconst C (2 : Int32) d_Reader_isNumber_40 (by decide) ?_
    obtain ⟨q41, hq41, hf0⟩ := mx_bd hf0
    refine gw_callI C (c_Reader_fail _ hg k_o_0 hq41) d_Reader_isNumber_41 1 qw_568 qw_570 qs_4 qw_2 qw_571 k_o_0 (by decide) rfl hd_Reader_fail rfl rfl (Nat.le_of_ble_eq_true rfl) ⟨rfl, rfl, Nat.le_of_ble_eq_true rfl, Nat.le_of_ble_eq_true rfl⟩ ⟨Nat.zero_le _, Nat.zero_le _⟩ ?_
    refine gw_if_eq C 51 d_Reader_isNumber_44 (by decide) (fun hc => ?_) (fun hc => ?_)
    · replace hf0 := mx_t hc hf0
      refine gw_iconst C (0 : Int32) d_Reader_isNumber_51 (by decide) ?_
      exact en_z hN (Or.inl rfl) hf0 d_Reader_isNumber_52
    · replace hf0 := mx_f hc hf0
      refine gw_iconst C (1 : Int32) d_Reader_isNumber_47 (by decide) ?_
      refine gw_goto C 52 d_Reader_isNumber_48 (by decide) ?_
      exact en_z hN (Or.inr rfl) hf0 d_Reader_isNumber_52
  refine gw_aload_n C 0 d_Reader_isNumber_0 rfl rfl ?_
  refine gw_getA C 0 d_Reader_isNumber_1 k_o_0 (by decide) i_Reader rfl rfl (by decide) qw_287 rfl rfl (o + 1) rfl ?_
  refine gw_getIN C 4 d_Reader_isNumber_4 k_o_1 (by decide) i_Tokens rfl rfl (by decide) qw_60 rfl rfl ?_
  refine gw_iconst C (2 : Int32) d_Reader_isNumber_7 (by decide) ?_
  refine gw_icmp_eq C 17 d_Reader_isNumber_8 (by decide) (fun hc => ?_) (fun hc => ?_)
  · replace hf0 := mx_t hc hf0
    refine gw_aload_n C 0 d_Reader_isNumber_17 rfl rfl ?_
    refine gw_getA C 0 d_Reader_isNumber_18 k_o_0 (by decide) i_Reader rfl rfl (by decide) qw_287 rfl rfl (o + 1) rfl ?_
    refine gw_getIN C 6 d_Reader_isNumber_21 k_o_1 (by decide) i_Tokens rfl rfl (by decide) qw_65 rfl rfl ?_
    refine gw_iload_n C 1 d_Reader_isNumber_24 rfl rfl ?_
    refine gw_icmp_lt C 39 d_Reader_isNumber_25 (by decide) (fun hc => ?_) (fun hc => ?_)
    · replace hf0 := mx_t hc hf0
      exact gw_go [0] (hj39 _ hf0) rfl
    · replace hf0 := mx_f hc hf0
      refine gw_aload_n C 0 d_Reader_isNumber_28 rfl rfl ?_
      refine gw_getA C 0 d_Reader_isNumber_29 k_o_0 (by decide) i_Reader rfl rfl (by decide) qw_287 rfl rfl (o + 1) rfl ?_
      refine gw_getIN C 6 d_Reader_isNumber_32 k_o_1 (by decide) i_Tokens rfl rfl (by decide) qw_65 rfl rfl ?_
      refine gw_iload_n C 2 d_Reader_isNumber_35 rfl rfl ?_
      refine gw_icmp_le C 47 d_Reader_isNumber_36 (by decide) (fun hc => ?_) (fun hc => ?_)
      · replace hf0 := mx_t hc hf0
        refine gw_iconst C (1 : Int32) d_Reader_isNumber_47 (by decide) ?_
        refine gw_goto C 52 d_Reader_isNumber_48 (by decide) ?_
        exact en_z hN (Or.inr rfl) hf0 d_Reader_isNumber_52
      · replace hf0 := mx_f hc hf0
        exact gw_go [0] (hj39 _ hf0) rfl
  · replace hf0 := mx_f hc hf0
    refine gw_aload_n C 0 d_Reader_isNumber_11 rfl rfl ?_
    refine gw_iconst C (1 : Int32) d_Reader_isNumber_12 (by decide) ?_
    obtain ⟨q13, hq13, hf0⟩ := mx_bd hf0
    refine gw_callI C (c_Reader_fail _ hg k_o_0 hq13) d_Reader_isNumber_13 1 qw_568 qw_570 qs_4 qw_2 qw_571 k_o_0 (by decide) rfl hd_Reader_fail rfl rfl (Nat.le_of_ble_eq_true rfl) ⟨rfl, rfl, Nat.le_of_ble_eq_true rfl, Nat.le_of_ble_eq_true rfl⟩ ⟨Nat.zero_le _, Nat.zero_le _⟩ ?_
    obtain ⟨y16, hy16, hf0⟩ := mx_bd hf0
    obtain ⟨zy16, ey16⟩ := mx_zb hy16
    refine gw_topi ey16 ?_
    exact en_z hN zy16 hf0 d_Reader_isNumber_16

/-! NameHat.Tokens.isWord(I)Z -/
abbrev b_Tokens_isWord : ByteArray := prog_11_method_7_code
def y_Tokens_isWord : MethodName := ⟨"NameHat$Tokens", "isWord", "(I)Z"⟩
abbrev rm_Tokens_isWord : Room := { frames := 0, cells := 0, slots := 0, locals := 0 }
theorem hd_Tokens_isWord : y_Tokens_isWord.cls ≠ "java/lang/invoke/MethodHandle" ∧ y_Tokens_isWord.cls ≠ "java/lang/invoke/VarHandle" ∧ (parseMethodDescriptor y_Tokens_isWord.desc).map (fun d => d.parameters.length) = some 1 := by decide +kernel
theorem d_Tokens_isWord_0 : decode b_Tokens_isWord 0 = .ok (.aload_n 0, 1) := by decide +kernel
theorem d_Tokens_isWord_1 : decode b_Tokens_isWord 1 = .ok (.getfield 46, 3) := by decide +kernel
theorem d_Tokens_isWord_4 : decode b_Tokens_isWord 4 = .ok (.iconst 1, 1) := by decide +kernel
theorem d_Tokens_isWord_5 : decode b_Tokens_isWord 5 = .ok (.if_icmp .ne 15, 3) := by decide +kernel
theorem d_Tokens_isWord_8 : decode b_Tokens_isWord 8 = .ok (.aload_n 0, 1) := by decide +kernel
theorem d_Tokens_isWord_9 : decode b_Tokens_isWord 9 = .ok (.getfield 43, 3) := by decide +kernel
theorem d_Tokens_isWord_12 : decode b_Tokens_isWord 12 = .ok (.iload_n 1, 1) := by decide +kernel
theorem d_Tokens_isWord_13 : decode b_Tokens_isWord 13 = .ok (.if_icmp .ne 7, 3) := by decide +kernel
theorem d_Tokens_isWord_16 : decode b_Tokens_isWord 16 = .ok (.iconst 1, 1) := by decide +kernel
theorem d_Tokens_isWord_17 : decode b_Tokens_isWord 17 = .ok (.goto 4, 3) := by decide +kernel
theorem d_Tokens_isWord_20 : decode b_Tokens_isWord 20 = .ok (.iconst 0, 1) := by decide +kernel
theorem d_Tokens_isWord_21 : decode b_Tokens_isWord 21 = .ok (.ireturn, 1) := by decide +kernel
noncomputable def f_Tokens_isWord (z : Nat → Nat) (σ : Mm) (o : Nat) (p1 : Int32) : Option (Int32) :=
  if (σ.1 o 4) = (1 : Int32) then (
    if (σ.1 o 8) = p1 then (
      some (1 : Int32)
    ) else (
      some (0 : Int32)
    )
  ) else (
    some (0 : Int32)
  )
set_option maxHeartbeats 4000000 in
set_option maxRecDepth 100000 in
theorem c_Tokens_isWord (l : Launch) {L : Ly} (hg : gd_ok L) {σ : Mm} {o : Nat} {p1 : Int32} (k_o_0 : ly_k L o = 8) {res : Int32} (hf0 : f_Tokens_isWord (ly_z L) σ o p1 = some res) : CtI l y_Tokens_isWord b_Tokens_isWord 2 (some .boolean) rm_Tokens_isWord L [.ref (ly_a L o), .int p1] σ res σ := by
  refine ct_z hg (by decide) (Nat.le_of_ble_eq_true rfl) ?_
  intro E A Q hE C hN
  subst hE
  unfold f_Tokens_isWord at hf0
  show GW E L A 2 0 0 Q σ 0 [(0, .ref (ly_a L o)), (1, .int p1)] []
  refine gw_aload_n C 0 d_Tokens_isWord_0 rfl rfl ?_
  refine gw_getI C 4 d_Tokens_isWord_1 k_o_0 (by decide) i_Tokens rfl rfl (by decide) qw_61 rfl rfl ?_
  refine gw_iconst C (1 : Int32) d_Tokens_isWord_4 (by decide) ?_
  refine gw_icmp_ne C 20 d_Tokens_isWord_5 (by decide) (fun hc => ?_) (fun hc => ?_)
  · replace hf0 := mx_f hc hf0
    refine gw_iconst C (0 : Int32) d_Tokens_isWord_20 (by decide) ?_
    exact en_zp hN (Or.inl rfl) hf0 d_Tokens_isWord_21
  · replace hf0 := mx_t hc hf0
    refine gw_aload_n C 0 d_Tokens_isWord_8 rfl rfl ?_
    refine gw_getI C 8 d_Tokens_isWord_9 k_o_0 (by decide) i_Tokens rfl rfl (by decide) qw_68 rfl rfl ?_
    refine gw_iload_n C 1 d_Tokens_isWord_12 rfl rfl ?_
    refine gw_icmp_ne C 20 d_Tokens_isWord_13 (by decide) (fun hc => ?_) (fun hc => ?_)
    · replace hf0 := mx_f hc hf0
      refine gw_iconst C (0 : Int32) d_Tokens_isWord_20 (by decide) ?_
      exact en_zp hN (Or.inl rfl) hf0 d_Tokens_isWord_21
    · replace hf0 := mx_t hc hf0
      refine gw_iconst C (1 : Int32) d_Tokens_isWord_16 (by decide) ?_
      refine gw_goto C 21 d_Tokens_isWord_17 (by decide) ?_
      exact en_zp hN (Or.inr rfl) hf0 d_Tokens_isWord_21

/-! NameHat.Reader.nameLine()Z -/
abbrev b_Reader_nameLine : ByteArray := prog_6_method_10_code
def y_Reader_nameLine : MethodName := ⟨"NameHat$Reader", "nameLine", "()Z"⟩
abbrev rm_Reader_nameLine : Room := { frames := 13, cells := 0, slots := 0, locals := 468 }
theorem hd_Reader_nameLine : y_Reader_nameLine.cls ≠ "java/lang/invoke/MethodHandle" ∧ y_Reader_nameLine.cls ≠ "java/lang/invoke/VarHandle" ∧ (parseMethodDescriptor y_Reader_nameLine.desc).map (fun d => d.parameters.length) = some 0 := by decide +kernel
theorem d_Reader_nameLine_0 : decode b_Reader_nameLine 0 = .ok (.aload_n 0, 1) := by decide +kernel
theorem d_Reader_nameLine_1 : decode b_Reader_nameLine 1 = .ok (.getfield 21, 3) := by decide +kernel
theorem d_Reader_nameLine_4 : decode b_Reader_nameLine 4 = .ok (.getfield 84, 3) := by decide +kernel
theorem d_Reader_nameLine_7 : decode b_Reader_nameLine 7 = .ok (.astore_n 1, 1) := by decide +kernel
theorem d_Reader_nameLine_8 : decode b_Reader_nameLine 8 = .ok (.aload_n 1, 1) := by decide +kernel
theorem d_Reader_nameLine_9 : decode b_Reader_nameLine 9 = .ok (.getfield 88, 3) := by decide +kernel
theorem d_Reader_nameLine_12 : decode b_Reader_nameLine 12 = .ok (.invokevirtual 131, 3) := by decide +kernel
theorem d_Reader_nameLine_15 : decode b_Reader_nameLine 15 = .ok (.ifCond .eq 9, 3) := by decide +kernel
theorem d_Reader_nameLine_18 : decode b_Reader_nameLine 18 = .ok (.aload_n 0, 1) := by decide +kernel
theorem d_Reader_nameLine_19 : decode b_Reader_nameLine 19 = .ok (.iconst 4, 1) := by decide +kernel
theorem d_Reader_nameLine_20 : decode b_Reader_nameLine 20 = .ok (.invokevirtual 71, 3) := by decide +kernel
theorem d_Reader_nameLine_23 : decode b_Reader_nameLine 23 = .ok (.ireturn, 1) := by decide +kernel
theorem d_Reader_nameLine_24 : decode b_Reader_nameLine 24 = .ok (.aload_n 0, 1) := by decide +kernel
theorem d_Reader_nameLine_25 : decode b_Reader_nameLine 25 = .ok (.getfield 12, 3) := by decide +kernel
theorem d_Reader_nameLine_28 : decode b_Reader_nameLine 28 = .ok (.invokevirtual 46, 3) := by decide +kernel
theorem d_Reader_nameLine_31 : decode b_Reader_nameLine 31 = .ok (.aload_n 0, 1) := by decide +kernel
theorem d_Reader_nameLine_32 : decode b_Reader_nameLine 32 = .ok (.invokevirtual 134, 3) := by decide +kernel
theorem d_Reader_nameLine_35 : decode b_Reader_nameLine 35 = .ok (.ifCond .ne 5, 3) := by decide +kernel
theorem d_Reader_nameLine_38 : decode b_Reader_nameLine 38 = .ok (.iconst 0, 1) := by decide +kernel
theorem d_Reader_nameLine_39 : decode b_Reader_nameLine 39 = .ok (.ireturn, 1) := by decide +kernel
theorem d_Reader_nameLine_40 : decode b_Reader_nameLine 40 = .ok (.aload_n 1, 1) := by decide +kernel
theorem d_Reader_nameLine_41 : decode b_Reader_nameLine 41 = .ok (.getfield 88, 3) := by decide +kernel
theorem d_Reader_nameLine_44 : decode b_Reader_nameLine 44 = .ok (.aload_n 0, 1) := by decide +kernel
theorem d_Reader_nameLine_45 : decode b_Reader_nameLine 45 = .ok (.getfield 12, 3) := by decide +kernel
theorem d_Reader_nameLine_48 : decode b_Reader_nameLine 48 = .ok (.getfield 94, 3) := by decide +kernel
theorem d_Reader_nameLine_51 : decode b_Reader_nameLine 51 = .ok (.invokevirtual 137, 3) := by decide +kernel
theorem d_Reader_nameLine_54 : decode b_Reader_nameLine 54 = .ok (.istore_n 2, 1) := by decide +kernel
theorem d_Reader_nameLine_55 : decode b_Reader_nameLine 55 = .ok (.aload_n 0, 1) := by decide +kernel
theorem d_Reader_nameLine_56 : decode b_Reader_nameLine 56 = .ok (.getfield 12, 3) := by decide +kernel
theorem d_Reader_nameLine_59 : decode b_Reader_nameLine 59 = .ok (.invokevirtual 46, 3) := by decide +kernel
theorem d_Reader_nameLine_62 : decode b_Reader_nameLine 62 = .ok (.aload_n 0, 1) := by decide +kernel
theorem d_Reader_nameLine_63 : decode b_Reader_nameLine 63 = .ok (.iconst 0, 1) := by decide +kernel
theorem d_Reader_nameLine_64 : decode b_Reader_nameLine 64 = .ok (.bipush 99, 2) := by decide +kernel
theorem d_Reader_nameLine_66 : decode b_Reader_nameLine 66 = .ok (.invokevirtual 140, 3) := by decide +kernel
theorem d_Reader_nameLine_69 : decode b_Reader_nameLine 69 = .ok (.ifCond .ne 5, 3) := by decide +kernel
theorem d_Reader_nameLine_72 : decode b_Reader_nameLine 72 = .ok (.iconst 0, 1) := by decide +kernel
theorem d_Reader_nameLine_73 : decode b_Reader_nameLine 73 = .ok (.ireturn, 1) := by decide +kernel
theorem d_Reader_nameLine_74 : decode b_Reader_nameLine 74 = .ok (.aload_n 1, 1) := by decide +kernel
theorem d_Reader_nameLine_75 : decode b_Reader_nameLine 75 = .ok (.getfield 144, 3) := by decide +kernel
theorem d_Reader_nameLine_78 : decode b_Reader_nameLine 78 = .ok (.iload_n 2, 1) := by decide +kernel
theorem d_Reader_nameLine_79 : decode b_Reader_nameLine 79 = .ok (.aload_n 0, 1) := by decide +kernel
theorem d_Reader_nameLine_80 : decode b_Reader_nameLine 80 = .ok (.getfield 12, 3) := by decide +kernel
theorem d_Reader_nameLine_83 : decode b_Reader_nameLine 83 = .ok (.getfield 75, 3) := by decide +kernel
theorem d_Reader_nameLine_86 : decode b_Reader_nameLine 86 = .ok (.invokevirtual 148, 3) := by decide +kernel
theorem d_Reader_nameLine_89 : decode b_Reader_nameLine 89 = .ok (.aload_n 0, 1) := by decide +kernel
theorem d_Reader_nameLine_90 : decode b_Reader_nameLine 90 = .ok (.getfield 12, 3) := by decide +kernel
theorem d_Reader_nameLine_93 : decode b_Reader_nameLine 93 = .ok (.invokevirtual 46, 3) := by decide +kernel
theorem d_Reader_nameLine_96 : decode b_Reader_nameLine 96 = .ok (.aload_n 0, 1) := by decide +kernel
theorem d_Reader_nameLine_97 : decode b_Reader_nameLine 97 = .ok (.getfield 12, 3) := by decide +kernel
theorem d_Reader_nameLine_100 : decode b_Reader_nameLine 100 = .ok (.iconst 1, 1) := by decide +kernel
theorem d_Reader_nameLine_101 : decode b_Reader_nameLine 101 = .ok (.invokevirtual 155, 3) := by decide +kernel
theorem d_Reader_nameLine_104 : decode b_Reader_nameLine 104 = .ok (.ifCond .ne 14, 3) := by decide +kernel
theorem d_Reader_nameLine_107 : decode b_Reader_nameLine 107 = .ok (.aload_n 0, 1) := by decide +kernel
theorem d_Reader_nameLine_108 : decode b_Reader_nameLine 108 = .ok (.getfield 12, 3) := by decide +kernel
theorem d_Reader_nameLine_111 : decode b_Reader_nameLine 111 = .ok (.iconst 2, 1) := by decide +kernel
theorem d_Reader_nameLine_112 : decode b_Reader_nameLine 112 = .ok (.invokevirtual 155, 3) := by decide +kernel
theorem d_Reader_nameLine_115 : decode b_Reader_nameLine 115 = .ok (.ifCond .eq 34, 3) := by decide +kernel
theorem d_Reader_nameLine_118 : decode b_Reader_nameLine 118 = .ok (.aload_n 1, 1) := by decide +kernel
theorem d_Reader_nameLine_119 : decode b_Reader_nameLine 119 = .ok (.getfield 158, 3) := by decide +kernel
theorem d_Reader_nameLine_122 : decode b_Reader_nameLine 122 = .ok (.iload_n 2, 1) := by decide +kernel
theorem d_Reader_nameLine_123 : decode b_Reader_nameLine 123 = .ok (.aload_n 0, 1) := by decide +kernel
theorem d_Reader_nameLine_124 : decode b_Reader_nameLine 124 = .ok (.getfield 12, 3) := by decide +kernel
theorem d_Reader_nameLine_127 : decode b_Reader_nameLine 127 = .ok (.iconst 1, 1) := by decide +kernel
theorem d_Reader_nameLine_128 : decode b_Reader_nameLine 128 = .ok (.invokevirtual 155, 3) := by decide +kernel
theorem d_Reader_nameLine_131 : decode b_Reader_nameLine 131 = .ok (.ifCond .eq 7, 3) := by decide +kernel
theorem d_Reader_nameLine_134 : decode b_Reader_nameLine 134 = .ok (.iconst 1, 1) := by decide +kernel
theorem d_Reader_nameLine_135 : decode b_Reader_nameLine 135 = .ok (.goto 4, 3) := by decide +kernel
theorem d_Reader_nameLine_138 : decode b_Reader_nameLine 138 = .ok (.iconst 2, 1) := by decide +kernel
theorem d_Reader_nameLine_139 : decode b_Reader_nameLine 139 = .ok (.invokevirtual 148, 3) := by decide +kernel
theorem d_Reader_nameLine_142 : decode b_Reader_nameLine 142 = .ok (.aload_n 0, 1) := by decide +kernel
theorem d_Reader_nameLine_143 : decode b_Reader_nameLine 143 = .ok (.getfield 12, 3) := by decide +kernel
theorem d_Reader_nameLine_146 : decode b_Reader_nameLine 146 = .ok (.invokevirtual 46, 3) := by decide +kernel
theorem d_Reader_nameLine_149 : decode b_Reader_nameLine 149 = .ok (.iconst 1, 1) := by decide +kernel
theorem d_Reader_nameLine_150 : decode b_Reader_nameLine 150 = .ok (.ireturn, 1) := by decide +kernel
noncomputable def f_Reader_nameLine_J139 (z : Nat → Nat) (o : Nat) (t139_1 : Int32) (t139_2 : Int32) (m139 : Mm) : Option (Int32 × Mm) :=
  (f_Row_put z m139 (o + 12) t139_1 t139_2).bind fun q139 =>
  (f_Tokens_step z q139 (o + 1)).bind fun q146 =>
  some ((1 : Int32), q146)
noncomputable def f_Reader_nameLine_J118 (z : Nat → Nat) (o : Nat) (v2 : Int32) (m118 : Mm) : Option (Int32 × Mm) :=
  (f_Tokens_isWord z m118 (o + 1) (1 : Int32)).bind fun q128 =>
  if q128 = 0 then (
    f_Reader_nameLine_J139 z o v2 (2 : Int32) m118
  ) else (
    f_Reader_nameLine_J139 z o v2 (1 : Int32) m118
  )
noncomputable def f_Reader_nameLine (z : Nat → Nat) (σ : Mm) (o : Nat) : Option (Int32 × Mm) :=
  (f_Names_isFull z σ (o + 6)).bind fun q12 =>
  if q12 = 0 then (
    (f_Tokens_step z σ (o + 1)).bind fun q28 =>
    (f_Reader_isNewName z q28 o).bind fun q32 =>
    if q32.1 = 0 then (
      some ((0 : Int32), q32.2)
    ) else (
      (f_Names_add z q32.2 (o + 6) (q32.2.2 (o + 1) 7)).bind fun q51 =>
      (f_Tokens_step z q51.2 (o + 1)).bind fun q59 =>
      (f_Reader_isNumber z q59 o (0 : Int32) (99 : Int32)).bind fun q66 =>
      if q66.1 = 0 then (
        some ((0 : Int32), q66.2)
      ) else (
        (f_Row_put z q66.2 (o + 10) q51.1 (q66.2.1 (o + 1) 6)).bind fun q86 =>
        (f_Tokens_step z q86 (o + 1)).bind fun q93 =>
        (f_Tokens_isWord z q93 (o + 1) (1 : Int32)).bind fun q101 =>
        if q101 = 0 then (
          (f_Tokens_isWord z q93 (o + 1) (2 : Int32)).bind fun q112 =>
          if q112 = 0 then (
            some ((1 : Int32), q93)
          ) else (
            f_Reader_nameLine_J118 z o q51.1 q93
          )
        ) else (
          f_Reader_nameLine_J118 z o q51.1 q93
        )
      )
    )
  ) else (
    (f_Reader_fail z σ o (4 : Int32)).bind fun q20 =>
    (mm_zb q20.1).bind fun y23 =>
    some (y23, q20.2)
  )
set_option maxHeartbeats 4000000 in
set_option maxRecDepth 100000 in
theorem c_Reader_nameLine (l : Launch) {L : Ly} (hg : gd_ok L) {σ : Mm} {o : Nat} (k_o_0 : ly_k L o = 9) {res : Int32 × Mm} (hf0 : f_Reader_nameLine (ly_z L) σ o = some res) : CtI l y_Reader_nameLine b_Reader_nameLine 3 (some .boolean) rm_Reader_nameLine L [.ref (ly_a L o)] σ res.1 res.2 := by
  refine ct_z hg (by decide) (Nat.le_of_ble_eq_true rfl) ?_
  intro E A Q hE C hN
  subst hE
  have k_o_4 : ly_k L (o + 4) = 4 := gd_Reader_draft hg k_o_0
  have k_o_5 : ly_k L (o + 5) = 2 := gd_State_island hg k_o_4
  have k_o_12 : ly_k L (o + 12) = 0 := gd_Island_kinds hg k_o_5
  have k_o_1 : ly_k L (o + 1) = 8 := gd_Reader_tokens hg k_o_0
  have k_o_6 : ly_k L (o + 6) = 1 := gd_Island_surnames hg k_o_5
  have k_o_10 : ly_k L (o + 10) = 0 := gd_Island_worths hg k_o_5
  unfold f_Reader_nameLine at hf0
  show GW E L A 3 0 0 Q σ 0 [(0, .ref (ly_a L o))] []
  have hj139 : ∀ (t139_1 : Int32) (t139_2 : Int32) (m139 : Mm), f_Reader_nameLine_J139 (ly_z L) o t139_1 t139_2 m139 = some res → GW E L A 3 0 0 Q m139 139 [(0, .ref (ly_a L o))] [.int t139_2, .int t139_1, .ref (ly_a L (o + 12))] := by
    intro t139_1 t139_2 m139 hf0
    unfold f_Reader_nameLine_J139 at hf0
    obtain ⟨q139, hq139, hf0⟩ := mx_bd hf0
    refine gw_callV C (c_Row_put _ hg k_o_12 hq139) d_Reader_nameLine_139 2 qw_592 qw_461 qw_462 qw_4 qw_463 k_o_12 (by decide) rfl hd_Row_put rfl rfl (Nat.le_of_ble_eq_true rfl) ⟨rfl, rfl, Nat.le_of_ble_eq_true rfl, Nat.le_of_ble_eq_true rfl⟩ ⟨Nat.zero_le _, Nat.zero_le _⟩ ?_
    refine gw_aload_n C 0 d_Reader_nameLine_142 rfl rfl ?_
    refine gw_getA C 0 d_Reader_nameLine_143 k_o_0 (by decide) i_Reader rfl rfl (by decide) qw_287 rfl rfl (o + 1) rfl ?_
    obtain ⟨q146, hq146, hf0⟩ := mx_bd hf0
    refine gw_callV C (c_Tokens_step _ hg k_o_1 hq146) d_Reader_nameLine_146 0 qw_481 qw_482 qw_483 qw_3 qw_484 k_o_1 (by decide) rfl hd_Tokens_step rfl rfl (Nat.le_of_ble_eq_true rfl) ⟨rfl, rfl, Nat.le_of_ble_eq_true rfl, Nat.le_of_ble_eq_true rfl⟩ ⟨Nat.zero_le _, Nat.zero_le _⟩ ?_
    refine gw_iconst C (1 : Int32) d_Reader_nameLine_149 (by decide) ?_
    exact en_z hN (Or.inr rfl) hf0 d_Reader_nameLine_150
  have hj118 : ∀ (v2 : Int32) (m118 : Mm), f_Reader_nameLine_J118 (ly_z L) o v2 m118 = some res → GW E L A 3 0 0 Q m118 118 [(0, .ref (ly_a L o)), (1, .ref (ly_a L (o + 5))), (2, .int v2)] [] := by
    intro v2 m118 hf0
    unfold f_Reader_nameLine_J118 at hf0
    refine gw_aload_n C 1 d_Reader_nameLine_118 rfl rfl ?_
    refine gw_getAN C 3 d_Reader_nameLine_119 k_o_5 (by decide) i_Island rfl rfl (by decide) qw_143 rfl rfl (o + 12) rfl ?_
    refine gw_iload_n C 2 d_Reader_nameLine_122 rfl rfl ?_
    refine gw_aload_n C 0 d_Reader_nameLine_123 rfl rfl ?_
    refine gw_getA C 0 d_Reader_nameLine_124 k_o_0 (by decide) i_Reader rfl rfl (by decide) qw_287 rfl rfl (o + 1) rfl ?_
    refine gw_iconst C (1 : Int32) d_Reader_nameLine_127 (by decide) ?_
    obtain ⟨q128, hq128, hf0⟩ := mx_bd hf0
    refine gw_callI C (c_Tokens_isWord _ hg k_o_1 hq128) d_Reader_nameLine_128 1 qw_593 qw_594 qw_595 qw_3 qw_596 k_o_1 (by decide) rfl hd_Tokens_isWord rfl rfl (Nat.le_of_ble_eq_true rfl) ⟨rfl, rfl, Nat.le_of_ble_eq_true rfl, Nat.le_of_ble_eq_true rfl⟩ ⟨Nat.zero_le _, Nat.zero_le _⟩ ?_
    refine gw_if_eq C 138 d_Reader_nameLine_131 (by decide) (fun hc => ?_) (fun hc => ?_)
    · replace hf0 := mx_t hc hf0
      refine gw_iconst C (2 : Int32) d_Reader_nameLine_138 (by decide) ?_
      exact gw_go [0] (hj139 _ _ _ hf0) rfl
    · replace hf0 := mx_f hc hf0
      refine gw_iconst C (1 : Int32) d_Reader_nameLine_134 (by decide) ?_
      refine gw_goto C 139 d_Reader_nameLine_135 (by decide) ?_
      exact gw_go [0] (hj139 _ _ _ hf0) rfl
  refine gw_aload_n C 0 d_Reader_nameLine_0 rfl rfl ?_
  refine gw_getA C 1 d_Reader_nameLine_1 k_o_0 (by decide) i_Reader rfl rfl (by decide) qw_289 rfl rfl (o + 4) rfl ?_
  refine gw_getAN C 0 d_Reader_nameLine_4 k_o_4 (by decide) i_State rfl rfl (by decide) qw_236 rfl rfl (o + 5) rfl ?_
  refine gw_astore_n C [(1, .ref (ly_a L (o + 5))), (0, .ref (ly_a L o))] d_Reader_nameLine_7 rfl (by decide) rfl ?_
  refine gw_aload_n C 0 d_Reader_nameLine_8 rfl rfl ?_
  refine gw_getAN C 0 d_Reader_nameLine_9 k_o_5 (by decide) i_Island rfl rfl (by decide) qw_127 rfl rfl (o + 6) rfl ?_
  obtain ⟨q12, hq12, hf0⟩ := mx_bd hf0
  refine gw_callI C (c_Names_isFull _ hg k_o_6 hq12) d_Reader_nameLine_12 0 qw_564 qw_565 qw_566 qw_7 qw_567 k_o_6 (by decide) rfl hd_Names_isFull rfl rfl (Nat.le_of_ble_eq_true rfl) ⟨rfl, rfl, Nat.le_of_ble_eq_true rfl, Nat.le_of_ble_eq_true rfl⟩ ⟨Nat.zero_le _, Nat.zero_le _⟩ ?_
  refine gw_if_eq C 24 d_Reader_nameLine_15 (by decide) (fun hc => ?_) (fun hc => ?_)
  · replace hf0 := mx_t hc hf0
    refine gw_aload_n C 1 d_Reader_nameLine_24 rfl rfl ?_
    refine gw_getA C 0 d_Reader_nameLine_25 k_o_0 (by decide) i_Reader rfl rfl (by decide) qw_287 rfl rfl (o + 1) rfl ?_
    obtain ⟨q28, hq28, hf0⟩ := mx_bd hf0
    refine gw_callV C (c_Tokens_step _ hg k_o_1 hq28) d_Reader_nameLine_28 0 qw_481 qw_482 qw_483 qw_3 qw_484 k_o_1 (by decide) rfl hd_Tokens_step rfl rfl (Nat.le_of_ble_eq_true rfl) ⟨rfl, rfl, Nat.le_of_ble_eq_true rfl, Nat.le_of_ble_eq_true rfl⟩ ⟨Nat.zero_le _, Nat.zero_le _⟩ ?_
    refine gw_aload_n C 1 d_Reader_nameLine_31 rfl rfl ?_
    obtain ⟨q32, hq32, hf0⟩ := mx_bd hf0
    refine gw_callI C (c_Reader_isNewName _ hg k_o_0 hq32) d_Reader_nameLine_32 0 qw_572 qw_574 qs_5 qw_2 qw_575 k_o_0 (by decide) rfl hd_Reader_isNewName rfl rfl (Nat.le_of_ble_eq_true rfl) ⟨rfl, rfl, Nat.le_of_ble_eq_true rfl, Nat.le_of_ble_eq_true rfl⟩ ⟨Nat.zero_le _, Nat.zero_le _⟩ ?_
    refine gw_if_ne C 40 d_Reader_nameLine_35 (by decide) (fun hc => ?_) (fun hc => ?_)
    · replace hf0 := mx_f hc hf0
      refine gw_aload_n C 0 d_Reader_nameLine_40 rfl rfl ?_
      refine gw_getAN C 0 d_Reader_nameLine_41 k_o_5 (by decide) i_Island rfl rfl (by decide) qw_127 rfl rfl (o + 6) rfl ?_
      refine gw_aload_n C 1 d_Reader_nameLine_44 rfl rfl ?_
      refine gw_getA C 0 d_Reader_nameLine_45 k_o_0 (by decide) i_Reader rfl rfl (by decide) qw_287 rfl rfl (o + 1) rfl ?_
      refine gw_getLN C 7 d_Reader_nameLine_48 k_o_1 (by decide) i_Tokens rfl rfl (by decide) qw_67 rfl rfl ?_
      obtain ⟨q51, hq51, hf0⟩ := mx_bd hf0
      refine gw_callI C (c_Names_add _ hg k_o_6 hq51) d_Reader_nameLine_51 1 qw_584 qw_585 qw_586 qw_7 qw_587 k_o_6 (by decide) rfl hd_Names_add rfl rfl (Nat.le_of_ble_eq_true rfl) ⟨rfl, rfl, Nat.le_of_ble_eq_true rfl, Nat.le_of_ble_eq_true rfl⟩ ⟨Nat.zero_le _, Nat.zero_le _⟩ ?_
      refine gw_istore_n C [(2, .int q51.1), (1, .ref (ly_a L (o + 5))), (0, .ref (ly_a L o))] d_Reader_nameLine_54 rfl (by decide) rfl ?_
      refine gw_aload_n C 2 d_Reader_nameLine_55 rfl rfl ?_
      refine gw_getA C 0 d_Reader_nameLine_56 k_o_0 (by decide) i_Reader rfl rfl (by decide) qw_287 rfl rfl (o + 1) rfl ?_
      obtain ⟨q59, hq59, hf0⟩ := mx_bd hf0
      refine gw_callV C (c_Tokens_step _ hg k_o_1 hq59) d_Reader_nameLine_59 0 qw_481 qw_482 qw_483 qw_3 qw_484 k_o_1 (by decide) rfl hd_Tokens_step rfl rfl (Nat.le_of_ble_eq_true rfl) ⟨rfl, rfl, Nat.le_of_ble_eq_true rfl, Nat.le_of_ble_eq_true rfl⟩ ⟨Nat.zero_le _, Nat.zero_le _⟩ ?_
      refine gw_aload_n C 2 d_Reader_nameLine_62 rfl rfl ?_
      refine gw_iconst C (0 : Int32) d_Reader_nameLine_63 (by decide) ?_
      refine gw_bipush C (99 : Int32) d_Reader_nameLine_64 (by decide) ?_
      obtain ⟨q66, hq66, hf0⟩ := mx_bd hf0
      refine gw_callI C (c_Reader_isNumber _ hg k_o_0 hq66) d_Reader_nameLine_66 2 qw_588 qw_590 qs_7 qw_2 qw_591 k_o_0 (by decide) rfl hd_Reader_isNumber rfl rfl (Nat.le_of_ble_eq_true rfl) ⟨rfl, rfl, Nat.le_of_ble_eq_true rfl, Nat.le_of_ble_eq_true rfl⟩ ⟨Nat.zero_le _, Nat.zero_le _⟩ ?_
      refine gw_if_ne C 74 d_Reader_nameLine_69 (by decide) (fun hc => ?_) (fun hc => ?_)
      · replace hf0 := mx_f hc hf0
        refine gw_aload_n C 1 d_Reader_nameLine_74 rfl rfl ?_
        refine gw_getAN C 2 d_Reader_nameLine_75 k_o_5 (by decide) i_Island rfl rfl (by decide) qw_140 rfl rfl (o + 10) rfl ?_
        refine gw_iload_n C 0 d_Reader_nameLine_78 rfl rfl ?_
        refine gw_aload_n C 2 d_Reader_nameLine_79 rfl rfl ?_
        refine gw_getA C 0 d_Reader_nameLine_80 k_o_0 (by decide) i_Reader rfl rfl (by decide) qw_287 rfl rfl (o + 1) rfl ?_
        refine gw_getIN C 6 d_Reader_nameLine_83 k_o_1 (by decide) i_Tokens rfl rfl (by decide) qw_65 rfl rfl ?_
        obtain ⟨q86, hq86, hf0⟩ := mx_bd hf0
        refine gw_callV C (c_Row_put _ hg k_o_10 hq86) d_Reader_nameLine_86 2 qw_592 qw_461 qw_462 qw_4 qw_463 k_o_10 (by decide) rfl hd_Row_put rfl rfl (Nat.le_of_ble_eq_true rfl) ⟨rfl, rfl, Nat.le_of_ble_eq_true rfl, Nat.le_of_ble_eq_true rfl⟩ ⟨Nat.zero_le _, Nat.zero_le _⟩ ?_
        refine gw_aload_n C 2 d_Reader_nameLine_89 rfl rfl ?_
        refine gw_getA C 0 d_Reader_nameLine_90 k_o_0 (by decide) i_Reader rfl rfl (by decide) qw_287 rfl rfl (o + 1) rfl ?_
        obtain ⟨q93, hq93, hf0⟩ := mx_bd hf0
        refine gw_callV C (c_Tokens_step _ hg k_o_1 hq93) d_Reader_nameLine_93 0 qw_481 qw_482 qw_483 qw_3 qw_484 k_o_1 (by decide) rfl hd_Tokens_step rfl rfl (Nat.le_of_ble_eq_true rfl) ⟨rfl, rfl, Nat.le_of_ble_eq_true rfl, Nat.le_of_ble_eq_true rfl⟩ ⟨Nat.zero_le _, Nat.zero_le _⟩ ?_
        refine gw_aload_n C 2 d_Reader_nameLine_96 rfl rfl ?_
        refine gw_getA C 0 d_Reader_nameLine_97 k_o_0 (by decide) i_Reader rfl rfl (by decide) qw_287 rfl rfl (o + 1) rfl ?_
        refine gw_iconst C (1 : Int32) d_Reader_nameLine_100 (by decide) ?_
        obtain ⟨q101, hq101, hf0⟩ := mx_bd hf0
        refine gw_callI C (c_Tokens_isWord _ hg k_o_1 hq101) d_Reader_nameLine_101 1 qw_593 qw_594 qw_595 qw_3 qw_596 k_o_1 (by decide) rfl hd_Tokens_isWord rfl rfl (Nat.le_of_ble_eq_true rfl) ⟨rfl, rfl, Nat.le_of_ble_eq_true rfl, Nat.le_of_ble_eq_true rfl⟩ ⟨Nat.zero_le _, Nat.zero_le _⟩ ?_
        refine gw_if_ne C 118 d_Reader_nameLine_104 (by decide) (fun hc => ?_) (fun hc => ?_)
        · replace hf0 := mx_f hc hf0
          exact gw_go [2, 1, 0] (hj118 _ _ hf0) rfl
        · replace hf0 := mx_t hc hf0
          refine gw_aload_n C 2 d_Reader_nameLine_107 rfl rfl ?_
          refine gw_getA C 0 d_Reader_nameLine_108 k_o_0 (by decide) i_Reader rfl rfl (by decide) qw_287 rfl rfl (o + 1) rfl ?_
          refine gw_iconst C (2 : Int32) d_Reader_nameLine_111 (by decide) ?_
          obtain ⟨q112, hq112, hf0⟩ := mx_bd hf0
          refine gw_callI C (c_Tokens_isWord _ hg k_o_1 hq112) d_Reader_nameLine_112 1 qw_593 qw_594 qw_595 qw_3 qw_596 k_o_1 (by decide) rfl hd_Tokens_isWord rfl rfl (Nat.le_of_ble_eq_true rfl) ⟨rfl, rfl, Nat.le_of_ble_eq_true rfl, Nat.le_of_ble_eq_true rfl⟩ ⟨Nat.zero_le _, Nat.zero_le _⟩ ?_
          refine gw_if_eq C 149 d_Reader_nameLine_115 (by decide) (fun hc => ?_) (fun hc => ?_)
          · replace hf0 := mx_t hc hf0
            refine gw_iconst C (1 : Int32) d_Reader_nameLine_149 (by decide) ?_
            exact en_z hN (Or.inr rfl) hf0 d_Reader_nameLine_150
          · replace hf0 := mx_f hc hf0
            exact gw_go [2, 1, 0] (hj118 _ _ hf0) rfl
      · replace hf0 := mx_t hc hf0
        refine gw_iconst C (0 : Int32) d_Reader_nameLine_72 (by decide) ?_
        exact en_z hN (Or.inl rfl) hf0 d_Reader_nameLine_73
    · replace hf0 := mx_t hc hf0
      refine gw_iconst C (0 : Int32) d_Reader_nameLine_38 (by decide) ?_
      exact en_z hN (Or.inl rfl) hf0 d_Reader_nameLine_39
  · replace hf0 := mx_f hc hf0
    refine gw_aload_n C 1 d_Reader_nameLine_18 rfl rfl ?_
    refine gw_iconst C (4 : Int32) d_Reader_nameLine_19 (by decide) ?_
    obtain ⟨q20, hq20, hf0⟩ := mx_bd hf0
    refine gw_callI C (c_Reader_fail _ hg k_o_0 hq20) d_Reader_nameLine_20 1 qw_568 qw_570 qs_4 qw_2 qw_571 k_o_0 (by decide) rfl hd_Reader_fail rfl rfl (Nat.le_of_ble_eq_true rfl) ⟨rfl, rfl, Nat.le_of_ble_eq_true rfl, Nat.le_of_ble_eq_true rfl⟩ ⟨Nat.zero_le _, Nat.zero_le _⟩ ?_
    obtain ⟨y23, hy23, hf0⟩ := mx_bd hf0
    obtain ⟨zy23, ey23⟩ := mx_zb hy23
    refine gw_topi ey23 ?_
    exact en_z hN zy23 hf0 d_Reader_nameLine_23

/-! NameHat.Reader.isOneOf(LNameHat.Names;)Z -/
abbrev b_Reader_isOneOf : ByteArray := prog_6_method_8_code
def y_Reader_isOneOf : MethodName := ⟨"NameHat$Reader", "isOneOf", "(LNameHat$Names;)Z"⟩
abbrev rm_Reader_isOneOf : Room := { frames := 2, cells := 0, slots := 0, locals := 41 }
theorem hd_Reader_isOneOf : y_Reader_isOneOf.cls ≠ "java/lang/invoke/MethodHandle" ∧ y_Reader_isOneOf.cls ≠ "java/lang/invoke/VarHandle" ∧ (parseMethodDescriptor y_Reader_isOneOf.desc).map (fun d => d.parameters.length) = some 1 := by decide +kernel
theorem d_Reader_isOneOf_0 : decode b_Reader_isOneOf 0 = .ok (.aload_n 0, 1) := by decide +kernel
theorem d_Reader_isOneOf_1 : decode b_Reader_isOneOf 1 = .ok (.invokevirtual 81, 3) := by decide +kernel
theorem d_Reader_isOneOf_4 : decode b_Reader_isOneOf 4 = .ok (.ifCond .ne 5, 3) := by decide +kernel
theorem d_Reader_isOneOf_7 : decode b_Reader_isOneOf 7 = .ok (.iconst 0, 1) := by decide +kernel
theorem d_Reader_isOneOf_8 : decode b_Reader_isOneOf 8 = .ok (.ireturn, 1) := by decide +kernel
theorem d_Reader_isOneOf_9 : decode b_Reader_isOneOf 9 = .ok (.aload_n 0, 1) := by decide +kernel
theorem d_Reader_isOneOf_10 : decode b_Reader_isOneOf 10 = .ok (.aload_n 1, 1) := by decide +kernel
theorem d_Reader_isOneOf_11 : decode b_Reader_isOneOf 11 = .ok (.aload_n 0, 1) := by decide +kernel
theorem d_Reader_isOneOf_12 : decode b_Reader_isOneOf 12 = .ok (.getfield 12, 3) := by decide +kernel
theorem d_Reader_isOneOf_15 : decode b_Reader_isOneOf 15 = .ok (.getfield 94, 3) := by decide +kernel
theorem d_Reader_isOneOf_18 : decode b_Reader_isOneOf 18 = .ok (.invokevirtual 98, 3) := by decide +kernel
theorem d_Reader_isOneOf_21 : decode b_Reader_isOneOf 21 = .ok (.putfield 107, 3) := by decide +kernel
theorem d_Reader_isOneOf_24 : decode b_Reader_isOneOf 24 = .ok (.aload_n 0, 1) := by decide +kernel
theorem d_Reader_isOneOf_25 : decode b_Reader_isOneOf 25 = .ok (.getfield 107, 3) := by decide +kernel
theorem d_Reader_isOneOf_28 : decode b_Reader_isOneOf 28 = .ok (.iconst (-1), 1) := by decide +kernel
theorem d_Reader_isOneOf_29 : decode b_Reader_isOneOf 29 = .ok (.if_icmp .ne 11, 3) := by decide +kernel
theorem d_Reader_isOneOf_32 : decode b_Reader_isOneOf 32 = .ok (.aload_n 0, 1) := by decide +kernel
theorem d_Reader_isOneOf_33 : decode b_Reader_isOneOf 33 = .ok (.iconst 3, 1) := by decide +kernel
theorem d_Reader_isOneOf_34 : decode b_Reader_isOneOf 34 = .ok (.invokevirtual 71, 3) := by decide +kernel
theorem d_Reader_isOneOf_37 : decode b_Reader_isOneOf 37 = .ok (.ifCond .eq 7, 3) := by decide +kernel
theorem d_Reader_isOneOf_40 : decode b_Reader_isOneOf 40 = .ok (.iconst 1, 1) := by decide +kernel
theorem d_Reader_isOneOf_41 : decode b_Reader_isOneOf 41 = .ok (.goto 4, 3) := by decide +kernel
theorem d_Reader_isOneOf_44 : decode b_Reader_isOneOf 44 = .ok (.iconst 0, 1) := by decide +kernel
theorem d_Reader_isOneOf_45 : decode b_Reader_isOneOf 45 = .ok (.ireturn, 1) := by decide +kernel
noncomputable def f_Reader_isOneOf (z : Nat → Nat) (σ : Mm) (o : Nat) (o1 : Nat) : Option (Int32 × Mm) :=
  (f_Reader_isName z σ o).bind fun q1 =>
  if q1.1 = 0 then (
    some ((0 : Int32), q1.2)
  ) else (
    (f_Names_find z q1.2 o1 (q1.2.2 (o + 1) 7)).bind fun q18 =>
    mm_lt (kI q1.2 o 5 q18) fun m21 =>
    if (m21.1 o 5) = ((-1) : Int32) then (
      (f_Reader_fail z m21 o (3 : Int32)).bind fun q34 =>
      if q34.1 = 0 then (
        some ((0 : Int32), q34.2)
      ) else (
        some ((1 : Int32), q34.2)
      )
    ) else (
      some ((1 : Int32), m21)
    )
  )
set_option maxHeartbeats 4000000 in
set_option maxRecDepth 100000 in
theorem c_Reader_isOneOf (l : Launch) {L : Ly} (hg : gd_ok L) {σ : Mm} {o : Nat} {o1 : Nat} (k_o_0 : ly_k L o = 9) (k_o1_0 : ly_k L o1 = 1) {res : Int32 × Mm} (hf0 : f_Reader_isOneOf (ly_z L) σ o o1 = some res) : CtI l y_Reader_isOneOf b_Reader_isOneOf 2 (some .boolean) rm_Reader_isOneOf L [.ref (ly_a L o), .ref (ly_a L o1)] σ res.1 res.2 := by
  refine ct_z hg (by decide) (Nat.le_of_ble_eq_true rfl) ?_
  intro E A Q hE C hN
  subst hE
  have k_o_1 : ly_k L (o + 1) = 8 := gd_Reader_tokens hg k_o_0
  unfold f_Reader_isOneOf at hf0
  show GW E L A 2 0 0 Q σ 0 [(0, .ref (ly_a L o)), (1, .ref (ly_a L o1))] []
  refine gw_aload_n C 0 d_Reader_isOneOf_0 rfl rfl ?_
  obtain ⟨q1, hq1, hf0⟩ := mx_bd hf0
  refine gw_callI C (c_Reader_isName _ hg k_o_0 hq1) d_Reader_isOneOf_1 0 qw_576 qw_578 qs_6 qw_2 qw_579 k_o_0 (by decide) rfl hd_Reader_isName rfl rfl (Nat.le_of_ble_eq_true rfl) ⟨rfl, rfl, Nat.le_of_ble_eq_true rfl, Nat.le_of_ble_eq_true rfl⟩ ⟨Nat.zero_le _, Nat.zero_le _⟩ ?_
  refine gw_if_ne C 9 d_Reader_isOneOf_4 (by decide) (fun hc => ?_) (fun hc => ?_)
  · replace hf0 := mx_f hc hf0
    refine gw_aload_n C 0 d_Reader_isOneOf_9 rfl rfl ?_
    refine gw_aload_n C 1 d_Reader_isOneOf_10 rfl rfl ?_
    refine gw_aload_n C 0 d_Reader_isOneOf_11 rfl rfl ?_
    refine gw_getA C 0 d_Reader_isOneOf_12 k_o_0 (by decide) i_Reader rfl rfl (by decide) qw_287 rfl rfl (o + 1) rfl ?_
    refine gw_getLN C 7 d_Reader_isOneOf_15 k_o_1 (by decide) i_Tokens rfl rfl (by decide) qw_67 rfl rfl ?_
    obtain ⟨q18, hq18, hf0⟩ := mx_bd hf0
    refine gw_callI C (c_Names_find _ hg k_o1_0 hq18) d_Reader_isOneOf_18 1 qw_580 qw_581 qw_582 qw_7 qw_583 k_o1_0 (by decide) rfl hd_Names_find rfl rfl (Nat.le_of_ble_eq_true rfl) ⟨rfl, rfl, Nat.le_of_ble_eq_true rfl, Nat.le_of_ble_eq_true rfl⟩ ⟨Nat.zero_le _, Nat.zero_le _⟩ ?_
    obtain ⟨m21, em21, hf0⟩ := mx_lt hf0
    refine gw_putI t_Reader C 5 d_Reader_isOneOf_21 k_o_0 (by decide) i_Reader rfl rfl (by decide) qw_297 rfl rfl t_Reader_ok n_Reader rfl (t_Reader_ok 5 (by decide)) rfl rfl em21 ?_
    refine gw_aload_n C 0 d_Reader_isOneOf_24 rfl rfl ?_
    refine gw_getI C 5 d_Reader_isOneOf_25 k_o_0 (by decide) i_Reader rfl rfl (by decide) qw_297 rfl rfl ?_
    refine gw_iconst C ((-1) : Int32) d_Reader_isOneOf_28 (by decide) ?_
    refine gw_icmp_ne C 40 d_Reader_isOneOf_29 (by decide) (fun hc => ?_) (fun hc => ?_)
    · replace hf0 := mx_f hc hf0
      refine gw_iconst C (1 : Int32) d_Reader_isOneOf_40 (by decide) ?_
      refine gw_goto C 45 d_Reader_isOneOf_41 (by decide) ?_
      exact en_z hN (Or.inr rfl) hf0 d_Reader_isOneOf_45
    · replace hf0 := mx_t hc hf0
      refine gw_aload_n C 0 d_Reader_isOneOf_32 rfl rfl ?_
      refine gw_iconst C (3 : Int32) d_Reader_isOneOf_33 (by decide) ?_
      obtain ⟨q34, hq34, hf0⟩ := mx_bd hf0
      refine gw_callI C (c_Reader_fail _ hg k_o_0 hq34) d_Reader_isOneOf_34 1 qw_568 qw_570 qs_4 qw_2 qw_571 k_o_0 (by decide) rfl hd_Reader_fail rfl rfl (Nat.le_of_ble_eq_true rfl) ⟨rfl, rfl, Nat.le_of_ble_eq_true rfl, Nat.le_of_ble_eq_true rfl⟩ ⟨Nat.zero_le _, Nat.zero_le _⟩ ?_
      refine gw_if_eq C 44 d_Reader_isOneOf_37 (by decide) (fun hc => ?_) (fun hc => ?_)
      · replace hf0 := mx_t hc hf0
        refine gw_iconst C (0 : Int32) d_Reader_isOneOf_44 (by decide) ?_
        exact en_z hN (Or.inl rfl) hf0 d_Reader_isOneOf_45
      · replace hf0 := mx_f hc hf0
        refine gw_iconst C (1 : Int32) d_Reader_isOneOf_40 (by decide) ?_
        refine gw_goto C 45 d_Reader_isOneOf_41 (by decide) ?_
        exact en_z hN (Or.inr rfl) hf0 d_Reader_isOneOf_45
  · replace hf0 := mx_t hc hf0
    refine gw_iconst C (0 : Int32) d_Reader_isOneOf_7 (by decide) ?_
    exact en_z hN (Or.inl rfl) hf0 d_Reader_isOneOf_8

/-! NameHat.Hands.holderOf(I)I -/
abbrev b_Hands_holderOf : ByteArray := prog_3_method_4_code
def y_Hands_holderOf : MethodName := ⟨"NameHat$Hands", "holderOf", "(I)I"⟩
abbrev rm_Hands_holderOf : Room := { frames := 1, cells := 0, slots := 0, locals := 21 }
theorem hd_Hands_holderOf : y_Hands_holderOf.cls ≠ "java/lang/invoke/MethodHandle" ∧ y_Hands_holderOf.cls ≠ "java/lang/invoke/VarHandle" ∧ (parseMethodDescriptor y_Hands_holderOf.desc).map (fun d => d.parameters.length) = some 1 := by decide +kernel
theorem d_Hands_holderOf_0 : decode b_Hands_holderOf 0 = .ok (.iconst 0, 1) := by decide +kernel
theorem d_Hands_holderOf_1 : decode b_Hands_holderOf 1 = .ok (.istore_n 2, 1) := by decide +kernel
theorem d_Hands_holderOf_2 : decode b_Hands_holderOf 2 = .ok (.iload_n 2, 1) := by decide +kernel
theorem d_Hands_holderOf_3 : decode b_Hands_holderOf 3 = .ok (.bipush 8, 2) := by decide +kernel
theorem d_Hands_holderOf_5 : decode b_Hands_holderOf 5 = .ok (.if_icmp .ge 28, 3) := by decide +kernel
theorem d_Hands_holderOf_8 : decode b_Hands_holderOf 8 = .ok (.iload_n 1, 1) := by decide +kernel
theorem d_Hands_holderOf_9 : decode b_Hands_holderOf 9 = .ok (.iconst (-1), 1) := by decide +kernel
theorem d_Hands_holderOf_10 : decode b_Hands_holderOf 10 = .ok (.if_icmp .eq 23, 3) := by decide +kernel
theorem d_Hands_holderOf_13 : decode b_Hands_holderOf 13 = .ok (.aload_n 0, 1) := by decide +kernel
theorem d_Hands_holderOf_14 : decode b_Hands_holderOf 14 = .ok (.getfield 14, 3) := by decide +kernel
theorem d_Hands_holderOf_17 : decode b_Hands_holderOf 17 = .ok (.iload_n 2, 1) := by decide +kernel
theorem d_Hands_holderOf_18 : decode b_Hands_holderOf 18 = .ok (.invokevirtual 36, 3) := by decide +kernel
theorem d_Hands_holderOf_21 : decode b_Hands_holderOf 21 = .ok (.iload_n 1, 1) := by decide +kernel
theorem d_Hands_holderOf_22 : decode b_Hands_holderOf 22 = .ok (.if_icmp .ne 5, 3) := by decide +kernel
theorem d_Hands_holderOf_25 : decode b_Hands_holderOf 25 = .ok (.iload_n 2, 1) := by decide +kernel
theorem d_Hands_holderOf_26 : decode b_Hands_holderOf 26 = .ok (.ireturn, 1) := by decide +kernel
theorem d_Hands_holderOf_27 : decode b_Hands_holderOf 27 = .ok (.iinc 2 1, 3) := by decide +kernel
theorem d_Hands_holderOf_30 : decode b_Hands_holderOf 30 = .ok (.goto (-28), 3) := by decide +kernel
theorem d_Hands_holderOf_33 : decode b_Hands_holderOf 33 = .ok (.iconst (-1), 1) := by decide +kernel
theorem d_Hands_holderOf_34 : decode b_Hands_holderOf 34 = .ok (.ireturn, 1) := by decide +kernel
noncomputable def f_Hands_holderOf_L2 (z : Nat → Nat) (σ : Mm) (o : Nat) (v1 : Int32) (s2 : Int32) : Option ((Int32) ⊕ ((Int32) ⊕ (Unit))) :=
  if (8 : Int32) ≤ s2 then (
    some (.inr (.inr ()))
  ) else (
    if v1 = ((-1) : Int32) then (
      some (.inr (.inr ()))
    ) else (
      (f_Row_at z σ (o + 1) s2).bind fun q18 =>
      if q18 = v1 then (
        some (.inr (.inl s2))
      ) else (
        mm_lt (s2 + (1 : Int32)) fun x27 =>
        some (.inl x27)
      )
    )
  )
noncomputable def f_Hands_holderOf (z : Nat → Nat) (σ : Mm) (o : Nat) (p1 : Int32) : Option (Int32) :=
  (mm_lp (f_Hands_holderOf_L2 z σ o p1) (0 : Int32)).bind (Sum.elim (fun r9 => some r9) (fun x2_ =>
    some ((-1) : Int32)))
set_option maxHeartbeats 4000000 in
set_option maxRecDepth 100000 in
theorem c_Hands_holderOf (l : Launch) {L : Ly} (hg : gd_ok L) {σ : Mm} {o : Nat} {p1 : Int32} (k_o_0 : ly_k L o = 3) {res : Int32} (hf0 : f_Hands_holderOf (ly_z L) σ o p1 = some res) : CtI l y_Hands_holderOf b_Hands_holderOf 3 (some .int) rm_Hands_holderOf L [.ref (ly_a L o), .int p1] σ res σ := by
  refine ct_i hg (by decide) (Nat.le_of_ble_eq_true rfl) ?_
  intro E A Q hE C hN
  subst hE
  have k_o_1 : ly_k L (o + 1) = 0 := gd_Hands_held hg k_o_0
  unfold f_Hands_holderOf at hf0
  show GW E L A 3 0 0 Q σ 0 [(0, .ref (ly_a L o)), (1, .int p1)] []
  refine gw_iconst C (0 : Int32) d_Hands_holderOf_0 (by decide) ?_
  refine gw_istore_n C [(2, .int (0 : Int32)), (0, .ref (ly_a L o)), (1, .int p1)] d_Hands_holderOf_1 rfl (by decide) rfl ?_
  obtain ⟨q2, hq2, hf0⟩ := mx_bd hf0
  have hk2 : ∀ x2_, q2 = .inr x2_ → GW E L A 3 0 0 Q σ 33 [] [] := by
    intro x2_ hx9
    subst hx9
    replace hf0 := mx_sr hf0
    refine gw_iconst C ((-1) : Int32) d_Hands_holderOf_33 (by decide) ?_
    exact en_ip hN hf0 d_Hands_holderOf_34
  refine gw_sub [1, 2, 0] (lv' := [(0, .ref (ly_a L o)), (1, .int p1), (2, .int (0 : Int32))]) rfl ?_
  refine mm_rule hq2 (P := fun (s2 : Int32) => GW E L A 3 0 0 Q σ 2 [(0, .ref (ly_a L o)), (1, .int p1), (2, .int s2)] []) ?_
  intro s2 ih2 hx2 ⟨w2, hb2⟩
  have hf1 := hb2
  unfold f_Hands_holderOf_L2 at hf1
  refine gw_iload_n C 2 d_Hands_holderOf_2 rfl rfl ?_
  refine gw_bipush C (8 : Int32) d_Hands_holderOf_3 (by decide) ?_
  refine gw_icmp_ge C 33 d_Hands_holderOf_5 (by decide) (fun hc => ?_) (fun hc => ?_)
  · replace hf1 := mx_t hc hf1
    exact gw_go [] (hk2 () (hx2 _ (hb2.trans hf1.symm)).symm) rfl
  · replace hf1 := mx_f hc hf1
    refine gw_iload_n C 1 d_Hands_holderOf_8 rfl rfl ?_
    refine gw_iconst C ((-1) : Int32) d_Hands_holderOf_9 (by decide) ?_
    refine gw_icmp_eq C 33 d_Hands_holderOf_10 (by decide) (fun hc => ?_) (fun hc => ?_)
    · replace hf1 := mx_t hc hf1
      exact gw_go [] (hk2 () (hx2 _ (hb2.trans hf1.symm)).symm) rfl
    · replace hf1 := mx_f hc hf1
      refine gw_aload_n C 0 d_Hands_holderOf_13 rfl rfl ?_
      refine gw_getA C 0 d_Hands_holderOf_14 k_o_0 (by decide) i_Hands rfl rfl (by decide) qw_186 rfl rfl (o + 1) rfl ?_
      refine gw_iload_n C 2 d_Hands_holderOf_17 rfl rfl ?_
      obtain ⟨q18, hq18, hf1⟩ := mx_bd hf1
      refine gw_callI C (c_Row_at _ hg k_o_1 hq18) d_Hands_holderOf_18 1 qw_609 qw_489 qw_490 qw_4 qw_491 k_o_1 (by decide) rfl hd_Row_at rfl rfl (Nat.le_of_ble_eq_true rfl) ⟨rfl, rfl, Nat.le_of_ble_eq_true rfl, Nat.le_of_ble_eq_true rfl⟩ ⟨Nat.zero_le _, Nat.zero_le _⟩ ?_
      refine gw_iload_n C 1 d_Hands_holderOf_21 rfl rfl ?_
      refine gw_icmp_ne C 27 d_Hands_holderOf_22 (by decide) (fun hc => ?_) (fun hc => ?_)
      · replace hf1 := mx_f hc hf1
        obtain ⟨x27, ex27, hf1⟩ := mx_lt hf1
        refine gw_iinc C 2 [(2, .int x27), (0, .ref (ly_a L o)), (1, .int p1)] d_Hands_holderOf_27 rfl (by rw [ex27]; rfl) (by decide) rfl ?_
        refine gw_goto C 2 d_Hands_holderOf_30 (by decide) ?_
        exact gw_go [1, 2, 0] (ih2 x27 (hb2.trans hf1.symm)) rfl
      · replace hf1 := mx_t hc hf1
        refine gw_iload_n C 2 d_Hands_holderOf_25 rfl rfl ?_
        have hr2 := hx2 _ (hb2.trans hf1.symm)
        subst hr2
        replace hf0 := mx_sl hf0
        exact en_ip hN hf0 d_Hands_holderOf_26

/-! NameHat.Reader.houseLine()Z -/
abbrev b_Reader_houseLine : ByteArray := prog_6_method_11_code
def y_Reader_houseLine : MethodName := ⟨"NameHat$Reader", "houseLine", "()Z"⟩
abbrev rm_Reader_houseLine : Room := { frames := 13, cells := 0, slots := 0, locals := 468 }
theorem hd_Reader_houseLine : y_Reader_houseLine.cls ≠ "java/lang/invoke/MethodHandle" ∧ y_Reader_houseLine.cls ≠ "java/lang/invoke/VarHandle" ∧ (parseMethodDescriptor y_Reader_houseLine.desc).map (fun d => d.parameters.length) = some 0 := by decide +kernel
theorem d_Reader_houseLine_0 : decode b_Reader_houseLine 0 = .ok (.aload_n 0, 1) := by decide +kernel
theorem d_Reader_houseLine_1 : decode b_Reader_houseLine 1 = .ok (.getfield 21, 3) := by decide +kernel
theorem d_Reader_houseLine_4 : decode b_Reader_houseLine 4 = .ok (.getfield 84, 3) := by decide +kernel
theorem d_Reader_houseLine_7 : decode b_Reader_houseLine 7 = .ok (.getfield 104, 3) := by decide +kernel
theorem d_Reader_houseLine_10 : decode b_Reader_houseLine 10 = .ok (.invokevirtual 131, 3) := by decide +kernel
theorem d_Reader_houseLine_13 : decode b_Reader_houseLine 13 = .ok (.ifCond .eq 9, 3) := by decide +kernel
theorem d_Reader_houseLine_16 : decode b_Reader_houseLine 16 = .ok (.aload_n 0, 1) := by decide +kernel
theorem d_Reader_houseLine_17 : decode b_Reader_houseLine 17 = .ok (.iconst 4, 1) := by decide +kernel
theorem d_Reader_houseLine_18 : decode b_Reader_houseLine 18 = .ok (.invokevirtual 71, 3) := by decide +kernel
theorem d_Reader_houseLine_21 : decode b_Reader_houseLine 21 = .ok (.ireturn, 1) := by decide +kernel
theorem d_Reader_houseLine_22 : decode b_Reader_houseLine 22 = .ok (.aload_n 0, 1) := by decide +kernel
theorem d_Reader_houseLine_23 : decode b_Reader_houseLine 23 = .ok (.getfield 12, 3) := by decide +kernel
theorem d_Reader_houseLine_26 : decode b_Reader_houseLine 26 = .ok (.invokevirtual 46, 3) := by decide +kernel
theorem d_Reader_houseLine_29 : decode b_Reader_houseLine 29 = .ok (.aload_n 0, 1) := by decide +kernel
theorem d_Reader_houseLine_30 : decode b_Reader_houseLine 30 = .ok (.invokevirtual 134, 3) := by decide +kernel
theorem d_Reader_houseLine_33 : decode b_Reader_houseLine 33 = .ok (.ifCond .ne 5, 3) := by decide +kernel
theorem d_Reader_houseLine_36 : decode b_Reader_houseLine 36 = .ok (.iconst 0, 1) := by decide +kernel
theorem d_Reader_houseLine_37 : decode b_Reader_houseLine 37 = .ok (.ireturn, 1) := by decide +kernel
theorem d_Reader_houseLine_38 : decode b_Reader_houseLine 38 = .ok (.aload_n 0, 1) := by decide +kernel
theorem d_Reader_houseLine_39 : decode b_Reader_houseLine 39 = .ok (.getfield 21, 3) := by decide +kernel
theorem d_Reader_houseLine_42 : decode b_Reader_houseLine 42 = .ok (.getfield 84, 3) := by decide +kernel
theorem d_Reader_houseLine_45 : decode b_Reader_houseLine 45 = .ok (.getfield 104, 3) := by decide +kernel
theorem d_Reader_houseLine_48 : decode b_Reader_houseLine 48 = .ok (.aload_n 0, 1) := by decide +kernel
theorem d_Reader_houseLine_49 : decode b_Reader_houseLine 49 = .ok (.getfield 12, 3) := by decide +kernel
theorem d_Reader_houseLine_52 : decode b_Reader_houseLine 52 = .ok (.getfield 94, 3) := by decide +kernel
theorem d_Reader_houseLine_55 : decode b_Reader_houseLine 55 = .ok (.invokevirtual 137, 3) := by decide +kernel
theorem d_Reader_houseLine_58 : decode b_Reader_houseLine 58 = .ok (.istore_n 1, 1) := by decide +kernel
theorem d_Reader_houseLine_59 : decode b_Reader_houseLine 59 = .ok (.aload_n 0, 1) := by decide +kernel
theorem d_Reader_houseLine_60 : decode b_Reader_houseLine 60 = .ok (.getfield 12, 3) := by decide +kernel
theorem d_Reader_houseLine_63 : decode b_Reader_houseLine 63 = .ok (.invokevirtual 46, 3) := by decide +kernel
theorem d_Reader_houseLine_66 : decode b_Reader_houseLine 66 = .ok (.aload_n 0, 1) := by decide +kernel
theorem d_Reader_houseLine_67 : decode b_Reader_houseLine 67 = .ok (.getfield 12, 3) := by decide +kernel
theorem d_Reader_houseLine_70 : decode b_Reader_houseLine 70 = .ok (.iconst 4, 1) := by decide +kernel
theorem d_Reader_houseLine_71 : decode b_Reader_houseLine 71 = .ok (.invokevirtual 155, 3) := by decide +kernel
theorem d_Reader_houseLine_74 : decode b_Reader_houseLine 74 = .ok (.ifCond .ne 5, 3) := by decide +kernel
theorem d_Reader_houseLine_77 : decode b_Reader_houseLine 77 = .ok (.iconst 1, 1) := by decide +kernel
theorem d_Reader_houseLine_78 : decode b_Reader_houseLine 78 = .ok (.ireturn, 1) := by decide +kernel
theorem d_Reader_houseLine_79 : decode b_Reader_houseLine 79 = .ok (.aload_n 0, 1) := by decide +kernel
theorem d_Reader_houseLine_80 : decode b_Reader_houseLine 80 = .ok (.getfield 12, 3) := by decide +kernel
theorem d_Reader_houseLine_83 : decode b_Reader_houseLine 83 = .ok (.invokevirtual 46, 3) := by decide +kernel
theorem d_Reader_houseLine_86 : decode b_Reader_houseLine 86 = .ok (.aload_n 0, 1) := by decide +kernel
theorem d_Reader_houseLine_87 : decode b_Reader_houseLine 87 = .ok (.aload_n 0, 1) := by decide +kernel
theorem d_Reader_houseLine_88 : decode b_Reader_houseLine 88 = .ok (.getfield 21, 3) := by decide +kernel
theorem d_Reader_houseLine_91 : decode b_Reader_houseLine 91 = .ok (.getfield 84, 3) := by decide +kernel
theorem d_Reader_houseLine_94 : decode b_Reader_houseLine 94 = .ok (.getfield 88, 3) := by decide +kernel
theorem d_Reader_houseLine_97 : decode b_Reader_houseLine 97 = .ok (.invokevirtual 161, 3) := by decide +kernel
theorem d_Reader_houseLine_100 : decode b_Reader_houseLine 100 = .ok (.ifCond .ne 5, 3) := by decide +kernel
theorem d_Reader_houseLine_103 : decode b_Reader_houseLine 103 = .ok (.iconst 0, 1) := by decide +kernel
theorem d_Reader_houseLine_104 : decode b_Reader_houseLine 104 = .ok (.ireturn, 1) := by decide +kernel
theorem d_Reader_houseLine_105 : decode b_Reader_houseLine 105 = .ok (.aload_n 0, 1) := by decide +kernel
theorem d_Reader_houseLine_106 : decode b_Reader_houseLine 106 = .ok (.getfield 21, 3) := by decide +kernel
theorem d_Reader_houseLine_109 : decode b_Reader_houseLine 109 = .ok (.getfield 165, 3) := by decide +kernel
theorem d_Reader_houseLine_112 : decode b_Reader_houseLine 112 = .ok (.aload_n 0, 1) := by decide +kernel
theorem d_Reader_houseLine_113 : decode b_Reader_houseLine 113 = .ok (.getfield 107, 3) := by decide +kernel
theorem d_Reader_houseLine_116 : decode b_Reader_houseLine 116 = .ok (.invokevirtual 169, 3) := by decide +kernel
theorem d_Reader_houseLine_119 : decode b_Reader_houseLine 119 = .ok (.iconst (-1), 1) := by decide +kernel
theorem d_Reader_houseLine_120 : decode b_Reader_houseLine 120 = .ok (.if_icmp .eq 9, 3) := by decide +kernel
theorem d_Reader_houseLine_123 : decode b_Reader_houseLine 123 = .ok (.aload_n 0, 1) := by decide +kernel
theorem d_Reader_houseLine_124 : decode b_Reader_houseLine 124 = .ok (.iconst 3, 1) := by decide +kernel
theorem d_Reader_houseLine_125 : decode b_Reader_houseLine 125 = .ok (.invokevirtual 71, 3) := by decide +kernel
theorem d_Reader_houseLine_128 : decode b_Reader_houseLine 128 = .ok (.ireturn, 1) := by decide +kernel
theorem d_Reader_houseLine_129 : decode b_Reader_houseLine 129 = .ok (.aload_n 0, 1) := by decide +kernel
theorem d_Reader_houseLine_130 : decode b_Reader_houseLine 130 = .ok (.getfield 21, 3) := by decide +kernel
theorem d_Reader_houseLine_133 : decode b_Reader_houseLine 133 = .ok (.getfield 165, 3) := by decide +kernel
theorem d_Reader_houseLine_136 : decode b_Reader_houseLine 136 = .ok (.getfield 175, 3) := by decide +kernel
theorem d_Reader_houseLine_139 : decode b_Reader_houseLine 139 = .ok (.iload_n 1, 1) := by decide +kernel
theorem d_Reader_houseLine_140 : decode b_Reader_houseLine 140 = .ok (.aload_n 0, 1) := by decide +kernel
theorem d_Reader_houseLine_141 : decode b_Reader_houseLine 141 = .ok (.getfield 107, 3) := by decide +kernel
theorem d_Reader_houseLine_144 : decode b_Reader_houseLine 144 = .ok (.invokevirtual 148, 3) := by decide +kernel
theorem d_Reader_houseLine_147 : decode b_Reader_houseLine 147 = .ok (.aload_n 0, 1) := by decide +kernel
theorem d_Reader_houseLine_148 : decode b_Reader_houseLine 148 = .ok (.getfield 12, 3) := by decide +kernel
theorem d_Reader_houseLine_151 : decode b_Reader_houseLine 151 = .ok (.invokevirtual 46, 3) := by decide +kernel
theorem d_Reader_houseLine_154 : decode b_Reader_houseLine 154 = .ok (.iconst 1, 1) := by decide +kernel
theorem d_Reader_houseLine_155 : decode b_Reader_houseLine 155 = .ok (.ireturn, 1) := by decide +kernel
noncomputable def f_Reader_houseLine (z : Nat → Nat) (σ : Mm) (o : Nat) : Option (Int32 × Mm) :=
  (f_Names_isFull z σ (o + 8)).bind fun q10 =>
  if q10 = 0 then (
    (f_Tokens_step z σ (o + 1)).bind fun q26 =>
    (f_Reader_isNewName z q26 o).bind fun q30 =>
    if q30.1 = 0 then (
      some ((0 : Int32), q30.2)
    ) else (
      (f_Names_add z q30.2 (o + 8) (q30.2.2 (o + 1) 7)).bind fun q55 =>
      (f_Tokens_step z q55.2 (o + 1)).bind fun q63 =>
      (f_Tokens_isWord z q63 (o + 1) (4 : Int32)).bind fun q71 =>
      if q71 = 0 then (
        some ((1 : Int32), q63)
      ) else (
        (f_Tokens_step z q63 (o + 1)).bind fun q83 =>
        (f_Reader_isOneOf z q83 o (o + 6)).bind fun q97 =>
        if q97.1 = 0 then (
          some ((0 : Int32), q97.2)
        ) else (
          (f_Hands_holderOf z q97.2 (o + 18) (q97.2.1 o 5)).bind fun q116 =>
          if q116 = ((-1) : Int32) then (
            (f_Row_put z q97.2 (o + 19) q55.1 (q97.2.1 o 5)).bind fun q144 =>
            (f_Tokens_step z q144 (o + 1)).bind fun q151 =>
            some ((1 : Int32), q151)
          ) else (
            (f_Reader_fail z q97.2 o (3 : Int32)).bind fun q125 =>
            (mm_zb q125.1).bind fun y128 =>
            some (y128, q125.2)
          )
        )
      )
    )
  ) else (
    (f_Reader_fail z σ o (4 : Int32)).bind fun q18 =>
    (mm_zb q18.1).bind fun y21 =>
    some (y21, q18.2)
  )
set_option maxHeartbeats 4000000 in
set_option maxRecDepth 100000 in
theorem c_Reader_houseLine (l : Launch) {L : Ly} (hg : gd_ok L) {σ : Mm} {o : Nat} (k_o_0 : ly_k L o = 9) {res : Int32 × Mm} (hf0 : f_Reader_houseLine (ly_z L) σ o = some res) : CtI l y_Reader_houseLine b_Reader_houseLine 2 (some .boolean) rm_Reader_houseLine L [.ref (ly_a L o)] σ res.1 res.2 := by
  refine ct_z hg (by decide) (Nat.le_of_ble_eq_true rfl) ?_
  intro E A Q hE C hN
  subst hE
  have k_o_4 : ly_k L (o + 4) = 4 := gd_Reader_draft hg k_o_0
  have k_o_5 : ly_k L (o + 5) = 2 := gd_State_island hg k_o_4
  have k_o_8 : ly_k L (o + 8) = 1 := gd_Island_houses hg k_o_5
  have k_o_1 : ly_k L (o + 1) = 8 := gd_Reader_tokens hg k_o_0
  have k_o_6 : ly_k L (o + 6) = 1 := gd_Island_surnames hg k_o_5
  have k_o_18 : ly_k L (o + 18) = 3 := gd_State_hands hg k_o_4
  have k_o_19 : ly_k L (o + 19) = 0 := gd_Hands_held hg k_o_18
  unfold f_Reader_houseLine at hf0
  show GW E L A 2 0 0 Q σ 0 [(0, .ref (ly_a L o))] []
  refine gw_aload_n C 0 d_Reader_houseLine_0 rfl rfl ?_
  refine gw_getA C 1 d_Reader_houseLine_1 k_o_0 (by decide) i_Reader rfl rfl (by decide) qw_289 rfl rfl (o + 4) rfl ?_
  refine gw_getAN C 0 d_Reader_houseLine_4 k_o_4 (by decide) i_State rfl rfl (by decide) qw_236 rfl rfl (o + 5) rfl ?_
  refine gw_getAN C 1 d_Reader_houseLine_7 k_o_5 (by decide) i_Island rfl rfl (by decide) qw_135 rfl rfl (o + 8) rfl ?_
  obtain ⟨q10, hq10, hf0⟩ := mx_bd hf0
  refine gw_callI C (c_Names_isFull _ hg k_o_8 hq10) d_Reader_houseLine_10 0 qw_564 qw_565 qw_566 qw_7 qw_567 k_o_8 (by decide) rfl hd_Names_isFull rfl rfl (Nat.le_of_ble_eq_true rfl) ⟨rfl, rfl, Nat.le_of_ble_eq_true rfl, Nat.le_of_ble_eq_true rfl⟩ ⟨Nat.zero_le _, Nat.zero_le _⟩ ?_
  refine gw_if_eq C 22 d_Reader_houseLine_13 (by decide) (fun hc => ?_) (fun hc => ?_)
  · replace hf0 := mx_t hc hf0
    refine gw_aload_n C 0 d_Reader_houseLine_22 rfl rfl ?_
    refine gw_getA C 0 d_Reader_houseLine_23 k_o_0 (by decide) i_Reader rfl rfl (by decide) qw_287 rfl rfl (o + 1) rfl ?_
    obtain ⟨q26, hq26, hf0⟩ := mx_bd hf0
    refine gw_callV C (c_Tokens_step _ hg k_o_1 hq26) d_Reader_houseLine_26 0 qw_481 qw_482 qw_483 qw_3 qw_484 k_o_1 (by decide) rfl hd_Tokens_step rfl rfl (Nat.le_of_ble_eq_true rfl) ⟨rfl, rfl, Nat.le_of_ble_eq_true rfl, Nat.le_of_ble_eq_true rfl⟩ ⟨Nat.zero_le _, Nat.zero_le _⟩ ?_
    refine gw_aload_n C 0 d_Reader_houseLine_29 rfl rfl ?_
    obtain ⟨q30, hq30, hf0⟩ := mx_bd hf0
    refine gw_callI C (c_Reader_isNewName _ hg k_o_0 hq30) d_Reader_houseLine_30 0 qw_572 qw_574 qs_5 qw_2 qw_575 k_o_0 (by decide) rfl hd_Reader_isNewName rfl rfl (Nat.le_of_ble_eq_true rfl) ⟨rfl, rfl, Nat.le_of_ble_eq_true rfl, Nat.le_of_ble_eq_true rfl⟩ ⟨Nat.zero_le _, Nat.zero_le _⟩ ?_
    refine gw_if_ne C 38 d_Reader_houseLine_33 (by decide) (fun hc => ?_) (fun hc => ?_)
    · replace hf0 := mx_f hc hf0
      refine gw_aload_n C 0 d_Reader_houseLine_38 rfl rfl ?_
      refine gw_getA C 1 d_Reader_houseLine_39 k_o_0 (by decide) i_Reader rfl rfl (by decide) qw_289 rfl rfl (o + 4) rfl ?_
      refine gw_getAN C 0 d_Reader_houseLine_42 k_o_4 (by decide) i_State rfl rfl (by decide) qw_236 rfl rfl (o + 5) rfl ?_
      refine gw_getAN C 1 d_Reader_houseLine_45 k_o_5 (by decide) i_Island rfl rfl (by decide) qw_135 rfl rfl (o + 8) rfl ?_
      refine gw_aload_n C 0 d_Reader_houseLine_48 rfl rfl ?_
      refine gw_getA C 0 d_Reader_houseLine_49 k_o_0 (by decide) i_Reader rfl rfl (by decide) qw_287 rfl rfl (o + 1) rfl ?_
      refine gw_getLN C 7 d_Reader_houseLine_52 k_o_1 (by decide) i_Tokens rfl rfl (by decide) qw_67 rfl rfl ?_
      obtain ⟨q55, hq55, hf0⟩ := mx_bd hf0
      refine gw_callI C (c_Names_add _ hg k_o_8 hq55) d_Reader_houseLine_55 1 qw_584 qw_585 qw_586 qw_7 qw_587 k_o_8 (by decide) rfl hd_Names_add rfl rfl (Nat.le_of_ble_eq_true rfl) ⟨rfl, rfl, Nat.le_of_ble_eq_true rfl, Nat.le_of_ble_eq_true rfl⟩ ⟨Nat.zero_le _, Nat.zero_le _⟩ ?_
      refine gw_istore_n C [(1, .int q55.1), (0, .ref (ly_a L o))] d_Reader_houseLine_58 rfl (by decide) rfl ?_
      refine gw_aload_n C 1 d_Reader_houseLine_59 rfl rfl ?_
      refine gw_getA C 0 d_Reader_houseLine_60 k_o_0 (by decide) i_Reader rfl rfl (by decide) qw_287 rfl rfl (o + 1) rfl ?_
      obtain ⟨q63, hq63, hf0⟩ := mx_bd hf0
      refine gw_callV C (c_Tokens_step _ hg k_o_1 hq63) d_Reader_houseLine_63 0 qw_481 qw_482 qw_483 qw_3 qw_484 k_o_1 (by decide) rfl hd_Tokens_step rfl rfl (Nat.le_of_ble_eq_true rfl) ⟨rfl, rfl, Nat.le_of_ble_eq_true rfl, Nat.le_of_ble_eq_true rfl⟩ ⟨Nat.zero_le _, Nat.zero_le _⟩ ?_
      refine gw_aload_n C 1 d_Reader_houseLine_66 rfl rfl ?_
      refine gw_getA C 0 d_Reader_houseLine_67 k_o_0 (by decide) i_Reader rfl rfl (by decide) qw_287 rfl rfl (o + 1) rfl ?_
      refine gw_iconst C (4 : Int32) d_Reader_houseLine_70 (by decide) ?_
      obtain ⟨q71, hq71, hf0⟩ := mx_bd hf0
      refine gw_callI C (c_Tokens_isWord _ hg k_o_1 hq71) d_Reader_houseLine_71 1 qw_593 qw_594 qw_595 qw_3 qw_596 k_o_1 (by decide) rfl hd_Tokens_isWord rfl rfl (Nat.le_of_ble_eq_true rfl) ⟨rfl, rfl, Nat.le_of_ble_eq_true rfl, Nat.le_of_ble_eq_true rfl⟩ ⟨Nat.zero_le _, Nat.zero_le _⟩ ?_
      refine gw_if_ne C 79 d_Reader_houseLine_74 (by decide) (fun hc => ?_) (fun hc => ?_)
      · replace hf0 := mx_f hc hf0
        refine gw_aload_n C 1 d_Reader_houseLine_79 rfl rfl ?_
        refine gw_getA C 0 d_Reader_houseLine_80 k_o_0 (by decide) i_Reader rfl rfl (by decide) qw_287 rfl rfl (o + 1) rfl ?_
        obtain ⟨q83, hq83, hf0⟩ := mx_bd hf0
        refine gw_callV C (c_Tokens_step _ hg k_o_1 hq83) d_Reader_houseLine_83 0 qw_481 qw_482 qw_483 qw_3 qw_484 k_o_1 (by decide) rfl hd_Tokens_step rfl rfl (Nat.le_of_ble_eq_true rfl) ⟨rfl, rfl, Nat.le_of_ble_eq_true rfl, Nat.le_of_ble_eq_true rfl⟩ ⟨Nat.zero_le _, Nat.zero_le _⟩ ?_
        refine gw_aload_n C 1 d_Reader_houseLine_86 rfl rfl ?_
        refine gw_aload_n C 1 d_Reader_houseLine_87 rfl rfl ?_
        refine gw_getA C 1 d_Reader_houseLine_88 k_o_0 (by decide) i_Reader rfl rfl (by decide) qw_289 rfl rfl (o + 4) rfl ?_
        refine gw_getAN C 0 d_Reader_houseLine_91 k_o_4 (by decide) i_State rfl rfl (by decide) qw_236 rfl rfl (o + 5) rfl ?_
        refine gw_getAN C 0 d_Reader_houseLine_94 k_o_5 (by decide) i_Island rfl rfl (by decide) qw_127 rfl rfl (o + 6) rfl ?_
        obtain ⟨q97, hq97, hf0⟩ := mx_bd hf0
        refine gw_callI C (c_Reader_isOneOf _ hg k_o_0 k_o_6 hq97) d_Reader_houseLine_97 1 qw_601 qw_603 qs_9 qw_2 qw_604 k_o_0 (by decide) rfl hd_Reader_isOneOf rfl rfl (Nat.le_of_ble_eq_true rfl) ⟨rfl, rfl, Nat.le_of_ble_eq_true rfl, Nat.le_of_ble_eq_true rfl⟩ ⟨Nat.zero_le _, Nat.zero_le _⟩ ?_
        refine gw_if_ne C 105 d_Reader_houseLine_100 (by decide) (fun hc => ?_) (fun hc => ?_)
        · replace hf0 := mx_f hc hf0
          refine gw_aload_n C 1 d_Reader_houseLine_105 rfl rfl ?_
          refine gw_getA C 1 d_Reader_houseLine_106 k_o_0 (by decide) i_Reader rfl rfl (by decide) qw_289 rfl rfl (o + 4) rfl ?_
          refine gw_getAN C 1 d_Reader_houseLine_109 k_o_4 (by decide) i_State rfl rfl (by decide) qw_240 rfl rfl (o + 18) rfl ?_
          refine gw_aload_n C 1 d_Reader_houseLine_112 rfl rfl ?_
          refine gw_getI C 5 d_Reader_houseLine_113 k_o_0 (by decide) i_Reader rfl rfl (by decide) qw_297 rfl rfl ?_
          obtain ⟨q116, hq116, hf0⟩ := mx_bd hf0
          refine gw_callI C (c_Hands_holderOf _ hg k_o_18 hq116) d_Reader_houseLine_116 1 qw_605 qw_606 qw_607 qw_8 qw_608 k_o_18 (by decide) rfl hd_Hands_holderOf rfl rfl (Nat.le_of_ble_eq_true rfl) ⟨rfl, rfl, Nat.le_of_ble_eq_true rfl, Nat.le_of_ble_eq_true rfl⟩ ⟨Nat.zero_le _, Nat.zero_le _⟩ ?_
          refine gw_iconst C ((-1) : Int32) d_Reader_houseLine_119 (by decide) ?_
          refine gw_icmp_eq C 129 d_Reader_houseLine_120 (by decide) (fun hc => ?_) (fun hc => ?_)
          · replace hf0 := mx_t hc hf0
            refine gw_aload_n C 1 d_Reader_houseLine_129 rfl rfl ?_
            refine gw_getA C 1 d_Reader_houseLine_130 k_o_0 (by decide) i_Reader rfl rfl (by decide) qw_289 rfl rfl (o + 4) rfl ?_
            refine gw_getAN C 1 d_Reader_houseLine_133 k_o_4 (by decide) i_State rfl rfl (by decide) qw_240 rfl rfl (o + 18) rfl ?_
            refine gw_getAN C 0 d_Reader_houseLine_136 k_o_18 (by decide) i_Hands rfl rfl (by decide) qw_190 rfl rfl (o + 19) rfl ?_
            refine gw_iload_n C 0 d_Reader_houseLine_139 rfl rfl ?_
            refine gw_aload_n C 1 d_Reader_houseLine_140 rfl rfl ?_
            refine gw_getI C 5 d_Reader_houseLine_141 k_o_0 (by decide) i_Reader rfl rfl (by decide) qw_297 rfl rfl ?_
            obtain ⟨q144, hq144, hf0⟩ := mx_bd hf0
            refine gw_callV C (c_Row_put _ hg k_o_19 hq144) d_Reader_houseLine_144 2 qw_592 qw_461 qw_462 qw_4 qw_463 k_o_19 (by decide) rfl hd_Row_put rfl rfl (Nat.le_of_ble_eq_true rfl) ⟨rfl, rfl, Nat.le_of_ble_eq_true rfl, Nat.le_of_ble_eq_true rfl⟩ ⟨Nat.zero_le _, Nat.zero_le _⟩ ?_
            refine gw_aload_n C 1 d_Reader_houseLine_147 rfl rfl ?_
            refine gw_getA C 0 d_Reader_houseLine_148 k_o_0 (by decide) i_Reader rfl rfl (by decide) qw_287 rfl rfl (o + 1) rfl ?_
            obtain ⟨q151, hq151, hf0⟩ := mx_bd hf0
            refine gw_callV C (c_Tokens_step _ hg k_o_1 hq151) d_Reader_houseLine_151 0 qw_481 qw_482 qw_483 qw_3 qw_484 k_o_1 (by decide) rfl hd_Tokens_step rfl rfl (Nat.le_of_ble_eq_true rfl) ⟨rfl, rfl, Nat.le_of_ble_eq_true rfl, Nat.le_of_ble_eq_true rfl⟩ ⟨Nat.zero_le _, Nat.zero_le _⟩ ?_
            refine gw_iconst C (1 : Int32) d_Reader_houseLine_154 (by decide) ?_
            exact en_z hN (Or.inr rfl) hf0 d_Reader_houseLine_155
          · replace hf0 := mx_f hc hf0
            refine gw_aload_n C 1 d_Reader_houseLine_123 rfl rfl ?_
            refine gw_iconst C (3 : Int32) d_Reader_houseLine_124 (by decide) ?_
            obtain ⟨q125, hq125, hf0⟩ := mx_bd hf0
            refine gw_callI C (c_Reader_fail _ hg k_o_0 hq125) d_Reader_houseLine_125 1 qw_568 qw_570 qs_4 qw_2 qw_571 k_o_0 (by decide) rfl hd_Reader_fail rfl rfl (Nat.le_of_ble_eq_true rfl) ⟨rfl, rfl, Nat.le_of_ble_eq_true rfl, Nat.le_of_ble_eq_true rfl⟩ ⟨Nat.zero_le _, Nat.zero_le _⟩ ?_
            obtain ⟨y128, hy128, hf0⟩ := mx_bd hf0
            obtain ⟨zy128, ey128⟩ := mx_zb hy128
            refine gw_topi ey128 ?_
            exact en_z hN zy128 hf0 d_Reader_houseLine_128
        · replace hf0 := mx_t hc hf0
          refine gw_iconst C (0 : Int32) d_Reader_houseLine_103 (by decide) ?_
          exact en_z hN (Or.inl rfl) hf0 d_Reader_houseLine_104
      · replace hf0 := mx_t hc hf0
        refine gw_iconst C (1 : Int32) d_Reader_houseLine_77 (by decide) ?_
        exact en_z hN (Or.inr rfl) hf0 d_Reader_houseLine_78
    · replace hf0 := mx_t hc hf0
      refine gw_iconst C (0 : Int32) d_Reader_houseLine_36 (by decide) ?_
      exact en_z hN (Or.inl rfl) hf0 d_Reader_houseLine_37
  · replace hf0 := mx_f hc hf0
    refine gw_aload_n C 0 d_Reader_houseLine_16 rfl rfl ?_
    refine gw_iconst C (4 : Int32) d_Reader_houseLine_17 (by decide) ?_
    obtain ⟨q18, hq18, hf0⟩ := mx_bd hf0
    refine gw_callI C (c_Reader_fail _ hg k_o_0 hq18) d_Reader_houseLine_18 1 qw_568 qw_570 qs_4 qw_2 qw_571 k_o_0 (by decide) rfl hd_Reader_fail rfl rfl (Nat.le_of_ble_eq_true rfl) ⟨rfl, rfl, Nat.le_of_ble_eq_true rfl, Nat.le_of_ble_eq_true rfl⟩ ⟨Nat.zero_le _, Nat.zero_le _⟩ ?_
    obtain ⟨y21, hy21, hf0⟩ := mx_bd hf0
    obtain ⟨zy21, ey21⟩ := mx_zb hy21
    refine gw_topi ey21 ?_
    exact en_z hN zy21 hf0 d_Reader_houseLine_21

/-! NameHat.Island.wanted(II)I -/
abbrev b_Island_wanted : ByteArray := prog_4_method_4_code
def y_Island_wanted : MethodName := ⟨"NameHat$Island", "wanted", "(II)I"⟩
abbrev rm_Island_wanted : Room := { frames := 1, cells := 0, slots := 0, locals := 21 }
theorem hd_Island_wanted : y_Island_wanted.cls ≠ "java/lang/invoke/MethodHandle" ∧ y_Island_wanted.cls ≠ "java/lang/invoke/VarHandle" ∧ (parseMethodDescriptor y_Island_wanted.desc).map (fun d => d.parameters.length) = some 2 := by decide +kernel
theorem d_Island_wanted_0 : decode b_Island_wanted 0 = .ok (.aload_n 0, 1) := by decide +kernel
theorem d_Island_wanted_1 : decode b_Island_wanted 1 = .ok (.getfield 36, 3) := by decide +kernel
theorem d_Island_wanted_4 : decode b_Island_wanted 4 = .ok (.iload_n 1, 1) := by decide +kernel
theorem d_Island_wanted_5 : decode b_Island_wanted 5 = .ok (.bipush 10, 2) := by decide +kernel
theorem d_Island_wanted_7 : decode b_Island_wanted 7 = .ok (.imul, 1) := by decide +kernel
theorem d_Island_wanted_8 : decode b_Island_wanted 8 = .ok (.iload_n 2, 1) := by decide +kernel
theorem d_Island_wanted_9 : decode b_Island_wanted 9 = .ok (.iadd, 1) := by decide +kernel
theorem d_Island_wanted_10 : decode b_Island_wanted 10 = .ok (.invokevirtual 62, 3) := by decide +kernel
theorem d_Island_wanted_13 : decode b_Island_wanted 13 = .ok (.ireturn, 1) := by decide +kernel
noncomputable def f_Island_wanted (z : Nat → Nat) (σ : Mm) (o : Nat) (p1 : Int32) (p2 : Int32) : Option (Int32) :=
  (f_Row_at z σ (o + 11) ((p1 * (10 : Int32)) + p2)).bind fun q10 =>
  some q10
set_option maxHeartbeats 4000000 in
set_option maxRecDepth 100000 in
theorem c_Island_wanted (l : Launch) {L : Ly} (hg : gd_ok L) {σ : Mm} {o : Nat} {p1 : Int32} {p2 : Int32} (k_o_0 : ly_k L o = 2) {res : Int32} (hf0 : f_Island_wanted (ly_z L) σ o p1 p2 = some res) : CtI l y_Island_wanted b_Island_wanted 3 (some .int) rm_Island_wanted L [.ref (ly_a L o), .int p1, .int p2] σ res σ := by
  refine ct_i hg (by decide) (Nat.le_of_ble_eq_true rfl) ?_
  intro E A Q hE C hN
  subst hE
  have k_o_11 : ly_k L (o + 11) = 0 := gd_Island_wants hg k_o_0
  unfold f_Island_wanted at hf0
  show GW E L A 3 0 0 Q σ 0 [(0, .ref (ly_a L o)), (1, .int p1), (2, .int p2)] []
  refine gw_aload_n C 0 d_Island_wanted_0 rfl rfl ?_
  refine gw_getA C 5 d_Island_wanted_1 k_o_0 (by decide) i_Island rfl rfl (by decide) qw_146 rfl rfl (o + 11) rfl ?_
  refine gw_iload_n C 1 d_Island_wanted_4 rfl rfl ?_
  refine gw_bipush C (10 : Int32) d_Island_wanted_5 (by decide) ?_
  refine gw_imul C d_Island_wanted_7 ?_
  refine gw_iload_n C 2 d_Island_wanted_8 rfl rfl ?_
  refine gw_iadd C d_Island_wanted_9 ?_
  obtain ⟨q10, hq10, hf0⟩ := mx_bd hf0
  refine gw_callI C (c_Row_at _ hg k_o_11 hq10) d_Island_wanted_10 1 qw_618 qw_489 qw_490 qw_4 qw_491 k_o_11 (by decide) rfl hd_Row_at rfl rfl (Nat.le_of_ble_eq_true rfl) ⟨rfl, rfl, Nat.le_of_ble_eq_true rfl, Nat.le_of_ble_eq_true rfl⟩ ⟨Nat.zero_le _, Nat.zero_le _⟩ ?_
  exact en_ip hN hf0 d_Island_wanted_13
