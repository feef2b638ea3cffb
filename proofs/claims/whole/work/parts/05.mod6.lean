/-! NameHatModel.restore(I)Z -/
abbrev b_Mod_restore : ByteArray := prog_14_method_86_code
def y_Mod_restore : MethodName := ⟨"NameHatModel", "restore", "(I)Z"⟩
abbrev rm_Mod_restore : Room := { frames := 1, cells := 0, slots := 0, locals := 22 }
theorem hd_Mod_restore : y_Mod_restore.cls ≠ "java/lang/invoke/MethodHandle" ∧ y_Mod_restore.cls ≠ "java/lang/invoke/VarHandle" ∧ (parseMethodDescriptor y_Mod_restore.desc).map (fun d => d.parameters.length) = some 1 := by decide +kernel
theorem d_Mod_restore_0 : decode b_Mod_restore 0 = .ok (.aload_n 0, 1) := by decide +kernel
theorem d_Mod_restore_1 : decode b_Mod_restore 1 = .ok (.iconst 0, 1) := by decide +kernel
theorem d_Mod_restore_2 : decode b_Mod_restore 2 = .ok (.putfield 1, 3) := by decide +kernel
theorem d_Mod_restore_5 : decode b_Mod_restore 5 = .ok (.iload_n 1, 1) := by decide +kernel
theorem d_Mod_restore_6 : decode b_Mod_restore 6 = .ok (.iconst 0, 1) := by decide +kernel
theorem d_Mod_restore_7 : decode b_Mod_restore 7 = .ok (.iconst 1, 1) := by decide +kernel
theorem d_Mod_restore_8 : decode b_Mod_restore 8 = .ok (.invokestatic 175, 3) := by decide +kernel
theorem d_Mod_restore_11 : decode b_Mod_restore 11 = .ok (.ifCond .eq 12, 3) := by decide +kernel
theorem d_Mod_restore_14 : decode b_Mod_restore 14 = .ok (.aload_n 0, 1) := by decide +kernel
theorem d_Mod_restore_15 : decode b_Mod_restore 15 = .ok (.getfield 95, 3) := by decide +kernel
theorem d_Mod_restore_18 : decode b_Mod_restore 18 = .ok (.iload_n 1, 1) := by decide +kernel
theorem d_Mod_restore_19 : decode b_Mod_restore 19 = .ok (.baload, 1) := by decide +kernel
theorem d_Mod_restore_20 : decode b_Mod_restore 20 = .ok (.ifCond .ne 5, 3) := by decide +kernel
theorem d_Mod_restore_23 : decode b_Mod_restore 23 = .ok (.iconst 0, 1) := by decide +kernel
theorem d_Mod_restore_24 : decode b_Mod_restore 24 = .ok (.ireturn, 1) := by decide +kernel
theorem d_Mod_restore_25 : decode b_Mod_restore 25 = .ok (.iconst 0, 1) := by decide +kernel
theorem d_Mod_restore_26 : decode b_Mod_restore 26 = .ok (.istore_n 2, 1) := by decide +kernel
theorem d_Mod_restore_27 : decode b_Mod_restore 27 = .ok (.iload_n 2, 1) := by decide +kernel
theorem d_Mod_restore_28 : decode b_Mod_restore 28 = .ok (.sipush 744, 3) := by decide +kernel
theorem d_Mod_restore_31 : decode b_Mod_restore 31 = .ok (.if_icmp .ge 27, 3) := by decide +kernel
theorem d_Mod_restore_34 : decode b_Mod_restore 34 = .ok (.aload_n 0, 1) := by decide +kernel
theorem d_Mod_restore_35 : decode b_Mod_restore 35 = .ok (.getfield 33, 3) := by decide +kernel
theorem d_Mod_restore_38 : decode b_Mod_restore 38 = .ok (.iload_n 2, 1) := by decide +kernel
theorem d_Mod_restore_39 : decode b_Mod_restore 39 = .ok (.aload_n 0, 1) := by decide +kernel
theorem d_Mod_restore_40 : decode b_Mod_restore 40 = .ok (.getfield 89, 3) := by decide +kernel
theorem d_Mod_restore_43 : decode b_Mod_restore 43 = .ok (.sipush 744, 3) := by decide +kernel
theorem d_Mod_restore_46 : decode b_Mod_restore 46 = .ok (.iload_n 1, 1) := by decide +kernel
theorem d_Mod_restore_47 : decode b_Mod_restore 47 = .ok (.imul, 1) := by decide +kernel
theorem d_Mod_restore_48 : decode b_Mod_restore 48 = .ok (.iload_n 2, 1) := by decide +kernel
theorem d_Mod_restore_49 : decode b_Mod_restore 49 = .ok (.iadd, 1) := by decide +kernel
theorem d_Mod_restore_50 : decode b_Mod_restore 50 = .ok (.iaload, 1) := by decide +kernel
theorem d_Mod_restore_51 : decode b_Mod_restore 51 = .ok (.iastore, 1) := by decide +kernel
theorem d_Mod_restore_52 : decode b_Mod_restore 52 = .ok (.iinc 2 1, 3) := by decide +kernel
theorem d_Mod_restore_55 : decode b_Mod_restore 55 = .ok (.goto (-28), 3) := by decide +kernel
theorem d_Mod_restore_58 : decode b_Mod_restore 58 = .ok (.iconst 0, 1) := by decide +kernel
theorem d_Mod_restore_59 : decode b_Mod_restore 59 = .ok (.istore_n 2, 1) := by decide +kernel
theorem d_Mod_restore_60 : decode b_Mod_restore 60 = .ok (.iload_n 2, 1) := by decide +kernel
theorem d_Mod_restore_61 : decode b_Mod_restore 61 = .ok (.bipush 18, 2) := by decide +kernel
theorem d_Mod_restore_63 : decode b_Mod_restore 63 = .ok (.if_icmp .ge 26, 3) := by decide +kernel
theorem d_Mod_restore_66 : decode b_Mod_restore 66 = .ok (.aload_n 0, 1) := by decide +kernel
theorem d_Mod_restore_67 : decode b_Mod_restore 67 = .ok (.getfield 43, 3) := by decide +kernel
theorem d_Mod_restore_70 : decode b_Mod_restore 70 = .ok (.iload_n 2, 1) := by decide +kernel
theorem d_Mod_restore_71 : decode b_Mod_restore 71 = .ok (.aload_n 0, 1) := by decide +kernel
theorem d_Mod_restore_72 : decode b_Mod_restore 72 = .ok (.getfield 92, 3) := by decide +kernel
theorem d_Mod_restore_75 : decode b_Mod_restore 75 = .ok (.bipush 18, 2) := by decide +kernel
theorem d_Mod_restore_77 : decode b_Mod_restore 77 = .ok (.iload_n 1, 1) := by decide +kernel
theorem d_Mod_restore_78 : decode b_Mod_restore 78 = .ok (.imul, 1) := by decide +kernel
theorem d_Mod_restore_79 : decode b_Mod_restore 79 = .ok (.iload_n 2, 1) := by decide +kernel
theorem d_Mod_restore_80 : decode b_Mod_restore 80 = .ok (.iadd, 1) := by decide +kernel
theorem d_Mod_restore_81 : decode b_Mod_restore 81 = .ok (.laload, 1) := by decide +kernel
theorem d_Mod_restore_82 : decode b_Mod_restore 82 = .ok (.lastore, 1) := by decide +kernel
theorem d_Mod_restore_83 : decode b_Mod_restore 83 = .ok (.iinc 2 1, 3) := by decide +kernel
theorem d_Mod_restore_86 : decode b_Mod_restore 86 = .ok (.goto (-26), 3) := by decide +kernel
theorem d_Mod_restore_89 : decode b_Mod_restore 89 = .ok (.iconst 1, 1) := by decide +kernel
theorem d_Mod_restore_90 : decode b_Mod_restore 90 = .ok (.ireturn, 1) := by decide +kernel
noncomputable def f_Mod_restore_L27 (z : Nat → Nat) (o : Nat) (v1 : Int32) (s27 : Int32 × Mm) : Option ((Int32 × Mm) ⊕ (Mm)) :=
  if (744 : Int32) ≤ s27.1 then (
    some (.inr s27.2)
  ) else (
    (mm_ldI (s27.2.1 (o + 18)) (z (o + 18)) (((744 : Int32) * v1) + s27.1)).bind fun x50 =>
    (mm_stI s27.2 (o + 2) (z (o + 2)) s27.1 x50).bind fun m51 =>
    mm_lt (s27.1 + (1 : Int32)) fun x52 =>
    some (.inl (x52, m51))
  )
noncomputable def f_Mod_restore_L60 (z : Nat → Nat) (o : Nat) (v1 : Int32) (s60 : Int32 × Mm) : Option ((Int32 × Mm) ⊕ (Mm)) :=
  if (18 : Int32) ≤ s60.1 then (
    some (.inr s60.2)
  ) else (
    (mm_ldL (s60.2.2 (o + 19)) (z (o + 19)) (((18 : Int32) * v1) + s60.1)).bind fun x81 =>
    (mm_stL s60.2 (o + 5) (z (o + 5)) s60.1 x81).bind fun m82 =>
    mm_lt (s60.1 + (1 : Int32)) fun x83 =>
    some (.inl (x83, m82))
  )
noncomputable def f_Mod_restore (z : Nat → Nat) (σ : Mm) (o : Nat) (p1 : Int32) : Option (Int32 × Mm) :=
  mm_lt (kI σ o 0 (0 : Int32)) fun m2 =>
  (f_Mod_isIn z m2 p1 (0 : Int32) (1 : Int32)).bind fun q8 =>
  if q8 = 0 then (
    some ((0 : Int32), m2)
  ) else (
    (mm_ldI (m2.1 (o + 20)) (z (o + 20)) p1).bind fun x19 =>
    if x19 = 0 then (
      some ((0 : Int32), m2)
    ) else (
      (mm_lp (f_Mod_restore_L27 z o p1) ((0 : Int32), m2)).bind (fun q27 =>
        (mm_lp (f_Mod_restore_L60 z o p1) ((0 : Int32), q27)).bind (fun q60 =>
          some ((1 : Int32), q60)))
    )
  )
set_option maxHeartbeats 4000000 in
set_option maxRecDepth 100000 in
theorem c_Mod_restore (l : Launch) {L : Ly} (hg : gd_ok L) {σ : Mm} {o : Nat} {p1 : Int32} (k_o_0 : ly_k L o = 11) {res : Int32 × Mm} (hf0 : f_Mod_restore (ly_z L) σ o p1 = some res) : CtI l y_Mod_restore b_Mod_restore 3 (some .boolean) rm_Mod_restore L [.ref (ly_a L o), .int p1] σ res.1 res.2 := by
  refine ct_z hg (by decide) (Nat.le_of_ble_eq_true rfl) ?_
  intro E A Q hE C hN
  subst hE
  have k_o_20 : ly_k L (o + 20) = 23 := gd_Mod_isKept hg k_o_0
  have k_o_18 : ly_k L (o + 18) = 20 := gd_Mod_kept hg k_o_0
  have k_o_2 : ly_k L (o + 2) = 20 := gd_Mod_s hg k_o_0
  have k_o_19 : ly_k L (o + 19) = 21 := gd_Mod_namesKept hg k_o_0
  have k_o_5 : ly_k L (o + 5) = 21 := gd_Mod_names hg k_o_0
  unfold f_Mod_restore at hf0
  show GW E L A 3 0 0 Q σ 0 [(0, .ref (ly_a L o)), (1, .int p1)] []
  refine gw_aload_n C 0 d_Mod_restore_0 rfl rfl ?_
  refine gw_iconst C (0 : Int32) d_Mod_restore_1 (by decide) ?_
  obtain ⟨m2, em2, hf0⟩ := mx_lt hf0
  refine gw_putI t_Mod C 0 d_Mod_restore_2 k_o_0 (by decide) i_Mod rfl rfl (by decide) qw_1165 rfl rfl t_Mod_ok n_Mod rfl (t_Mod_ok 0 (by decide)) rfl rfl em2 ?_
  refine gw_iload_n C 1 d_Mod_restore_5 rfl rfl ?_
  refine gw_iconst C (0 : Int32) d_Mod_restore_6 (by decide) ?_
  refine gw_iconst C (1 : Int32) d_Mod_restore_7 (by decide) ?_
  obtain ⟨q8, hq8, hf0⟩ := mx_bd hf0
  refine gw_callIS C (c_Mod_isIn _ hg hq8) d_Mod_restore_8 3 qw_1356 qw_1357 qw_12 qw_1358 hd_Mod_isIn rfl rfl (Nat.le_of_ble_eq_true rfl) ⟨rfl, rfl, Nat.le_of_ble_eq_true rfl, Nat.le_of_ble_eq_true rfl⟩ ⟨Nat.zero_le _, Nat.zero_le _⟩ ?_
  refine gw_if_eq C 23 d_Mod_restore_11 (by decide) (fun hc => ?_) (fun hc => ?_)
  · replace hf0 := mx_t hc hf0
    refine gw_iconst C (0 : Int32) d_Mod_restore_23 (by decide) ?_
    exact en_z hN (Or.inl rfl) hf0 d_Mod_restore_24
  · replace hf0 := mx_f hc hf0
    refine gw_aload_n C 0 d_Mod_restore_14 rfl rfl ?_
    refine gw_getA C 44 d_Mod_restore_15 k_o_0 (by decide) i_Mod rfl rfl (by decide) qw_1209 rfl rfl (o + 20) rfl ?_
    refine gw_iload_n C 1 d_Mod_restore_18 rfl rfl ?_
    obtain ⟨x19, hx19, hf0⟩ := mx_bd hf0
    obtain ⟨gx19, ex19⟩ := mx_ldI hx19
    refine gw_zald C d_Mod_restore_19 k_o_20 gx19 ex19 ?_
    refine gw_if_ne C 25 d_Mod_restore_20 (by decide) (fun hc => ?_) (fun hc => ?_)
    · replace hf0 := mx_f hc hf0
      refine gw_iconst C (0 : Int32) d_Mod_restore_25 (by decide) ?_
      refine gw_istore_n C [(2, .int (0 : Int32)), (0, .ref (ly_a L o)), (1, .int p1)] d_Mod_restore_26 rfl (by decide) rfl ?_
      obtain ⟨q27, hq27, hf0⟩ := mx_bd hf0
      have hk27 : ∀ x9, q27 = x9 → GW E L A 3 0 0 Q x9 58 [(0, .ref (ly_a L o)), (1, .int p1)] [] := by
        intro x9 hx9
        subst hx9
        refine gw_iconst C (0 : Int32) d_Mod_restore_58 (by decide) ?_
        refine gw_istore_n C [(2, .int (0 : Int32)), (0, .ref (ly_a L o)), (1, .int p1)] d_Mod_restore_59 rfl (by decide) rfl ?_
        obtain ⟨q60, hq60, hf0⟩ := mx_bd hf0
        have hk60 : ∀ x9, q60 = x9 → GW E L A 3 0 0 Q x9 89 [] [] := by
          intro x9 hx9
          subst hx9
          refine gw_iconst C (1 : Int32) d_Mod_restore_89 (by decide) ?_
          exact en_z hN (Or.inr rfl) hf0 d_Mod_restore_90
        refine gw_sub [1, 2, 0] (lv' := [(0, .ref (ly_a L o)), (1, .int p1), (2, .int (0 : Int32))]) rfl ?_
        refine mm_rule hq60 (P := fun (s60 : Int32 × Mm) => GW E L A 3 0 0 Q s60.2 60 [(0, .ref (ly_a L o)), (1, .int p1), (2, .int s60.1)] []) ?_
        intro s60 ih60 hx60 ⟨w60, hb60⟩
        have hf1 := hb60
        unfold f_Mod_restore_L60 at hf1
        refine gw_iload_n C 2 d_Mod_restore_60 rfl rfl ?_
        refine gw_bipush C (18 : Int32) d_Mod_restore_61 (by decide) ?_
        refine gw_icmp_ge C 89 d_Mod_restore_63 (by decide) (fun hc => ?_) (fun hc => ?_)
        · replace hf1 := mx_t hc hf1
          exact gw_go [] (hk60 s60.2 (hx60 _ (hb60.trans hf1.symm)).symm) rfl
        · replace hf1 := mx_f hc hf1
          refine gw_aload_n C 0 d_Mod_restore_66 rfl rfl ?_
          refine gw_getA C 9 d_Mod_restore_67 k_o_0 (by decide) i_Mod rfl rfl (by decide) qw_1174 rfl rfl (o + 5) rfl ?_
          refine gw_iload_n C 2 d_Mod_restore_70 rfl rfl ?_
          refine gw_aload_n C 0 d_Mod_restore_71 rfl rfl ?_
          refine gw_getA C 43 d_Mod_restore_72 k_o_0 (by decide) i_Mod rfl rfl (by decide) qw_1208 rfl rfl (o + 19) rfl ?_
          refine gw_bipush C (18 : Int32) d_Mod_restore_75 (by decide) ?_
          refine gw_iload_n C 1 d_Mod_restore_77 rfl rfl ?_
          refine gw_imul C d_Mod_restore_78 ?_
          refine gw_iload_n C 2 d_Mod_restore_79 rfl rfl ?_
          refine gw_iadd C d_Mod_restore_80 ?_
          obtain ⟨x81, hx81, hf1⟩ := mx_bd hf1
          obtain ⟨gx81, ex81⟩ := mx_ldL hx81
          refine gw_lald C d_Mod_restore_81 k_o_19 gx81 ex81 ?_
          obtain ⟨m82, hm82, hf1⟩ := mx_bd hf1
          obtain ⟨gm82, em82⟩ := mx_stL hm82
          refine gw_last C d_Mod_restore_82 k_o_5 gm82 em82 ?_
          obtain ⟨x83, ex83, hf1⟩ := mx_lt hf1
          refine gw_iinc C 2 [(2, .int x83), (0, .ref (ly_a L o)), (1, .int p1)] d_Mod_restore_83 rfl (by rw [ex83]; rfl) (by decide) rfl ?_
          refine gw_goto C 60 d_Mod_restore_86 (by decide) ?_
          exact gw_go [1, 2, 0] (ih60 (x83, m82) (hb60.trans hf1.symm)) rfl
      refine gw_sub [1, 2, 0] (lv' := [(0, .ref (ly_a L o)), (1, .int p1), (2, .int (0 : Int32))]) rfl ?_
      refine mm_rule hq27 (P := fun (s27 : Int32 × Mm) => GW E L A 3 0 0 Q s27.2 27 [(0, .ref (ly_a L o)), (1, .int p1), (2, .int s27.1)] []) ?_
      intro s27 ih27 hx27 ⟨w27, hb27⟩
      have hf1 := hb27
      unfold f_Mod_restore_L27 at hf1
      refine gw_iload_n C 2 d_Mod_restore_27 rfl rfl ?_
      refine gw_sipush C (744 : Int32) d_Mod_restore_28 (by decide) ?_
      refine gw_icmp_ge C 58 d_Mod_restore_31 (by decide) (fun hc => ?_) (fun hc => ?_)
      · replace hf1 := mx_t hc hf1
        exact gw_go [0, 1] (hk27 s27.2 (hx27 _ (hb27.trans hf1.symm)).symm) rfl
      · replace hf1 := mx_f hc hf1
        refine gw_aload_n C 0 d_Mod_restore_34 rfl rfl ?_
        refine gw_getA C 6 d_Mod_restore_35 k_o_0 (by decide) i_Mod rfl rfl (by decide) qw_1171 rfl rfl (o + 2) rfl ?_
        refine gw_iload_n C 2 d_Mod_restore_38 rfl rfl ?_
        refine gw_aload_n C 0 d_Mod_restore_39 rfl rfl ?_
        refine gw_getA C 42 d_Mod_restore_40 k_o_0 (by decide) i_Mod rfl rfl (by decide) qw_1207 rfl rfl (o + 18) rfl ?_
        refine gw_sipush C (744 : Int32) d_Mod_restore_43 (by decide) ?_
        refine gw_iload_n C 1 d_Mod_restore_46 rfl rfl ?_
        refine gw_imul C d_Mod_restore_47 ?_
        refine gw_iload_n C 2 d_Mod_restore_48 rfl rfl ?_
        refine gw_iadd C d_Mod_restore_49 ?_
        obtain ⟨x50, hx50, hf1⟩ := mx_bd hf1
        obtain ⟨gx50, ex50⟩ := mx_ldI hx50
        refine gw_iald C d_Mod_restore_50 k_o_18 gx50 ex50 ?_
        obtain ⟨m51, hm51, hf1⟩ := mx_bd hf1
        obtain ⟨gm51, em51⟩ := mx_stI hm51
        refine gw_iast C d_Mod_restore_51 k_o_2 gm51 em51 ?_
        obtain ⟨x52, ex52, hf1⟩ := mx_lt hf1
        refine gw_iinc C 2 [(2, .int x52), (0, .ref (ly_a L o)), (1, .int p1)] d_Mod_restore_52 rfl (by rw [ex52]; rfl) (by decide) rfl ?_
        refine gw_goto C 27 d_Mod_restore_55 (by decide) ?_
        exact gw_go [1, 2, 0] (ih27 (x52, m51) (hb27.trans hf1.symm)) rfl
    · replace hf0 := mx_t hc hf0
      refine gw_iconst C (0 : Int32) d_Mod_restore_23 (by decide) ?_
      exact en_z hN (Or.inl rfl) hf0 d_Mod_restore_24

/-! NameHatModel.count(I)I -/
abbrev b_Mod_count : ByteArray := prog_14_method_87_code
def y_Mod_count : MethodName := ⟨"NameHatModel", "count", "(I)I"⟩
abbrev rm_Mod_count : Room := { frames := 1, cells := 0, slots := 0, locals := 22 }
theorem hd_Mod_count : y_Mod_count.cls ≠ "java/lang/invoke/MethodHandle" ∧ y_Mod_count.cls ≠ "java/lang/invoke/VarHandle" ∧ (parseMethodDescriptor y_Mod_count.desc).map (fun d => d.parameters.length) = some 1 := by decide +kernel
theorem d_Mod_count_0 : decode b_Mod_count 0 = .ok (.aload_n 0, 1) := by decide +kernel
theorem d_Mod_count_1 : decode b_Mod_count 1 = .ok (.iconst 0, 1) := by decide +kernel
theorem d_Mod_count_2 : decode b_Mod_count 2 = .ok (.putfield 1, 3) := by decide +kernel
theorem d_Mod_count_5 : decode b_Mod_count 5 = .ok (.iload_n 1, 1) := by decide +kernel
theorem d_Mod_count_6 : decode b_Mod_count 6 = .ok (.tableswitch 62 5 8 #[30, 39, 48, 53], 30) := by decide +kernel
theorem d_Mod_count_36 : decode b_Mod_count 36 = .ok (.aload_n 0, 1) := by decide +kernel
theorem d_Mod_count_37 : decode b_Mod_count 37 = .ok (.getfield 33, 3) := by decide +kernel
theorem d_Mod_count_40 : decode b_Mod_count 40 = .ok (.sipush 131, 3) := by decide +kernel
theorem d_Mod_count_43 : decode b_Mod_count 43 = .ok (.iaload, 1) := by decide +kernel
theorem d_Mod_count_44 : decode b_Mod_count 44 = .ok (.ireturn, 1) := by decide +kernel
theorem d_Mod_count_45 : decode b_Mod_count 45 = .ok (.aload_n 0, 1) := by decide +kernel
theorem d_Mod_count_46 : decode b_Mod_count 46 = .ok (.getfield 33, 3) := by decide +kernel
theorem d_Mod_count_49 : decode b_Mod_count 49 = .ok (.sipush 532, 3) := by decide +kernel
theorem d_Mod_count_52 : decode b_Mod_count 52 = .ok (.iaload, 1) := by decide +kernel
theorem d_Mod_count_53 : decode b_Mod_count 53 = .ok (.ireturn, 1) := by decide +kernel
theorem d_Mod_count_54 : decode b_Mod_count 54 = .ok (.aload_n 0, 1) := by decide +kernel
theorem d_Mod_count_55 : decode b_Mod_count 55 = .ok (.getfield 7, 3) := by decide +kernel
theorem d_Mod_count_58 : decode b_Mod_count 58 = .ok (.ireturn, 1) := by decide +kernel
theorem d_Mod_count_59 : decode b_Mod_count 59 = .ok (.aload_n 0, 1) := by decide +kernel
theorem d_Mod_count_60 : decode b_Mod_count 60 = .ok (.getfield 33, 3) := by decide +kernel
theorem d_Mod_count_63 : decode b_Mod_count 63 = .ok (.sipush 623, 3) := by decide +kernel
theorem d_Mod_count_66 : decode b_Mod_count 66 = .ok (.iaload, 1) := by decide +kernel
theorem d_Mod_count_67 : decode b_Mod_count 67 = .ok (.ireturn, 1) := by decide +kernel
theorem d_Mod_count_68 : decode b_Mod_count 68 = .ok (.iload_n 1, 1) := by decide +kernel
theorem d_Mod_count_69 : decode b_Mod_count 69 = .ok (.iconst 0, 1) := by decide +kernel
theorem d_Mod_count_70 : decode b_Mod_count 70 = .ok (.iconst 4, 1) := by decide +kernel
theorem d_Mod_count_71 : decode b_Mod_count 71 = .ok (.invokestatic 175, 3) := by decide +kernel
theorem d_Mod_count_74 : decode b_Mod_count 74 = .ok (.ifCond .eq 12, 3) := by decide +kernel
theorem d_Mod_count_77 : decode b_Mod_count 77 = .ok (.aload_n 0, 1) := by decide +kernel
theorem d_Mod_count_78 : decode b_Mod_count 78 = .ok (.getfield 33, 3) := by decide +kernel
theorem d_Mod_count_81 : decode b_Mod_count 81 = .ok (.iload_n 1, 1) := by decide +kernel
theorem d_Mod_count_82 : decode b_Mod_count 82 = .ok (.iaload, 1) := by decide +kernel
theorem d_Mod_count_83 : decode b_Mod_count 83 = .ok (.goto 4, 3) := by decide +kernel
theorem d_Mod_count_86 : decode b_Mod_count 86 = .ok (.iconst (-1), 1) := by decide +kernel
theorem d_Mod_count_87 : decode b_Mod_count 87 = .ok (.ireturn, 1) := by decide +kernel
noncomputable def f_Mod_count (z : Nat → Nat) (σ : Mm) (o : Nat) (p1 : Int32) : Option (Int32 × Mm) :=
  mm_lt (kI σ o 0 (0 : Int32)) fun m2 =>
  if p1 = (5 : Int32) then (
    (mm_ldI (m2.1 (o + 2)) (z (o + 2)) (131 : Int32)).bind fun x43 =>
    some (x43, m2)
  ) else (
  if p1 = (6 : Int32) then (
    (mm_ldI (m2.1 (o + 2)) (z (o + 2)) (532 : Int32)).bind fun x52 =>
    some (x52, m2)
  ) else (
  if p1 = (7 : Int32) then (
    some ((m2.1 o 2), m2)
  ) else (
  if p1 = (8 : Int32) then (
    (mm_ldI (m2.1 (o + 2)) (z (o + 2)) (623 : Int32)).bind fun x66 =>
    some (x66, m2)
  ) else (
    (f_Mod_isIn z m2 p1 (0 : Int32) (4 : Int32)).bind fun q71 =>
    if q71 = 0 then (
      some (((-1) : Int32), m2)
    ) else (
      (mm_ldI (m2.1 (o + 2)) (z (o + 2)) p1).bind fun x82 =>
      some (x82, m2)
    )
  ))))
set_option maxHeartbeats 4000000 in
set_option maxRecDepth 100000 in
theorem c_Mod_count (l : Launch) {L : Ly} (hg : gd_ok L) {σ : Mm} {o : Nat} {p1 : Int32} (k_o_0 : ly_k L o = 11) {res : Int32 × Mm} (hf0 : f_Mod_count (ly_z L) σ o p1 = some res) : CtI l y_Mod_count b_Mod_count 2 (some .int) rm_Mod_count L [.ref (ly_a L o), .int p1] σ res.1 res.2 := by
  refine ct_i hg (by decide) (Nat.le_of_ble_eq_true rfl) ?_
  intro E A Q hE C hN
  subst hE
  have k_o_2 : ly_k L (o + 2) = 20 := gd_Mod_s hg k_o_0
  unfold f_Mod_count at hf0
  show GW E L A 2 0 0 Q σ 0 [(0, .ref (ly_a L o)), (1, .int p1)] []
  refine gw_aload_n C 0 d_Mod_count_0 rfl rfl ?_
  refine gw_iconst C (0 : Int32) d_Mod_count_1 (by decide) ?_
  obtain ⟨m2, em2, hf0⟩ := mx_lt hf0
  refine gw_putI t_Mod C 0 d_Mod_count_2 k_o_0 (by decide) i_Mod rfl rfl (by decide) qw_1165 rfl rfl t_Mod_ok n_Mod rfl (t_Mod_ok 0 (by decide)) rfl rfl em2 ?_
  refine gw_iload_n C 1 d_Mod_count_5 rfl rfl ?_
  by_cases hc5 : p1 = (5 : Int32)
  · replace hf0 := mx_t hc5 hf0
    refine gw_tabEq (off := 30) C 36 hc5 d_Mod_count_6 (by decide) (by decide) (by decide) (by decide) ?_
    refine gw_aload_n C 0 d_Mod_count_36 rfl rfl ?_
    refine gw_getA C 6 d_Mod_count_37 k_o_0 (by decide) i_Mod rfl rfl (by decide) qw_1171 rfl rfl (o + 2) rfl ?_
    refine gw_sipush C (131 : Int32) d_Mod_count_40 (by decide) ?_
    obtain ⟨x43, hx43, hf0⟩ := mx_bd hf0
    obtain ⟨gx43, ex43⟩ := mx_ldI hx43
    refine gw_iald C d_Mod_count_43 k_o_2 gx43 ex43 ?_
    exact en_i hN hf0 d_Mod_count_44
  replace hf0 := mx_f hc5 hf0
  have hn5 := lv_neT hc5 (show ((5 : Int32)).toInt = 5 by decide)
  by_cases hc6 : p1 = (6 : Int32)
  · replace hf0 := mx_t hc6 hf0
    refine gw_tabEq (off := 39) C 45 hc6 d_Mod_count_6 (by decide) (by decide) (by decide) (by decide) ?_
    refine gw_aload_n C 0 d_Mod_count_45 rfl rfl ?_
    refine gw_getA C 6 d_Mod_count_46 k_o_0 (by decide) i_Mod rfl rfl (by decide) qw_1171 rfl rfl (o + 2) rfl ?_
    refine gw_sipush C (532 : Int32) d_Mod_count_49 (by decide) ?_
    obtain ⟨x52, hx52, hf0⟩ := mx_bd hf0
    obtain ⟨gx52, ex52⟩ := mx_ldI hx52
    refine gw_iald C d_Mod_count_52 k_o_2 gx52 ex52 ?_
    exact en_i hN hf0 d_Mod_count_53
  replace hf0 := mx_f hc6 hf0
  have hn6 := lv_neT hc6 (show ((6 : Int32)).toInt = 6 by decide)
  by_cases hc7 : p1 = (7 : Int32)
  · replace hf0 := mx_t hc7 hf0
    refine gw_tabEq (off := 48) C 54 hc7 d_Mod_count_6 (by decide) (by decide) (by decide) (by decide) ?_
    refine gw_aload_n C 0 d_Mod_count_54 rfl rfl ?_
    refine gw_getI C 2 d_Mod_count_55 k_o_0 (by decide) i_Mod rfl rfl (by decide) qw_1167 rfl rfl ?_
    exact en_i hN hf0 d_Mod_count_58
  replace hf0 := mx_f hc7 hf0
  have hn7 := lv_neT hc7 (show ((7 : Int32)).toInt = 7 by decide)
  by_cases hc8 : p1 = (8 : Int32)
  · replace hf0 := mx_t hc8 hf0
    refine gw_tabEq (off := 53) C 59 hc8 d_Mod_count_6 (by decide) (by decide) (by decide) (by decide) ?_
    refine gw_aload_n C 0 d_Mod_count_59 rfl rfl ?_
    refine gw_getA C 6 d_Mod_count_60 k_o_0 (by decide) i_Mod rfl rfl (by decide) qw_1171 rfl rfl (o + 2) rfl ?_
    refine gw_sipush C (623 : Int32) d_Mod_count_63 (by decide) ?_
    obtain ⟨x66, hx66, hf0⟩ := mx_bd hf0
    obtain ⟨gx66, ex66⟩ := mx_ldI hx66
    refine gw_iald C d_Mod_count_66 k_o_2 gx66 ex66 ?_
    exact en_i hN hf0 d_Mod_count_67
  replace hf0 := mx_f hc8 hf0
  have hn8 := lv_neT hc8 (show ((8 : Int32)).toInt = 8 by decide)
  refine gw_tabOut C 68 d_Mod_count_6 (by omega) (by decide) ?_
  refine gw_iload_n C 1 d_Mod_count_68 rfl rfl ?_
  refine gw_iconst C (0 : Int32) d_Mod_count_69 (by decide) ?_
  refine gw_iconst C (4 : Int32) d_Mod_count_70 (by decide) ?_
  obtain ⟨q71, hq71, hf0⟩ := mx_bd hf0
  refine gw_callIS C (c_Mod_isIn _ hg hq71) d_Mod_count_71 3 qw_1356 qw_1357 qw_12 qw_1358 hd_Mod_isIn rfl rfl (Nat.le_of_ble_eq_true rfl) ⟨rfl, rfl, Nat.le_of_ble_eq_true rfl, Nat.le_of_ble_eq_true rfl⟩ ⟨Nat.zero_le _, Nat.zero_le _⟩ ?_
  refine gw_if_eq C 86 d_Mod_count_74 (by decide) (fun hc => ?_) (fun hc => ?_)
  · replace hf0 := mx_t hc hf0
    refine gw_iconst C ((-1) : Int32) d_Mod_count_86 (by decide) ?_
    exact en_i hN hf0 d_Mod_count_87
  · replace hf0 := mx_f hc hf0
    refine gw_aload_n C 0 d_Mod_count_77 rfl rfl ?_
    refine gw_getA C 6 d_Mod_count_78 k_o_0 (by decide) i_Mod rfl rfl (by decide) qw_1171 rfl rfl (o + 2) rfl ?_
    refine gw_iload_n C 1 d_Mod_count_81 rfl rfl ?_
    obtain ⟨x82, hx82, hf0⟩ := mx_bd hf0
    obtain ⟨gx82, ex82⟩ := mx_ldI hx82
    refine gw_iald C d_Mod_count_82 k_o_2 gx82 ex82 ?_
    refine gw_goto C 87 d_Mod_count_83 (by decide) ?_
    exact en_i hN hf0 d_Mod_count_87
