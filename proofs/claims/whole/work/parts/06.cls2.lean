/-! NameHat.Island.want(III)V -/
abbrev b_Island_want : ByteArray := prog_4_method_5_code
def y_Island_want : MethodName := ⟨"NameHat$Island", "want", "(III)V"⟩
abbrev rm_Island_want : Room := { frames := 1, cells := 0, slots := 0, locals := 22 }
theorem hd_Island_want : y_Island_want.cls ≠ "java/lang/invoke/MethodHandle" ∧ y_Island_want.cls ≠ "java/lang/invoke/VarHandle" ∧ (parseMethodDescriptor y_Island_want.desc).map (fun d => d.parameters.length) = some 3 := by decide +kernel
theorem d_Island_want_0 : decode b_Island_want 0 = .ok (.aload_n 0, 1) := by decide +kernel
theorem d_Island_want_1 : decode b_Island_want 1 = .ok (.getfield 36, 3) := by decide +kernel
theorem d_Island_want_4 : decode b_Island_want 4 = .ok (.iload_n 1, 1) := by decide +kernel
theorem d_Island_want_5 : decode b_Island_want 5 = .ok (.bipush 10, 2) := by decide +kernel
theorem d_Island_want_7 : decode b_Island_want 7 = .ok (.imul, 1) := by decide +kernel
theorem d_Island_want_8 : decode b_Island_want 8 = .ok (.iload_n 2, 1) := by decide +kernel
theorem d_Island_want_9 : decode b_Island_want 9 = .ok (.iadd, 1) := by decide +kernel
theorem d_Island_want_10 : decode b_Island_want 10 = .ok (.iload_n 3, 1) := by decide +kernel
theorem d_Island_want_11 : decode b_Island_want 11 = .ok (.invokevirtual 66, 3) := by decide +kernel
theorem d_Island_want_14 : decode b_Island_want 14 = .ok (.return_, 1) := by decide +kernel
noncomputable def f_Island_want (z : Nat → Nat) (σ : Mm) (o : Nat) (p1 : Int32) (p2 : Int32) (p3 : Int32) : Option (Mm) :=
  (f_Row_put z σ (o + 11) ((p1 * (10 : Int32)) + p2) p3).bind fun q11 =>
  some q11
set_option maxHeartbeats 4000000 in
set_option maxRecDepth 100000 in
theorem c_Island_want (l : Launch) {L : Ly} (hg : gd_ok L) {σ : Mm} {o : Nat} {p1 : Int32} {p2 : Int32} {p3 : Int32} (k_o_0 : ly_k L o = 2) {res : Mm} (hf0 : f_Island_want (ly_z L) σ o p1 p2 p3 = some res) : CtV l y_Island_want b_Island_want 4 (none) rm_Island_want L [.ref (ly_a L o), .int p1, .int p2, .int p3] σ res := by
  refine ct_v hg (by decide) (Nat.le_of_ble_eq_true rfl) ?_
  intro E A Q hE C hN
  subst hE
  have k_o_11 : ly_k L (o + 11) = 0 := gd_Island_wants hg k_o_0
  unfold f_Island_want at hf0
  show GW E L A 4 0 0 Q σ 0 [(0, .ref (ly_a L o)), (1, .int p1), (2, .int p2), (3, .int p3)] []
  refine gw_aload_n C 0 d_Island_want_0 rfl rfl ?_
  refine gw_getA C 5 d_Island_want_1 k_o_0 (by decide) i_Island rfl rfl (by decide) qw_146 rfl rfl (o + 11) rfl ?_
  refine gw_iload_n C 1 d_Island_want_4 rfl rfl ?_
  refine gw_bipush C (10 : Int32) d_Island_want_5 (by decide) ?_
  refine gw_imul C d_Island_want_7 ?_
  refine gw_iload_n C 2 d_Island_want_8 rfl rfl ?_
  refine gw_iadd C d_Island_want_9 ?_
  refine gw_iload_n C 3 d_Island_want_10 rfl rfl ?_
  obtain ⟨q11, hq11, hf0⟩ := mx_bd hf0
  refine gw_callV C (c_Row_put _ hg k_o_11 hq11) d_Island_want_11 2 qw_623 qw_461 qw_462 qw_4 qw_463 k_o_11 (by decide) rfl hd_Row_put rfl rfl (Nat.le_of_ble_eq_true rfl) ⟨rfl, rfl, Nat.le_of_ble_eq_true rfl, Nat.le_of_ble_eq_true rfl⟩ ⟨Nat.zero_le _, Nat.zero_le _⟩ ?_
  exact en_v hN hf0 d_Island_want_14

/-! NameHat.Reader.wantsLine()Z -/
abbrev b_Reader_wantsLine : ByteArray := prog_6_method_12_code
def y_Reader_wantsLine : MethodName := ⟨"NameHat$Reader", "wantsLine", "()Z"⟩
abbrev rm_Reader_wantsLine : Room := { frames := 13, cells := 0, slots := 0, locals := 468 }
theorem hd_Reader_wantsLine : y_Reader_wantsLine.cls ≠ "java/lang/invoke/MethodHandle" ∧ y_Reader_wantsLine.cls ≠ "java/lang/invoke/VarHandle" ∧ (parseMethodDescriptor y_Reader_wantsLine.desc).map (fun d => d.parameters.length) = some 0 := by decide +kernel
theorem d_Reader_wantsLine_0 : decode b_Reader_wantsLine 0 = .ok (.aload_n 0, 1) := by decide +kernel
theorem d_Reader_wantsLine_1 : decode b_Reader_wantsLine 1 = .ok (.getfield 12, 3) := by decide +kernel
theorem d_Reader_wantsLine_4 : decode b_Reader_wantsLine 4 = .ok (.invokevirtual 46, 3) := by decide +kernel
theorem d_Reader_wantsLine_7 : decode b_Reader_wantsLine 7 = .ok (.aload_n 0, 1) := by decide +kernel
theorem d_Reader_wantsLine_8 : decode b_Reader_wantsLine 8 = .ok (.aload_n 0, 1) := by decide +kernel
theorem d_Reader_wantsLine_9 : decode b_Reader_wantsLine 9 = .ok (.getfield 21, 3) := by decide +kernel
theorem d_Reader_wantsLine_12 : decode b_Reader_wantsLine 12 = .ok (.getfield 84, 3) := by decide +kernel
theorem d_Reader_wantsLine_15 : decode b_Reader_wantsLine 15 = .ok (.getfield 104, 3) := by decide +kernel
theorem d_Reader_wantsLine_18 : decode b_Reader_wantsLine 18 = .ok (.invokevirtual 161, 3) := by decide +kernel
theorem d_Reader_wantsLine_21 : decode b_Reader_wantsLine 21 = .ok (.ifCond .ne 5, 3) := by decide +kernel
theorem d_Reader_wantsLine_24 : decode b_Reader_wantsLine 24 = .ok (.iconst 0, 1) := by decide +kernel
theorem d_Reader_wantsLine_25 : decode b_Reader_wantsLine 25 = .ok (.ireturn, 1) := by decide +kernel
theorem d_Reader_wantsLine_26 : decode b_Reader_wantsLine 26 = .ok (.aload_n 0, 1) := by decide +kernel
theorem d_Reader_wantsLine_27 : decode b_Reader_wantsLine 27 = .ok (.getfield 107, 3) := by decide +kernel
theorem d_Reader_wantsLine_30 : decode b_Reader_wantsLine 30 = .ok (.istore_n 1, 1) := by decide +kernel
theorem d_Reader_wantsLine_31 : decode b_Reader_wantsLine 31 = .ok (.aload_n 0, 1) := by decide +kernel
theorem d_Reader_wantsLine_32 : decode b_Reader_wantsLine 32 = .ok (.getfield 12, 3) := by decide +kernel
theorem d_Reader_wantsLine_35 : decode b_Reader_wantsLine 35 = .ok (.invokevirtual 46, 3) := by decide +kernel
theorem d_Reader_wantsLine_38 : decode b_Reader_wantsLine 38 = .ok (.aload_n 0, 1) := by decide +kernel
theorem d_Reader_wantsLine_39 : decode b_Reader_wantsLine 39 = .ok (.aload_n 0, 1) := by decide +kernel
theorem d_Reader_wantsLine_40 : decode b_Reader_wantsLine 40 = .ok (.getfield 21, 3) := by decide +kernel
theorem d_Reader_wantsLine_43 : decode b_Reader_wantsLine 43 = .ok (.getfield 84, 3) := by decide +kernel
theorem d_Reader_wantsLine_46 : decode b_Reader_wantsLine 46 = .ok (.getfield 88, 3) := by decide +kernel
theorem d_Reader_wantsLine_49 : decode b_Reader_wantsLine 49 = .ok (.invokevirtual 161, 3) := by decide +kernel
theorem d_Reader_wantsLine_52 : decode b_Reader_wantsLine 52 = .ok (.ifCond .ne 5, 3) := by decide +kernel
theorem d_Reader_wantsLine_55 : decode b_Reader_wantsLine 55 = .ok (.iconst 0, 1) := by decide +kernel
theorem d_Reader_wantsLine_56 : decode b_Reader_wantsLine 56 = .ok (.ireturn, 1) := by decide +kernel
theorem d_Reader_wantsLine_57 : decode b_Reader_wantsLine 57 = .ok (.aload_n 0, 1) := by decide +kernel
theorem d_Reader_wantsLine_58 : decode b_Reader_wantsLine 58 = .ok (.getfield 107, 3) := by decide +kernel
theorem d_Reader_wantsLine_61 : decode b_Reader_wantsLine 61 = .ok (.istore_n 2, 1) := by decide +kernel
theorem d_Reader_wantsLine_62 : decode b_Reader_wantsLine 62 = .ok (.aload_n 0, 1) := by decide +kernel
theorem d_Reader_wantsLine_63 : decode b_Reader_wantsLine 63 = .ok (.getfield 21, 3) := by decide +kernel
theorem d_Reader_wantsLine_66 : decode b_Reader_wantsLine 66 = .ok (.getfield 84, 3) := by decide +kernel
theorem d_Reader_wantsLine_69 : decode b_Reader_wantsLine 69 = .ok (.iload_n 1, 1) := by decide +kernel
theorem d_Reader_wantsLine_70 : decode b_Reader_wantsLine 70 = .ok (.iload_n 2, 1) := by decide +kernel
theorem d_Reader_wantsLine_71 : decode b_Reader_wantsLine 71 = .ok (.invokevirtual 178, 3) := by decide +kernel
theorem d_Reader_wantsLine_74 : decode b_Reader_wantsLine 74 = .ok (.iconst (-1), 1) := by decide +kernel
theorem d_Reader_wantsLine_75 : decode b_Reader_wantsLine 75 = .ok (.if_icmp .eq 9, 3) := by decide +kernel
theorem d_Reader_wantsLine_78 : decode b_Reader_wantsLine 78 = .ok (.aload_n 0, 1) := by decide +kernel
theorem d_Reader_wantsLine_79 : decode b_Reader_wantsLine 79 = .ok (.iconst 3, 1) := by decide +kernel
theorem d_Reader_wantsLine_80 : decode b_Reader_wantsLine 80 = .ok (.invokevirtual 71, 3) := by decide +kernel
theorem d_Reader_wantsLine_83 : decode b_Reader_wantsLine 83 = .ok (.ireturn, 1) := by decide +kernel
theorem d_Reader_wantsLine_84 : decode b_Reader_wantsLine 84 = .ok (.aload_n 0, 1) := by decide +kernel
theorem d_Reader_wantsLine_85 : decode b_Reader_wantsLine 85 = .ok (.getfield 12, 3) := by decide +kernel
theorem d_Reader_wantsLine_88 : decode b_Reader_wantsLine 88 = .ok (.invokevirtual 46, 3) := by decide +kernel
theorem d_Reader_wantsLine_91 : decode b_Reader_wantsLine 91 = .ok (.aload_n 0, 1) := by decide +kernel
theorem d_Reader_wantsLine_92 : decode b_Reader_wantsLine 92 = .ok (.iconst 0, 1) := by decide +kernel
theorem d_Reader_wantsLine_93 : decode b_Reader_wantsLine 93 = .ok (.bipush 99, 2) := by decide +kernel
theorem d_Reader_wantsLine_95 : decode b_Reader_wantsLine 95 = .ok (.invokevirtual 140, 3) := by decide +kernel
theorem d_Reader_wantsLine_98 : decode b_Reader_wantsLine 98 = .ok (.ifCond .ne 5, 3) := by decide +kernel
theorem d_Reader_wantsLine_101 : decode b_Reader_wantsLine 101 = .ok (.iconst 0, 1) := by decide +kernel
theorem d_Reader_wantsLine_102 : decode b_Reader_wantsLine 102 = .ok (.ireturn, 1) := by decide +kernel
theorem d_Reader_wantsLine_103 : decode b_Reader_wantsLine 103 = .ok (.aload_n 0, 1) := by decide +kernel
theorem d_Reader_wantsLine_104 : decode b_Reader_wantsLine 104 = .ok (.getfield 21, 3) := by decide +kernel
theorem d_Reader_wantsLine_107 : decode b_Reader_wantsLine 107 = .ok (.getfield 84, 3) := by decide +kernel
theorem d_Reader_wantsLine_110 : decode b_Reader_wantsLine 110 = .ok (.iload_n 1, 1) := by decide +kernel
theorem d_Reader_wantsLine_111 : decode b_Reader_wantsLine 111 = .ok (.iload_n 2, 1) := by decide +kernel
theorem d_Reader_wantsLine_112 : decode b_Reader_wantsLine 112 = .ok (.aload_n 0, 1) := by decide +kernel
theorem d_Reader_wantsLine_113 : decode b_Reader_wantsLine 113 = .ok (.getfield 12, 3) := by decide +kernel
theorem d_Reader_wantsLine_116 : decode b_Reader_wantsLine 116 = .ok (.getfield 75, 3) := by decide +kernel
theorem d_Reader_wantsLine_119 : decode b_Reader_wantsLine 119 = .ok (.invokevirtual 182, 3) := by decide +kernel
theorem d_Reader_wantsLine_122 : decode b_Reader_wantsLine 122 = .ok (.aload_n 0, 1) := by decide +kernel
theorem d_Reader_wantsLine_123 : decode b_Reader_wantsLine 123 = .ok (.getfield 12, 3) := by decide +kernel
theorem d_Reader_wantsLine_126 : decode b_Reader_wantsLine 126 = .ok (.invokevirtual 46, 3) := by decide +kernel
theorem d_Reader_wantsLine_129 : decode b_Reader_wantsLine 129 = .ok (.iconst 1, 1) := by decide +kernel
theorem d_Reader_wantsLine_130 : decode b_Reader_wantsLine 130 = .ok (.ireturn, 1) := by decide +kernel
noncomputable def f_Reader_wantsLine (z : Nat → Nat) (σ : Mm) (o : Nat) : Option (Int32 × Mm) :=
  (f_Tokens_step z σ (o + 1)).bind fun q4 =>
  (f_Reader_isOneOf z q4 o (o + 8)).bind fun q18 =>
  if q18.1 = 0 then (
    some ((0 : Int32), q18.2)
  ) else (
    mm_lt ((q18.2.1 o 5)) fun x30 =>
    (f_Tokens_step z q18.2 (o + 1)).bind fun q35 =>
    (f_Reader_isOneOf z q35 o (o + 6)).bind fun q49 =>
    if q49.1 = 0 then (
      some ((0 : Int32), q49.2)
    ) else (
      mm_lt ((q49.2.1 o 5)) fun x61 =>
      (f_Island_wanted z q49.2 (o + 5) x30 x61).bind fun q71 =>
      if q71 = ((-1) : Int32) then (
        (f_Tokens_step z q49.2 (o + 1)).bind fun q88 =>
        (f_Reader_isNumber z q88 o (0 : Int32) (99 : Int32)).bind fun q95 =>
        if q95.1 = 0 then (
          some ((0 : Int32), q95.2)
        ) else (
          (f_Island_want z q95.2 (o + 5) x30 x61 (q95.2.1 (o + 1) 6)).bind fun q119 =>
          (f_Tokens_step z q119 (o + 1)).bind fun q126 =>
          some ((1 : Int32), q126)
        )
      ) else (
        (f_Reader_fail z q49.2 o (3 : Int32)).bind fun q80 =>
        (mm_zb q80.1).bind fun y83 =>
        some (y83, q80.2)
      )
    )
  )
set_option maxHeartbeats 4000000 in
set_option maxRecDepth 100000 in
theorem c_Reader_wantsLine (l : Launch) {L : Ly} (hg : gd_ok L) {σ : Mm} {o : Nat} (k_o_0 : ly_k L o = 9) {res : Int32 × Mm} (hf0 : f_Reader_wantsLine (ly_z L) σ o = some res) : CtI l y_Reader_wantsLine b_Reader_wantsLine 3 (some .boolean) rm_Reader_wantsLine L [.ref (ly_a L o)] σ res.1 res.2 := by
  refine ct_z hg (by decide) (Nat.le_of_ble_eq_true rfl) ?_
  intro E A Q hE C hN
  subst hE
  have k_o_1 : ly_k L (o + 1) = 8 := gd_Reader_tokens hg k_o_0
  have k_o_4 : ly_k L (o + 4) = 4 := gd_Reader_draft hg k_o_0
  have k_o_5 : ly_k L (o + 5) = 2 := gd_State_island hg k_o_4
  have k_o_8 : ly_k L (o + 8) = 1 := gd_Island_houses hg k_o_5
  have k_o_6 : ly_k L (o + 6) = 1 := gd_Island_surnames hg k_o_5
  unfold f_Reader_wantsLine at hf0
  show GW E L A 3 0 0 Q σ 0 [(0, .ref (ly_a L o))] []
  refine gw_aload_n C 0 d_Reader_wantsLine_0 rfl rfl ?_
  refine gw_getA C 0 d_Reader_wantsLine_1 k_o_0 (by decide) i_Reader rfl rfl (by decide) qw_287 rfl rfl (o + 1) rfl ?_
  obtain ⟨q4, hq4, hf0⟩ := mx_bd hf0
  refine gw_callV C (c_Tokens_step _ hg k_o_1 hq4) d_Reader_wantsLine_4 0 qw_481 qw_482 qw_483 qw_3 qw_484 k_o_1 (by decide) rfl hd_Tokens_step rfl rfl (Nat.le_of_ble_eq_true rfl) ⟨rfl, rfl, Nat.le_of_ble_eq_true rfl, Nat.le_of_ble_eq_true rfl⟩ ⟨Nat.zero_le _, Nat.zero_le _⟩ ?_
  refine gw_aload_n C 0 d_Reader_wantsLine_7 rfl rfl ?_
  refine gw_aload_n C 0 d_Reader_wantsLine_8 rfl rfl ?_
  refine gw_getA C 1 d_Reader_wantsLine_9 k_o_0 (by decide) i_Reader rfl rfl (by decide) qw_289 rfl rfl (o + 4) rfl ?_
  refine gw_getAN C 0 d_Reader_wantsLine_12 k_o_4 (by decide) i_State rfl rfl (by decide) qw_236 rfl rfl (o + 5) rfl ?_
  refine gw_getAN C 1 d_Reader_wantsLine_15 k_o_5 (by decide) i_Island rfl rfl (by decide) qw_135 rfl rfl (o + 8) rfl ?_
  obtain ⟨q18, hq18, hf0⟩ := mx_bd hf0
  refine gw_callI C (c_Reader_isOneOf _ hg k_o_0 k_o_8 hq18) d_Reader_wantsLine_18 1 qw_601 qw_603 qs_9 qw_2 qw_604 k_o_0 (by decide) rfl hd_Reader_isOneOf rfl rfl (Nat.le_of_ble_eq_true rfl) ⟨rfl, rfl, Nat.le_of_ble_eq_true rfl, Nat.le_of_ble_eq_true rfl⟩ ⟨Nat.zero_le _, Nat.zero_le _⟩ ?_
  refine gw_if_ne C 26 d_Reader_wantsLine_21 (by decide) (fun hc => ?_) (fun hc => ?_)
  · replace hf0 := mx_f hc hf0
    refine gw_aload_n C 0 d_Reader_wantsLine_26 rfl rfl ?_
    refine gw_getI C 5 d_Reader_wantsLine_27 k_o_0 (by decide) i_Reader rfl rfl (by decide) qw_297 rfl rfl ?_
    obtain ⟨x30, ex30, hf0⟩ := mx_lt hf0
    refine gw_topi ex30 ?_
    refine gw_istore_n C [(1, .int x30), (0, .ref (ly_a L o))] d_Reader_wantsLine_30 rfl (by decide) rfl ?_
    refine gw_aload_n C 1 d_Reader_wantsLine_31 rfl rfl ?_
    refine gw_getA C 0 d_Reader_wantsLine_32 k_o_0 (by decide) i_Reader rfl rfl (by decide) qw_287 rfl rfl (o + 1) rfl ?_
    obtain ⟨q35, hq35, hf0⟩ := mx_bd hf0
    refine gw_callV C (c_Tokens_step _ hg k_o_1 hq35) d_Reader_wantsLine_35 0 qw_481 qw_482 qw_483 qw_3 qw_484 k_o_1 (by decide) rfl hd_Tokens_step rfl rfl (Nat.le_of_ble_eq_true rfl) ⟨rfl, rfl, Nat.le_of_ble_eq_true rfl, Nat.le_of_ble_eq_true rfl⟩ ⟨Nat.zero_le _, Nat.zero_le _⟩ ?_
    refine gw_aload_n C 1 d_Reader_wantsLine_38 rfl rfl ?_
    refine gw_aload_n C 1 d_Reader_wantsLine_39 rfl rfl ?_
    refine gw_getA C 1 d_Reader_wantsLine_40 k_o_0 (by decide) i_Reader rfl rfl (by decide) qw_289 rfl rfl (o + 4) rfl ?_
    refine gw_getAN C 0 d_Reader_wantsLine_43 k_o_4 (by decide) i_State rfl rfl (by decide) qw_236 rfl rfl (o + 5) rfl ?_
    refine gw_getAN C 0 d_Reader_wantsLine_46 k_o_5 (by decide) i_Island rfl rfl (by decide) qw_127 rfl rfl (o + 6) rfl ?_
    obtain ⟨q49, hq49, hf0⟩ := mx_bd hf0
    refine gw_callI C (c_Reader_isOneOf _ hg k_o_0 k_o_6 hq49) d_Reader_wantsLine_49 1 qw_601 qw_603 qs_9 qw_2 qw_604 k_o_0 (by decide) rfl hd_Reader_isOneOf rfl rfl (Nat.le_of_ble_eq_true rfl) ⟨rfl, rfl, Nat.le_of_ble_eq_true rfl, Nat.le_of_ble_eq_true rfl⟩ ⟨Nat.zero_le _, Nat.zero_le _⟩ ?_
    refine gw_if_ne C 57 d_Reader_wantsLine_52 (by decide) (fun hc => ?_) (fun hc => ?_)
    · replace hf0 := mx_f hc hf0
      refine gw_aload_n C 1 d_Reader_wantsLine_57 rfl rfl ?_
      refine gw_getI C 5 d_Reader_wantsLine_58 k_o_0 (by decide) i_Reader rfl rfl (by decide) qw_297 rfl rfl ?_
      obtain ⟨x61, ex61, hf0⟩ := mx_lt hf0
      refine gw_topi ex61 ?_
      refine gw_istore_n C [(2, .int x61), (1, .int x30), (0, .ref (ly_a L o))] d_Reader_wantsLine_61 rfl (by decide) rfl ?_
      refine gw_aload_n C 2 d_Reader_wantsLine_62 rfl rfl ?_
      refine gw_getA C 1 d_Reader_wantsLine_63 k_o_0 (by decide) i_Reader rfl rfl (by decide) qw_289 rfl rfl (o + 4) rfl ?_
      refine gw_getAN C 0 d_Reader_wantsLine_66 k_o_4 (by decide) i_State rfl rfl (by decide) qw_236 rfl rfl (o + 5) rfl ?_
      refine gw_iload_n C 1 d_Reader_wantsLine_69 rfl rfl ?_
      refine gw_iload_n C 0 d_Reader_wantsLine_70 rfl rfl ?_
      obtain ⟨q71, hq71, hf0⟩ := mx_bd hf0
      refine gw_callI C (c_Island_wanted _ hg k_o_5 hq71) d_Reader_wantsLine_71 2 qw_614 qw_615 qw_616 qw_6 qw_617 k_o_5 (by decide) rfl hd_Island_wanted rfl rfl (Nat.le_of_ble_eq_true rfl) ⟨rfl, rfl, Nat.le_of_ble_eq_true rfl, Nat.le_of_ble_eq_true rfl⟩ ⟨Nat.zero_le _, Nat.zero_le _⟩ ?_
      refine gw_iconst C ((-1) : Int32) d_Reader_wantsLine_74 (by decide) ?_
      refine gw_icmp_eq C 84 d_Reader_wantsLine_75 (by decide) (fun hc => ?_) (fun hc => ?_)
      · replace hf0 := mx_t hc hf0
        refine gw_aload_n C 2 d_Reader_wantsLine_84 rfl rfl ?_
        refine gw_getA C 0 d_Reader_wantsLine_85 k_o_0 (by decide) i_Reader rfl rfl (by decide) qw_287 rfl rfl (o + 1) rfl ?_
        obtain ⟨q88, hq88, hf0⟩ := mx_bd hf0
        refine gw_callV C (c_Tokens_step _ hg k_o_1 hq88) d_Reader_wantsLine_88 0 qw_481 qw_482 qw_483 qw_3 qw_484 k_o_1 (by decide) rfl hd_Tokens_step rfl rfl (Nat.le_of_ble_eq_true rfl) ⟨rfl, rfl, Nat.le_of_ble_eq_true rfl, Nat.le_of_ble_eq_true rfl⟩ ⟨Nat.zero_le _, Nat.zero_le _⟩ ?_
        refine gw_aload_n C 2 d_Reader_wantsLine_91 rfl rfl ?_
        refine gw_iconst C (0 : Int32) d_Reader_wantsLine_92 (by decide) ?_
        refine gw_bipush C (99 : Int32) d_Reader_wantsLine_93 (by decide) ?_
        obtain ⟨q95, hq95, hf0⟩ := mx_bd hf0
        refine gw_callI C (c_Reader_isNumber _ hg k_o_0 hq95) d_Reader_wantsLine_95 2 qw_588 qw_590 qs_7 qw_2 qw_591 k_o_0 (by decide) rfl hd_Reader_isNumber rfl rfl (Nat.le_of_ble_eq_true rfl) ⟨rfl, rfl, Nat.le_of_ble_eq_true rfl, Nat.le_of_ble_eq_true rfl⟩ ⟨Nat.zero_le _, Nat.zero_le _⟩ ?_
        refine gw_if_ne C 103 d_Reader_wantsLine_98 (by decide) (fun hc => ?_) (fun hc => ?_)
        · replace hf0 := mx_f hc hf0
          refine gw_aload_n C 2 d_Reader_wantsLine_103 rfl rfl ?_
          refine gw_getA C 1 d_Reader_wantsLine_104 k_o_0 (by decide) i_Reader rfl rfl (by decide) qw_289 rfl rfl (o + 4) rfl ?_
          refine gw_getAN C 0 d_Reader_wantsLine_107 k_o_4 (by decide) i_State rfl rfl (by decide) qw_236 rfl rfl (o + 5) rfl ?_
          refine gw_iload_n C 1 d_Reader_wantsLine_110 rfl rfl ?_
          refine gw_iload_n C 0 d_Reader_wantsLine_111 rfl rfl ?_
          refine gw_aload_n C 2 d_Reader_wantsLine_112 rfl rfl ?_
          refine gw_getA C 0 d_Reader_wantsLine_113 k_o_0 (by decide) i_Reader rfl rfl (by decide) qw_287 rfl rfl (o + 1) rfl ?_
          refine gw_getIN C 6 d_Reader_wantsLine_116 k_o_1 (by decide) i_Tokens rfl rfl (by decide) qw_65 rfl rfl ?_
          obtain ⟨q119, hq119, hf0⟩ := mx_bd hf0
          refine gw_callV C (c_Island_want _ hg k_o_5 hq119) d_Reader_wantsLine_119 3 qw_619 qw_620 qw_621 qw_6 qw_622 k_o_5 (by decide) rfl hd_Island_want rfl rfl (Nat.le_of_ble_eq_true rfl) ⟨rfl, rfl, Nat.le_of_ble_eq_true rfl, Nat.le_of_ble_eq_true rfl⟩ ⟨Nat.zero_le _, Nat.zero_le _⟩ ?_
          refine gw_aload_n C 2 d_Reader_wantsLine_122 rfl rfl ?_
          refine gw_getA C 0 d_Reader_wantsLine_123 k_o_0 (by decide) i_Reader rfl rfl (by decide) qw_287 rfl rfl (o + 1) rfl ?_
          obtain ⟨q126, hq126, hf0⟩ := mx_bd hf0
          refine gw_callV C (c_Tokens_step _ hg k_o_1 hq126) d_Reader_wantsLine_126 0 qw_481 qw_482 qw_483 qw_3 qw_484 k_o_1 (by decide) rfl hd_Tokens_step rfl rfl (Nat.le_of_ble_eq_true rfl) ⟨rfl, rfl, Nat.le_of_ble_eq_true rfl, Nat.le_of_ble_eq_true rfl⟩ ⟨Nat.zero_le _, Nat.zero_le _⟩ ?_
          refine gw_iconst C (1 : Int32) d_Reader_wantsLine_129 (by decide) ?_
          exact en_z hN (Or.inr rfl) hf0 d_Reader_wantsLine_130
        · replace hf0 := mx_t hc hf0
          refine gw_iconst C (0 : Int32) d_Reader_wantsLine_101 (by decide) ?_
          exact en_z hN (Or.inl rfl) hf0 d_Reader_wantsLine_102
      · replace hf0 := mx_f hc hf0
        refine gw_aload_n C 2 d_Reader_wantsLine_78 rfl rfl ?_
        refine gw_iconst C (3 : Int32) d_Reader_wantsLine_79 (by decide) ?_
        obtain ⟨q80, hq80, hf0⟩ := mx_bd hf0
        refine gw_callI C (c_Reader_fail _ hg k_o_0 hq80) d_Reader_wantsLine_80 1 qw_568 qw_570 qs_4 qw_2 qw_571 k_o_0 (by decide) rfl hd_Reader_fail rfl rfl (Nat.le_of_ble_eq_true rfl) ⟨rfl, rfl, Nat.le_of_ble_eq_true rfl, Nat.le_of_ble_eq_true rfl⟩ ⟨Nat.zero_le _, Nat.zero_le _⟩ ?_
        obtain ⟨y83, hy83, hf0⟩ := mx_bd hf0
        obtain ⟨zy83, ey83⟩ := mx_zb hy83
        refine gw_topi ey83 ?_
        exact en_z hN zy83 hf0 d_Reader_wantsLine_83
    · replace hf0 := mx_t hc hf0
      refine gw_iconst C (0 : Int32) d_Reader_wantsLine_55 (by decide) ?_
      exact en_z hN (Or.inl rfl) hf0 d_Reader_wantsLine_56
  · replace hf0 := mx_t hc hf0
    refine gw_iconst C (0 : Int32) d_Reader_wantsLine_24 (by decide) ?_
    exact en_z hN (Or.inl rfl) hf0 d_Reader_wantsLine_25

/-! NameHat.Island.feud(II)Z -/
abbrev b_Island_feud : ByteArray := prog_4_method_9_code
def y_Island_feud : MethodName := ⟨"NameHat$Island", "feud", "(II)Z"⟩
abbrev rm_Island_feud : Room := { frames := 1, cells := 0, slots := 0, locals := 21 }
theorem hd_Island_feud : y_Island_feud.cls ≠ "java/lang/invoke/MethodHandle" ∧ y_Island_feud.cls ≠ "java/lang/invoke/VarHandle" ∧ (parseMethodDescriptor y_Island_feud.desc).map (fun d => d.parameters.length) = some 2 := by decide +kernel
theorem d_Island_feud_0 : decode b_Island_feud 0 = .ok (.iload_n 1, 1) := by decide +kernel
theorem d_Island_feud_1 : decode b_Island_feud 1 = .ok (.iconst (-1), 1) := by decide +kernel
theorem d_Island_feud_2 : decode b_Island_feud 2 = .ok (.if_icmp .eq 28, 3) := by decide +kernel
theorem d_Island_feud_5 : decode b_Island_feud 5 = .ok (.iload_n 2, 1) := by decide +kernel
theorem d_Island_feud_6 : decode b_Island_feud 6 = .ok (.iconst (-1), 1) := by decide +kernel
theorem d_Island_feud_7 : decode b_Island_feud 7 = .ok (.if_icmp .eq 23, 3) := by decide +kernel
theorem d_Island_feud_10 : decode b_Island_feud 10 = .ok (.aload_n 0, 1) := by decide +kernel
theorem d_Island_feud_11 : decode b_Island_feud 11 = .ok (.getfield 33, 3) := by decide +kernel
theorem d_Island_feud_14 : decode b_Island_feud 14 = .ok (.iload_n 1, 1) := by decide +kernel
theorem d_Island_feud_15 : decode b_Island_feud 15 = .ok (.invokevirtual 62, 3) := by decide +kernel
theorem d_Island_feud_18 : decode b_Island_feud 18 = .ok (.iload_n 2, 1) := by decide +kernel
theorem d_Island_feud_19 : decode b_Island_feud 19 = .ok (.ishr, 1) := by decide +kernel
theorem d_Island_feud_20 : decode b_Island_feud 20 = .ok (.iconst 1, 1) := by decide +kernel
theorem d_Island_feud_21 : decode b_Island_feud 21 = .ok (.iand, 1) := by decide +kernel
theorem d_Island_feud_22 : decode b_Island_feud 22 = .ok (.iconst 1, 1) := by decide +kernel
theorem d_Island_feud_23 : decode b_Island_feud 23 = .ok (.if_icmp .ne 7, 3) := by decide +kernel
theorem d_Island_feud_26 : decode b_Island_feud 26 = .ok (.iconst 1, 1) := by decide +kernel
theorem d_Island_feud_27 : decode b_Island_feud 27 = .ok (.goto 4, 3) := by decide +kernel
theorem d_Island_feud_30 : decode b_Island_feud 30 = .ok (.iconst 0, 1) := by decide +kernel
theorem d_Island_feud_31 : decode b_Island_feud 31 = .ok (.ireturn, 1) := by decide +kernel
noncomputable def f_Island_feud (z : Nat → Nat) (σ : Mm) (o : Nat) (p1 : Int32) (p2 : Int32) : Option (Int32) :=
  if p1 = ((-1) : Int32) then (
    some (0 : Int32)
  ) else (
    if p2 = ((-1) : Int32) then (
      some (0 : Int32)
    ) else (
      (f_Row_at z σ (o + 9) p1).bind fun q15 =>
      if ((q15 >>> (p2 &&& 31)) &&& (1 : Int32)) = (1 : Int32) then (
        some (1 : Int32)
      ) else (
        some (0 : Int32)
      )
    )
  )
set_option maxHeartbeats 4000000 in
set_option maxRecDepth 100000 in
theorem c_Island_feud (l : Launch) {L : Ly} (hg : gd_ok L) {σ : Mm} {o : Nat} {p1 : Int32} {p2 : Int32} (k_o_0 : ly_k L o = 2) {res : Int32} (hf0 : f_Island_feud (ly_z L) σ o p1 p2 = some res) : CtI l y_Island_feud b_Island_feud 3 (some .boolean) rm_Island_feud L [.ref (ly_a L o), .int p1, .int p2] σ res σ := by
  refine ct_z hg (by decide) (Nat.le_of_ble_eq_true rfl) ?_
  intro E A Q hE C hN
  subst hE
  have k_o_9 : ly_k L (o + 9) = 0 := gd_Island_feuds hg k_o_0
  unfold f_Island_feud at hf0
  show GW E L A 3 0 0 Q σ 0 [(0, .ref (ly_a L o)), (1, .int p1), (2, .int p2)] []
  refine gw_iload_n C 1 d_Island_feud_0 rfl rfl ?_
  refine gw_iconst C ((-1) : Int32) d_Island_feud_1 (by decide) ?_
  refine gw_icmp_eq C 30 d_Island_feud_2 (by decide) (fun hc => ?_) (fun hc => ?_)
  · replace hf0 := mx_t hc hf0
    refine gw_iconst C (0 : Int32) d_Island_feud_30 (by decide) ?_
    exact en_zp hN (Or.inl rfl) hf0 d_Island_feud_31
  · replace hf0 := mx_f hc hf0
    refine gw_iload_n C 2 d_Island_feud_5 rfl rfl ?_
    refine gw_iconst C ((-1) : Int32) d_Island_feud_6 (by decide) ?_
    refine gw_icmp_eq C 30 d_Island_feud_7 (by decide) (fun hc => ?_) (fun hc => ?_)
    · replace hf0 := mx_t hc hf0
      refine gw_iconst C (0 : Int32) d_Island_feud_30 (by decide) ?_
      exact en_zp hN (Or.inl rfl) hf0 d_Island_feud_31
    · replace hf0 := mx_f hc hf0
      refine gw_aload_n C 0 d_Island_feud_10 rfl rfl ?_
      refine gw_getA C 4 d_Island_feud_11 k_o_0 (by decide) i_Island rfl rfl (by decide) qw_144 rfl rfl (o + 9) rfl ?_
      refine gw_iload_n C 1 d_Island_feud_14 rfl rfl ?_
      obtain ⟨q15, hq15, hf0⟩ := mx_bd hf0
      refine gw_callI C (c_Row_at _ hg k_o_9 hq15) d_Island_feud_15 1 qw_618 qw_489 qw_490 qw_4 qw_491 k_o_9 (by decide) rfl hd_Row_at rfl rfl (Nat.le_of_ble_eq_true rfl) ⟨rfl, rfl, Nat.le_of_ble_eq_true rfl, Nat.le_of_ble_eq_true rfl⟩ ⟨Nat.zero_le _, Nat.zero_le _⟩ ?_
      refine gw_iload_n C 2 d_Island_feud_18 rfl rfl ?_
      refine gw_ishr C d_Island_feud_19 ?_
      refine gw_iconst C (1 : Int32) d_Island_feud_20 (by decide) ?_
      refine gw_iand C d_Island_feud_21 ?_
      refine gw_iconst C (1 : Int32) d_Island_feud_22 (by decide) ?_
      refine gw_icmp_ne C 30 d_Island_feud_23 (by decide) (fun hc => ?_) (fun hc => ?_)
      · replace hf0 := mx_f hc hf0
        refine gw_iconst C (0 : Int32) d_Island_feud_30 (by decide) ?_
        exact en_zp hN (Or.inl rfl) hf0 d_Island_feud_31
      · replace hf0 := mx_t hc hf0
        refine gw_iconst C (1 : Int32) d_Island_feud_26 (by decide) ?_
        refine gw_goto C 31 d_Island_feud_27 (by decide) ?_
        exact en_zp hN (Or.inr rfl) hf0 d_Island_feud_31

/-! NameHat.Island.startFeud(II)V -/
abbrev b_Island_startFeud : ByteArray := prog_4_method_10_code
def y_Island_startFeud : MethodName := ⟨"NameHat$Island", "startFeud", "(II)V"⟩
abbrev rm_Island_startFeud : Room := { frames := 1, cells := 0, slots := 0, locals := 22 }
theorem hd_Island_startFeud : y_Island_startFeud.cls ≠ "java/lang/invoke/MethodHandle" ∧ y_Island_startFeud.cls ≠ "java/lang/invoke/VarHandle" ∧ (parseMethodDescriptor y_Island_startFeud.desc).map (fun d => d.parameters.length) = some 2 := by decide +kernel
theorem d_Island_startFeud_0 : decode b_Island_startFeud 0 = .ok (.aload_n 0, 1) := by decide +kernel
theorem d_Island_startFeud_1 : decode b_Island_startFeud 1 = .ok (.getfield 33, 3) := by decide +kernel
theorem d_Island_startFeud_4 : decode b_Island_startFeud 4 = .ok (.iload_n 1, 1) := by decide +kernel
theorem d_Island_startFeud_5 : decode b_Island_startFeud 5 = .ok (.aload_n 0, 1) := by decide +kernel
theorem d_Island_startFeud_6 : decode b_Island_startFeud 6 = .ok (.getfield 33, 3) := by decide +kernel
theorem d_Island_startFeud_9 : decode b_Island_startFeud 9 = .ok (.iload_n 1, 1) := by decide +kernel
theorem d_Island_startFeud_10 : decode b_Island_startFeud 10 = .ok (.invokevirtual 62, 3) := by decide +kernel
theorem d_Island_startFeud_13 : decode b_Island_startFeud 13 = .ok (.iconst 1, 1) := by decide +kernel
theorem d_Island_startFeud_14 : decode b_Island_startFeud 14 = .ok (.iload_n 2, 1) := by decide +kernel
theorem d_Island_startFeud_15 : decode b_Island_startFeud 15 = .ok (.ishl, 1) := by decide +kernel
theorem d_Island_startFeud_16 : decode b_Island_startFeud 16 = .ok (.ior, 1) := by decide +kernel
theorem d_Island_startFeud_17 : decode b_Island_startFeud 17 = .ok (.invokevirtual 66, 3) := by decide +kernel
theorem d_Island_startFeud_20 : decode b_Island_startFeud 20 = .ok (.aload_n 0, 1) := by decide +kernel
theorem d_Island_startFeud_21 : decode b_Island_startFeud 21 = .ok (.getfield 33, 3) := by decide +kernel
theorem d_Island_startFeud_24 : decode b_Island_startFeud 24 = .ok (.iload_n 2, 1) := by decide +kernel
theorem d_Island_startFeud_25 : decode b_Island_startFeud 25 = .ok (.aload_n 0, 1) := by decide +kernel
theorem d_Island_startFeud_26 : decode b_Island_startFeud 26 = .ok (.getfield 33, 3) := by decide +kernel
theorem d_Island_startFeud_29 : decode b_Island_startFeud 29 = .ok (.iload_n 2, 1) := by decide +kernel
theorem d_Island_startFeud_30 : decode b_Island_startFeud 30 = .ok (.invokevirtual 62, 3) := by decide +kernel
theorem d_Island_startFeud_33 : decode b_Island_startFeud 33 = .ok (.iconst 1, 1) := by decide +kernel
theorem d_Island_startFeud_34 : decode b_Island_startFeud 34 = .ok (.iload_n 1, 1) := by decide +kernel
theorem d_Island_startFeud_35 : decode b_Island_startFeud 35 = .ok (.ishl, 1) := by decide +kernel
theorem d_Island_startFeud_36 : decode b_Island_startFeud 36 = .ok (.ior, 1) := by decide +kernel
theorem d_Island_startFeud_37 : decode b_Island_startFeud 37 = .ok (.invokevirtual 66, 3) := by decide +kernel
theorem d_Island_startFeud_40 : decode b_Island_startFeud 40 = .ok (.return_, 1) := by decide +kernel
noncomputable def f_Island_startFeud (z : Nat → Nat) (σ : Mm) (o : Nat) (p1 : Int32) (p2 : Int32) : Option (Mm) :=
  (f_Row_at z σ (o + 9) p1).bind fun q10 =>
  (f_Row_put z σ (o + 9) p1 (q10 ||| ((1 : Int32) <<< (p2 &&& 31)))).bind fun q17 =>
  (f_Row_at z q17 (o + 9) p2).bind fun q30 =>
  (f_Row_put z q17 (o + 9) p2 (q30 ||| ((1 : Int32) <<< (p1 &&& 31)))).bind fun q37 =>
  some q37
set_option maxHeartbeats 4000000 in
set_option maxRecDepth 100000 in
theorem c_Island_startFeud (l : Launch) {L : Ly} (hg : gd_ok L) {σ : Mm} {o : Nat} {p1 : Int32} {p2 : Int32} (k_o_0 : ly_k L o = 2) {res : Mm} (hf0 : f_Island_startFeud (ly_z L) σ o p1 p2 = some res) : CtV l y_Island_startFeud b_Island_startFeud 3 (none) rm_Island_startFeud L [.ref (ly_a L o), .int p1, .int p2] σ res := by
  refine ct_v hg (by decide) (Nat.le_of_ble_eq_true rfl) ?_
  intro E A Q hE C hN
  subst hE
  have k_o_9 : ly_k L (o + 9) = 0 := gd_Island_feuds hg k_o_0
  unfold f_Island_startFeud at hf0
  show GW E L A 3 0 0 Q σ 0 [(0, .ref (ly_a L o)), (1, .int p1), (2, .int p2)] []
  refine gw_aload_n C 0 d_Island_startFeud_0 rfl rfl ?_
  refine gw_getA C 4 d_Island_startFeud_1 k_o_0 (by decide) i_Island rfl rfl (by decide) qw_144 rfl rfl (o + 9) rfl ?_
  refine gw_iload_n C 1 d_Island_startFeud_4 rfl rfl ?_
  refine gw_aload_n C 0 d_Island_startFeud_5 rfl rfl ?_
  refine gw_getA C 4 d_Island_startFeud_6 k_o_0 (by decide) i_Island rfl rfl (by decide) qw_144 rfl rfl (o + 9) rfl ?_
  refine gw_iload_n C 1 d_Island_startFeud_9 rfl rfl ?_
  obtain ⟨q10, hq10, hf0⟩ := mx_bd hf0
  refine gw_callI C (c_Row_at _ hg k_o_9 hq10) d_Island_startFeud_10 1 qw_618 qw_489 qw_490 qw_4 qw_491 k_o_9 (by decide) rfl hd_Row_at rfl rfl (Nat.le_of_ble_eq_true rfl) ⟨rfl, rfl, Nat.le_of_ble_eq_true rfl, Nat.le_of_ble_eq_true rfl⟩ ⟨Nat.zero_le _, Nat.zero_le _⟩ ?_
  refine gw_iconst C (1 : Int32) d_Island_startFeud_13 (by decide) ?_
  refine gw_iload_n C 2 d_Island_startFeud_14 rfl rfl ?_
  refine gw_ishl C d_Island_startFeud_15 ?_
  refine gw_ior C d_Island_startFeud_16 ?_
  obtain ⟨q17, hq17, hf0⟩ := mx_bd hf0
  refine gw_callV C (c_Row_put _ hg k_o_9 hq17) d_Island_startFeud_17 2 qw_623 qw_461 qw_462 qw_4 qw_463 k_o_9 (by decide) rfl hd_Row_put rfl rfl (Nat.le_of_ble_eq_true rfl) ⟨rfl, rfl, Nat.le_of_ble_eq_true rfl, Nat.le_of_ble_eq_true rfl⟩ ⟨Nat.zero_le _, Nat.zero_le _⟩ ?_
  refine gw_aload_n C 0 d_Island_startFeud_20 rfl rfl ?_
  refine gw_getA C 4 d_Island_startFeud_21 k_o_0 (by decide) i_Island rfl rfl (by decide) qw_144 rfl rfl (o + 9) rfl ?_
  refine gw_iload_n C 2 d_Island_startFeud_24 rfl rfl ?_
  refine gw_aload_n C 0 d_Island_startFeud_25 rfl rfl ?_
  refine gw_getA C 4 d_Island_startFeud_26 k_o_0 (by decide) i_Island rfl rfl (by decide) qw_144 rfl rfl (o + 9) rfl ?_
  refine gw_iload_n C 2 d_Island_startFeud_29 rfl rfl ?_
  obtain ⟨q30, hq30, hf0⟩ := mx_bd hf0
  refine gw_callI C (c_Row_at _ hg k_o_9 hq30) d_Island_startFeud_30 1 qw_618 qw_489 qw_490 qw_4 qw_491 k_o_9 (by decide) rfl hd_Row_at rfl rfl (Nat.le_of_ble_eq_true rfl) ⟨rfl, rfl, Nat.le_of_ble_eq_true rfl, Nat.le_of_ble_eq_true rfl⟩ ⟨Nat.zero_le _, Nat.zero_le _⟩ ?_
  refine gw_iconst C (1 : Int32) d_Island_startFeud_33 (by decide) ?_
  refine gw_iload_n C 1 d_Island_startFeud_34 rfl rfl ?_
  refine gw_ishl C d_Island_startFeud_35 ?_
  refine gw_ior C d_Island_startFeud_36 ?_
  obtain ⟨q37, hq37, hf0⟩ := mx_bd hf0
  refine gw_callV C (c_Row_put _ hg k_o_9 hq37) d_Island_startFeud_37 2 qw_623 qw_461 qw_462 qw_4 qw_463 k_o_9 (by decide) rfl hd_Row_put rfl rfl (Nat.le_of_ble_eq_true rfl) ⟨rfl, rfl, Nat.le_of_ble_eq_true rfl, Nat.le_of_ble_eq_true rfl⟩ ⟨Nat.zero_le _, Nat.zero_le _⟩ ?_
  exact en_v hN hf0 d_Island_startFeud_40

/-! NameHat.Reader.feudLine()Z -/
abbrev b_Reader_feudLine : ByteArray := prog_6_method_13_code
def y_Reader_feudLine : MethodName := ⟨"NameHat$Reader", "feudLine", "()Z"⟩
abbrev rm_Reader_feudLine : Room := { frames := 13, cells := 0, slots := 0, locals := 468 }
theorem hd_Reader_feudLine : y_Reader_feudLine.cls ≠ "java/lang/invoke/MethodHandle" ∧ y_Reader_feudLine.cls ≠ "java/lang/invoke/VarHandle" ∧ (parseMethodDescriptor y_Reader_feudLine.desc).map (fun d => d.parameters.length) = some 0 := by decide +kernel
theorem d_Reader_feudLine_0 : decode b_Reader_feudLine 0 = .ok (.aload_n 0, 1) := by decide +kernel
theorem d_Reader_feudLine_1 : decode b_Reader_feudLine 1 = .ok (.getfield 12, 3) := by decide +kernel
theorem d_Reader_feudLine_4 : decode b_Reader_feudLine 4 = .ok (.invokevirtual 46, 3) := by decide +kernel
theorem d_Reader_feudLine_7 : decode b_Reader_feudLine 7 = .ok (.aload_n 0, 1) := by decide +kernel
theorem d_Reader_feudLine_8 : decode b_Reader_feudLine 8 = .ok (.aload_n 0, 1) := by decide +kernel
theorem d_Reader_feudLine_9 : decode b_Reader_feudLine 9 = .ok (.getfield 21, 3) := by decide +kernel
theorem d_Reader_feudLine_12 : decode b_Reader_feudLine 12 = .ok (.getfield 84, 3) := by decide +kernel
theorem d_Reader_feudLine_15 : decode b_Reader_feudLine 15 = .ok (.getfield 88, 3) := by decide +kernel
theorem d_Reader_feudLine_18 : decode b_Reader_feudLine 18 = .ok (.invokevirtual 161, 3) := by decide +kernel
theorem d_Reader_feudLine_21 : decode b_Reader_feudLine 21 = .ok (.ifCond .ne 5, 3) := by decide +kernel
theorem d_Reader_feudLine_24 : decode b_Reader_feudLine 24 = .ok (.iconst 0, 1) := by decide +kernel
theorem d_Reader_feudLine_25 : decode b_Reader_feudLine 25 = .ok (.ireturn, 1) := by decide +kernel
theorem d_Reader_feudLine_26 : decode b_Reader_feudLine 26 = .ok (.aload_n 0, 1) := by decide +kernel
theorem d_Reader_feudLine_27 : decode b_Reader_feudLine 27 = .ok (.getfield 107, 3) := by decide +kernel
theorem d_Reader_feudLine_30 : decode b_Reader_feudLine 30 = .ok (.istore_n 1, 1) := by decide +kernel
theorem d_Reader_feudLine_31 : decode b_Reader_feudLine 31 = .ok (.aload_n 0, 1) := by decide +kernel
theorem d_Reader_feudLine_32 : decode b_Reader_feudLine 32 = .ok (.getfield 12, 3) := by decide +kernel
theorem d_Reader_feudLine_35 : decode b_Reader_feudLine 35 = .ok (.invokevirtual 46, 3) := by decide +kernel
theorem d_Reader_feudLine_38 : decode b_Reader_feudLine 38 = .ok (.aload_n 0, 1) := by decide +kernel
theorem d_Reader_feudLine_39 : decode b_Reader_feudLine 39 = .ok (.aload_n 0, 1) := by decide +kernel
theorem d_Reader_feudLine_40 : decode b_Reader_feudLine 40 = .ok (.getfield 21, 3) := by decide +kernel
theorem d_Reader_feudLine_43 : decode b_Reader_feudLine 43 = .ok (.getfield 84, 3) := by decide +kernel
theorem d_Reader_feudLine_46 : decode b_Reader_feudLine 46 = .ok (.getfield 88, 3) := by decide +kernel
theorem d_Reader_feudLine_49 : decode b_Reader_feudLine 49 = .ok (.invokevirtual 161, 3) := by decide +kernel
theorem d_Reader_feudLine_52 : decode b_Reader_feudLine 52 = .ok (.ifCond .ne 5, 3) := by decide +kernel
theorem d_Reader_feudLine_55 : decode b_Reader_feudLine 55 = .ok (.iconst 0, 1) := by decide +kernel
theorem d_Reader_feudLine_56 : decode b_Reader_feudLine 56 = .ok (.ireturn, 1) := by decide +kernel
theorem d_Reader_feudLine_57 : decode b_Reader_feudLine 57 = .ok (.iload_n 1, 1) := by decide +kernel
theorem d_Reader_feudLine_58 : decode b_Reader_feudLine 58 = .ok (.aload_n 0, 1) := by decide +kernel
theorem d_Reader_feudLine_59 : decode b_Reader_feudLine 59 = .ok (.getfield 107, 3) := by decide +kernel
theorem d_Reader_feudLine_62 : decode b_Reader_feudLine 62 = .ok (.if_icmp .eq 21, 3) := by decide +kernel
theorem d_Reader_feudLine_65 : decode b_Reader_feudLine 65 = .ok (.aload_n 0, 1) := by decide +kernel
theorem d_Reader_feudLine_66 : decode b_Reader_feudLine 66 = .ok (.getfield 21, 3) := by decide +kernel
theorem d_Reader_feudLine_69 : decode b_Reader_feudLine 69 = .ok (.getfield 84, 3) := by decide +kernel
theorem d_Reader_feudLine_72 : decode b_Reader_feudLine 72 = .ok (.iload_n 1, 1) := by decide +kernel
theorem d_Reader_feudLine_73 : decode b_Reader_feudLine 73 = .ok (.aload_n 0, 1) := by decide +kernel
theorem d_Reader_feudLine_74 : decode b_Reader_feudLine 74 = .ok (.getfield 107, 3) := by decide +kernel
theorem d_Reader_feudLine_77 : decode b_Reader_feudLine 77 = .ok (.invokevirtual 186, 3) := by decide +kernel
theorem d_Reader_feudLine_80 : decode b_Reader_feudLine 80 = .ok (.ifCond .eq 9, 3) := by decide +kernel
theorem d_Reader_feudLine_83 : decode b_Reader_feudLine 83 = .ok (.aload_n 0, 1) := by decide +kernel
theorem d_Reader_feudLine_84 : decode b_Reader_feudLine 84 = .ok (.iconst 3, 1) := by decide +kernel
theorem d_Reader_feudLine_85 : decode b_Reader_feudLine 85 = .ok (.invokevirtual 71, 3) := by decide +kernel
theorem d_Reader_feudLine_88 : decode b_Reader_feudLine 88 = .ok (.ireturn, 1) := by decide +kernel
theorem d_Reader_feudLine_89 : decode b_Reader_feudLine 89 = .ok (.aload_n 0, 1) := by decide +kernel
theorem d_Reader_feudLine_90 : decode b_Reader_feudLine 90 = .ok (.getfield 21, 3) := by decide +kernel
theorem d_Reader_feudLine_93 : decode b_Reader_feudLine 93 = .ok (.getfield 84, 3) := by decide +kernel
theorem d_Reader_feudLine_96 : decode b_Reader_feudLine 96 = .ok (.iload_n 1, 1) := by decide +kernel
theorem d_Reader_feudLine_97 : decode b_Reader_feudLine 97 = .ok (.aload_n 0, 1) := by decide +kernel
theorem d_Reader_feudLine_98 : decode b_Reader_feudLine 98 = .ok (.getfield 107, 3) := by decide +kernel
theorem d_Reader_feudLine_101 : decode b_Reader_feudLine 101 = .ok (.invokevirtual 189, 3) := by decide +kernel
theorem d_Reader_feudLine_104 : decode b_Reader_feudLine 104 = .ok (.aload_n 0, 1) := by decide +kernel
theorem d_Reader_feudLine_105 : decode b_Reader_feudLine 105 = .ok (.getfield 12, 3) := by decide +kernel
theorem d_Reader_feudLine_108 : decode b_Reader_feudLine 108 = .ok (.invokevirtual 46, 3) := by decide +kernel
theorem d_Reader_feudLine_111 : decode b_Reader_feudLine 111 = .ok (.iconst 1, 1) := by decide +kernel
theorem d_Reader_feudLine_112 : decode b_Reader_feudLine 112 = .ok (.ireturn, 1) := by decide +kernel
noncomputable def f_Reader_feudLine_J83 (z : Nat → Nat) (o : Nat) (m83 : Mm) : Option (Int32 × Mm) :=
  (f_Reader_fail z m83 o (3 : Int32)).bind fun q85 =>
  (mm_zb q85.1).bind fun y88 =>
  some (y88, q85.2)
noncomputable def f_Reader_feudLine (z : Nat → Nat) (σ : Mm) (o : Nat) : Option (Int32 × Mm) :=
  (f_Tokens_step z σ (o + 1)).bind fun q4 =>
  (f_Reader_isOneOf z q4 o (o + 6)).bind fun q18 =>
  if q18.1 = 0 then (
    some ((0 : Int32), q18.2)
  ) else (
    mm_lt ((q18.2.1 o 5)) fun x30 =>
    (f_Tokens_step z q18.2 (o + 1)).bind fun q35 =>
    (f_Reader_isOneOf z q35 o (o + 6)).bind fun q49 =>
    if q49.1 = 0 then (
      some ((0 : Int32), q49.2)
    ) else (
      if x30 = (q49.2.1 o 5) then (
        f_Reader_feudLine_J83 z o q49.2
      ) else (
        (f_Island_feud z q49.2 (o + 5) x30 (q49.2.1 o 5)).bind fun q77 =>
        if q77 = 0 then (
          (f_Island_startFeud z q49.2 (o + 5) x30 (q49.2.1 o 5)).bind fun q101 =>
          (f_Tokens_step z q101 (o + 1)).bind fun q108 =>
          some ((1 : Int32), q108)
        ) else (
          f_Reader_feudLine_J83 z o q49.2
        )
      )
    )
  )
set_option maxHeartbeats 4000000 in
set_option maxRecDepth 100000 in
theorem c_Reader_feudLine (l : Launch) {L : Ly} (hg : gd_ok L) {σ : Mm} {o : Nat} (k_o_0 : ly_k L o = 9) {res : Int32 × Mm} (hf0 : f_Reader_feudLine (ly_z L) σ o = some res) : CtI l y_Reader_feudLine b_Reader_feudLine 2 (some .boolean) rm_Reader_feudLine L [.ref (ly_a L o)] σ res.1 res.2 := by
  refine ct_z hg (by decide) (Nat.le_of_ble_eq_true rfl) ?_
  intro E A Q hE C hN
  subst hE
  have k_o_1 : ly_k L (o + 1) = 8 := gd_Reader_tokens hg k_o_0
  have k_o_4 : ly_k L (o + 4) = 4 := gd_Reader_draft hg k_o_0
  have k_o_5 : ly_k L (o + 5) = 2 := gd_State_island hg k_o_4
  have k_o_6 : ly_k L (o + 6) = 1 := gd_Island_surnames hg k_o_5
  unfold f_Reader_feudLine at hf0
  show GW E L A 2 0 0 Q σ 0 [(0, .ref (ly_a L o))] []
  have hj83 : ∀ (m83 : Mm), f_Reader_feudLine_J83 (ly_z L) o m83 = some res → GW E L A 2 0 0 Q m83 83 [(0, .ref (ly_a L o))] [] := by
    intro m83 hf0
    unfold f_Reader_feudLine_J83 at hf0
    refine gw_aload_n C 0 d_Reader_feudLine_83 rfl rfl ?_
    refine gw_iconst C (3 : Int32) d_Reader_feudLine_84 (by decide) ?_
    obtain ⟨q85, hq85, hf0⟩ := mx_bd hf0
    refine gw_callI C (c_Reader_fail _ hg k_o_0 hq85) d_Reader_feudLine_85 1 qw_568 qw_570 qs_4 qw_2 qw_571 k_o_0 (by decide) rfl hd_Reader_fail rfl rfl (Nat.le_of_ble_eq_true rfl) ⟨rfl, rfl, Nat.le_of_ble_eq_true rfl, Nat.le_of_ble_eq_true rfl⟩ ⟨Nat.zero_le _, Nat.zero_le _⟩ ?_
    obtain ⟨y88, hy88, hf0⟩ := mx_bd hf0
    obtain ⟨zy88, ey88⟩ := mx_zb hy88
    refine gw_topi ey88 ?_
    exact en_z hN zy88 hf0 d_Reader_feudLine_88
  refine gw_aload_n C 0 d_Reader_feudLine_0 rfl rfl ?_
  refine gw_getA C 0 d_Reader_feudLine_1 k_o_0 (by decide) i_Reader rfl rfl (by decide) qw_287 rfl rfl (o + 1) rfl ?_
  obtain ⟨q4, hq4, hf0⟩ := mx_bd hf0
  refine gw_callV C (c_Tokens_step _ hg k_o_1 hq4) d_Reader_feudLine_4 0 qw_481 qw_482 qw_483 qw_3 qw_484 k_o_1 (by decide) rfl hd_Tokens_step rfl rfl (Nat.le_of_ble_eq_true rfl) ⟨rfl, rfl, Nat.le_of_ble_eq_true rfl, Nat.le_of_ble_eq_true rfl⟩ ⟨Nat.zero_le _, Nat.zero_le _⟩ ?_
  refine gw_aload_n C 0 d_Reader_feudLine_7 rfl rfl ?_
  refine gw_aload_n C 0 d_Reader_feudLine_8 rfl rfl ?_
  refine gw_getA C 1 d_Reader_feudLine_9 k_o_0 (by decide) i_Reader rfl rfl (by decide) qw_289 rfl rfl (o + 4) rfl ?_
  refine gw_getAN C 0 d_Reader_feudLine_12 k_o_4 (by decide) i_State rfl rfl (by decide) qw_236 rfl rfl (o + 5) rfl ?_
  refine gw_getAN C 0 d_Reader_feudLine_15 k_o_5 (by decide) i_Island rfl rfl (by decide) qw_127 rfl rfl (o + 6) rfl ?_
  obtain ⟨q18, hq18, hf0⟩ := mx_bd hf0
  refine gw_callI C (c_Reader_isOneOf _ hg k_o_0 k_o_6 hq18) d_Reader_feudLine_18 1 qw_601 qw_603 qs_9 qw_2 qw_604 k_o_0 (by decide) rfl hd_Reader_isOneOf rfl rfl (Nat.le_of_ble_eq_true rfl) ⟨rfl, rfl, Nat.le_of_ble_eq_true rfl, Nat.le_of_ble_eq_true rfl⟩ ⟨Nat.zero_le _, Nat.zero_le _⟩ ?_
  refine gw_if_ne C 26 d_Reader_feudLine_21 (by decide) (fun hc => ?_) (fun hc => ?_)
  · replace hf0 := mx_f hc hf0
    refine gw_aload_n C 0 d_Reader_feudLine_26 rfl rfl ?_
    refine gw_getI C 5 d_Reader_feudLine_27 k_o_0 (by decide) i_Reader rfl rfl (by decide) qw_297 rfl rfl ?_
    obtain ⟨x30, ex30, hf0⟩ := mx_lt hf0
    refine gw_topi ex30 ?_
    refine gw_istore_n C [(1, .int x30), (0, .ref (ly_a L o))] d_Reader_feudLine_30 rfl (by decide) rfl ?_
    refine gw_aload_n C 1 d_Reader_feudLine_31 rfl rfl ?_
    refine gw_getA C 0 d_Reader_feudLine_32 k_o_0 (by decide) i_Reader rfl rfl (by decide) qw_287 rfl rfl (o + 1) rfl ?_
    obtain ⟨q35, hq35, hf0⟩ := mx_bd hf0
    refine gw_callV C (c_Tokens_step _ hg k_o_1 hq35) d_Reader_feudLine_35 0 qw_481 qw_482 qw_483 qw_3 qw_484 k_o_1 (by decide) rfl hd_Tokens_step rfl rfl (Nat.le_of_ble_eq_true rfl) ⟨rfl, rfl, Nat.le_of_ble_eq_true rfl, Nat.le_of_ble_eq_true rfl⟩ ⟨Nat.zero_le _, Nat.zero_le _⟩ ?_
    refine gw_aload_n C 1 d_Reader_feudLine_38 rfl rfl ?_
    refine gw_aload_n C 1 d_Reader_feudLine_39 rfl rfl ?_
    refine gw_getA C 1 d_Reader_feudLine_40 k_o_0 (by decide) i_Reader rfl rfl (by decide) qw_289 rfl rfl (o + 4) rfl ?_
    refine gw_getAN C 0 d_Reader_feudLine_43 k_o_4 (by decide) i_State rfl rfl (by decide) qw_236 rfl rfl (o + 5) rfl ?_
    refine gw_getAN C 0 d_Reader_feudLine_46 k_o_5 (by decide) i_Island rfl rfl (by decide) qw_127 rfl rfl (o + 6) rfl ?_
    obtain ⟨q49, hq49, hf0⟩ := mx_bd hf0
    refine gw_callI C (c_Reader_isOneOf _ hg k_o_0 k_o_6 hq49) d_Reader_feudLine_49 1 qw_601 qw_603 qs_9 qw_2 qw_604 k_o_0 (by decide) rfl hd_Reader_isOneOf rfl rfl (Nat.le_of_ble_eq_true rfl) ⟨rfl, rfl, Nat.le_of_ble_eq_true rfl, Nat.le_of_ble_eq_true rfl⟩ ⟨Nat.zero_le _, Nat.zero_le _⟩ ?_
    refine gw_if_ne C 57 d_Reader_feudLine_52 (by decide) (fun hc => ?_) (fun hc => ?_)
    · replace hf0 := mx_f hc hf0
      refine gw_iload_n C 0 d_Reader_feudLine_57 rfl rfl ?_
      refine gw_aload_n C 1 d_Reader_feudLine_58 rfl rfl ?_
      refine gw_getI C 5 d_Reader_feudLine_59 k_o_0 (by decide) i_Reader rfl rfl (by decide) qw_297 rfl rfl ?_
      refine gw_icmp_eq C 83 d_Reader_feudLine_62 (by decide) (fun hc => ?_) (fun hc => ?_)
      · replace hf0 := mx_t hc hf0
        exact gw_go [1] (hj83 _ hf0) rfl
      · replace hf0 := mx_f hc hf0
        refine gw_aload_n C 1 d_Reader_feudLine_65 rfl rfl ?_
        refine gw_getA C 1 d_Reader_feudLine_66 k_o_0 (by decide) i_Reader rfl rfl (by decide) qw_289 rfl rfl (o + 4) rfl ?_
        refine gw_getAN C 0 d_Reader_feudLine_69 k_o_4 (by decide) i_State rfl rfl (by decide) qw_236 rfl rfl (o + 5) rfl ?_
        refine gw_iload_n C 0 d_Reader_feudLine_72 rfl rfl ?_
        refine gw_aload_n C 1 d_Reader_feudLine_73 rfl rfl ?_
        refine gw_getI C 5 d_Reader_feudLine_74 k_o_0 (by decide) i_Reader rfl rfl (by decide) qw_297 rfl rfl ?_
        obtain ⟨q77, hq77, hf0⟩ := mx_bd hf0
        refine gw_callI C (c_Island_feud _ hg k_o_5 hq77) d_Reader_feudLine_77 2 qw_628 qw_629 qw_630 qw_6 qw_631 k_o_5 (by decide) rfl hd_Island_feud rfl rfl (Nat.le_of_ble_eq_true rfl) ⟨rfl, rfl, Nat.le_of_ble_eq_true rfl, Nat.le_of_ble_eq_true rfl⟩ ⟨Nat.zero_le _, Nat.zero_le _⟩ ?_
        refine gw_if_eq C 89 d_Reader_feudLine_80 (by decide) (fun hc => ?_) (fun hc => ?_)
        · replace hf0 := mx_t hc hf0
          refine gw_aload_n C 1 d_Reader_feudLine_89 rfl rfl ?_
          refine gw_getA C 1 d_Reader_feudLine_90 k_o_0 (by decide) i_Reader rfl rfl (by decide) qw_289 rfl rfl (o + 4) rfl ?_
          refine gw_getAN C 0 d_Reader_feudLine_93 k_o_4 (by decide) i_State rfl rfl (by decide) qw_236 rfl rfl (o + 5) rfl ?_
          refine gw_iload_n C 0 d_Reader_feudLine_96 rfl rfl ?_
          refine gw_aload_n C 1 d_Reader_feudLine_97 rfl rfl ?_
          refine gw_getI C 5 d_Reader_feudLine_98 k_o_0 (by decide) i_Reader rfl rfl (by decide) qw_297 rfl rfl ?_
          obtain ⟨q101, hq101, hf0⟩ := mx_bd hf0
          refine gw_callV C (c_Island_startFeud _ hg k_o_5 hq101) d_Reader_feudLine_101 2 qw_632 qw_633 qw_634 qw_6 qw_635 k_o_5 (by decide) rfl hd_Island_startFeud rfl rfl (Nat.le_of_ble_eq_true rfl) ⟨rfl, rfl, Nat.le_of_ble_eq_true rfl, Nat.le_of_ble_eq_true rfl⟩ ⟨Nat.zero_le _, Nat.zero_le _⟩ ?_
          refine gw_aload_n C 1 d_Reader_feudLine_104 rfl rfl ?_
          refine gw_getA C 0 d_Reader_feudLine_105 k_o_0 (by decide) i_Reader rfl rfl (by decide) qw_287 rfl rfl (o + 1) rfl ?_
          obtain ⟨q108, hq108, hf0⟩ := mx_bd hf0
          refine gw_callV C (c_Tokens_step _ hg k_o_1 hq108) d_Reader_feudLine_108 0 qw_481 qw_482 qw_483 qw_3 qw_484 k_o_1 (by decide) rfl hd_Tokens_step rfl rfl (Nat.le_of_ble_eq_true rfl) ⟨rfl, rfl, Nat.le_of_ble_eq_true rfl, Nat.le_of_ble_eq_true rfl⟩ ⟨Nat.zero_le _, Nat.zero_le _⟩ ?_
          refine gw_iconst C (1 : Int32) d_Reader_feudLine_111 (by decide) ?_
          exact en_z hN (Or.inr rfl) hf0 d_Reader_feudLine_112
        · replace hf0 := mx_f hc hf0
          exact gw_go [1] (hj83 _ hf0) rfl
    · replace hf0 := mx_t hc hf0
      refine gw_iconst C (0 : Int32) d_Reader_feudLine_55 (by decide) ?_
      exact en_z hN (Or.inl rfl) hf0 d_Reader_feudLine_56
  · replace hf0 := mx_t hc hf0
    refine gw_iconst C (0 : Int32) d_Reader_feudLine_24 (by decide) ?_
    exact en_z hN (Or.inl rfl) hf0 d_Reader_feudLine_25

/-! NameHat.Reader.pewsLine()Z -/
abbrev b_Reader_pewsLine : ByteArray := prog_6_method_14_code
def y_Reader_pewsLine : MethodName := ⟨"NameHat$Reader", "pewsLine", "()Z"⟩
abbrev rm_Reader_pewsLine : Room := { frames := 13, cells := 0, slots := 0, locals := 468 }
theorem hd_Reader_pewsLine : y_Reader_pewsLine.cls ≠ "java/lang/invoke/MethodHandle" ∧ y_Reader_pewsLine.cls ≠ "java/lang/invoke/VarHandle" ∧ (parseMethodDescriptor y_Reader_pewsLine.desc).map (fun d => d.parameters.length) = some 0 := by decide +kernel
theorem d_Reader_pewsLine_0 : decode b_Reader_pewsLine 0 = .ok (.aload_n 0, 1) := by decide +kernel
theorem d_Reader_pewsLine_1 : decode b_Reader_pewsLine 1 = .ok (.getfield 36, 3) := by decide +kernel
theorem d_Reader_pewsLine_4 : decode b_Reader_pewsLine 4 = .ok (.ifCond .ne 10, 3) := by decide +kernel
theorem d_Reader_pewsLine_7 : decode b_Reader_pewsLine 7 = .ok (.aload_n 0, 1) := by decide +kernel
theorem d_Reader_pewsLine_8 : decode b_Reader_pewsLine 8 = .ok (.getfield 43, 3) := by decide +kernel
theorem d_Reader_pewsLine_11 : decode b_Reader_pewsLine 11 = .ok (.ifCond .eq 9, 3) := by decide +kernel
theorem d_Reader_pewsLine_14 : decode b_Reader_pewsLine 14 = .ok (.aload_n 0, 1) := by decide +kernel
theorem d_Reader_pewsLine_15 : decode b_Reader_pewsLine 15 = .ok (.iconst 3, 1) := by decide +kernel
theorem d_Reader_pewsLine_16 : decode b_Reader_pewsLine 16 = .ok (.invokevirtual 71, 3) := by decide +kernel
theorem d_Reader_pewsLine_19 : decode b_Reader_pewsLine 19 = .ok (.ireturn, 1) := by decide +kernel
theorem d_Reader_pewsLine_20 : decode b_Reader_pewsLine 20 = .ok (.aload_n 0, 1) := by decide +kernel
theorem d_Reader_pewsLine_21 : decode b_Reader_pewsLine 21 = .ok (.iconst 1, 1) := by decide +kernel
theorem d_Reader_pewsLine_22 : decode b_Reader_pewsLine 22 = .ok (.putfield 36, 3) := by decide +kernel
theorem d_Reader_pewsLine_25 : decode b_Reader_pewsLine 25 = .ok (.aload_n 0, 1) := by decide +kernel
theorem d_Reader_pewsLine_26 : decode b_Reader_pewsLine 26 = .ok (.getfield 12, 3) := by decide +kernel
theorem d_Reader_pewsLine_29 : decode b_Reader_pewsLine 29 = .ok (.invokevirtual 46, 3) := by decide +kernel
theorem d_Reader_pewsLine_32 : decode b_Reader_pewsLine 32 = .ok (.aload_n 0, 1) := by decide +kernel
theorem d_Reader_pewsLine_33 : decode b_Reader_pewsLine 33 = .ok (.iconst 1, 1) := by decide +kernel
theorem d_Reader_pewsLine_34 : decode b_Reader_pewsLine 34 = .ok (.iconst 4, 1) := by decide +kernel
theorem d_Reader_pewsLine_35 : decode b_Reader_pewsLine 35 = .ok (.invokevirtual 140, 3) := by decide +kernel
theorem d_Reader_pewsLine_38 : decode b_Reader_pewsLine 38 = .ok (.ifCond .ne 5, 3) := by decide +kernel
theorem d_Reader_pewsLine_41 : decode b_Reader_pewsLine 41 = .ok (.iconst 0, 1) := by decide +kernel
theorem d_Reader_pewsLine_42 : decode b_Reader_pewsLine 42 = .ok (.ireturn, 1) := by decide +kernel
theorem d_Reader_pewsLine_43 : decode b_Reader_pewsLine 43 = .ok (.aload_n 0, 1) := by decide +kernel
theorem d_Reader_pewsLine_44 : decode b_Reader_pewsLine 44 = .ok (.getfield 21, 3) := by decide +kernel
theorem d_Reader_pewsLine_47 : decode b_Reader_pewsLine 47 = .ok (.getfield 84, 3) := by decide +kernel
theorem d_Reader_pewsLine_50 : decode b_Reader_pewsLine 50 = .ok (.aload_n 0, 1) := by decide +kernel
theorem d_Reader_pewsLine_51 : decode b_Reader_pewsLine 51 = .ok (.getfield 12, 3) := by decide +kernel
theorem d_Reader_pewsLine_54 : decode b_Reader_pewsLine 54 = .ok (.getfield 75, 3) := by decide +kernel
theorem d_Reader_pewsLine_57 : decode b_Reader_pewsLine 57 = .ok (.putfield 192, 3) := by decide +kernel
theorem d_Reader_pewsLine_60 : decode b_Reader_pewsLine 60 = .ok (.aload_n 0, 1) := by decide +kernel
theorem d_Reader_pewsLine_61 : decode b_Reader_pewsLine 61 = .ok (.getfield 12, 3) := by decide +kernel
theorem d_Reader_pewsLine_64 : decode b_Reader_pewsLine 64 = .ok (.invokevirtual 46, 3) := by decide +kernel
theorem d_Reader_pewsLine_67 : decode b_Reader_pewsLine 67 = .ok (.aload_n 0, 1) := by decide +kernel
theorem d_Reader_pewsLine_68 : decode b_Reader_pewsLine 68 = .ok (.iconst 1, 1) := by decide +kernel
theorem d_Reader_pewsLine_69 : decode b_Reader_pewsLine 69 = .ok (.bipush 8, 2) := by decide +kernel
theorem d_Reader_pewsLine_71 : decode b_Reader_pewsLine 71 = .ok (.invokevirtual 140, 3) := by decide +kernel
theorem d_Reader_pewsLine_74 : decode b_Reader_pewsLine 74 = .ok (.ifCond .ne 5, 3) := by decide +kernel
theorem d_Reader_pewsLine_77 : decode b_Reader_pewsLine 77 = .ok (.iconst 0, 1) := by decide +kernel
theorem d_Reader_pewsLine_78 : decode b_Reader_pewsLine 78 = .ok (.ireturn, 1) := by decide +kernel
theorem d_Reader_pewsLine_79 : decode b_Reader_pewsLine 79 = .ok (.aload_n 0, 1) := by decide +kernel
theorem d_Reader_pewsLine_80 : decode b_Reader_pewsLine 80 = .ok (.getfield 21, 3) := by decide +kernel
theorem d_Reader_pewsLine_83 : decode b_Reader_pewsLine 83 = .ok (.getfield 84, 3) := by decide +kernel
theorem d_Reader_pewsLine_86 : decode b_Reader_pewsLine 86 = .ok (.aload_n 0, 1) := by decide +kernel
theorem d_Reader_pewsLine_87 : decode b_Reader_pewsLine 87 = .ok (.getfield 12, 3) := by decide +kernel
theorem d_Reader_pewsLine_90 : decode b_Reader_pewsLine 90 = .ok (.getfield 75, 3) := by decide +kernel
theorem d_Reader_pewsLine_93 : decode b_Reader_pewsLine 93 = .ok (.putfield 195, 3) := by decide +kernel
theorem d_Reader_pewsLine_96 : decode b_Reader_pewsLine 96 = .ok (.aload_n 0, 1) := by decide +kernel
theorem d_Reader_pewsLine_97 : decode b_Reader_pewsLine 97 = .ok (.getfield 12, 3) := by decide +kernel
theorem d_Reader_pewsLine_100 : decode b_Reader_pewsLine 100 = .ok (.invokevirtual 46, 3) := by decide +kernel
theorem d_Reader_pewsLine_103 : decode b_Reader_pewsLine 103 = .ok (.iconst 1, 1) := by decide +kernel
theorem d_Reader_pewsLine_104 : decode b_Reader_pewsLine 104 = .ok (.ireturn, 1) := by decide +kernel
noncomputable def f_Reader_pewsLine_J14 (z : Nat → Nat) (o : Nat) (m14 : Mm) : Option (Int32 × Mm) :=
  (f_Reader_fail z m14 o (3 : Int32)).bind fun q16 =>
  (mm_zb q16.1).bind fun y19 =>
  some (y19, q16.2)
noncomputable def f_Reader_pewsLine (z : Nat → Nat) (σ : Mm) (o : Nat) : Option (Int32 × Mm) :=
  if (σ.1 o 6) = 0 then (
    if (σ.1 o 8) = 0 then (
      mm_lt (kI σ o 6 (1 : Int32)) fun m22 =>
      (f_Tokens_step z m22 (o + 1)).bind fun q29 =>
      (f_Reader_isNumber z q29 o (1 : Int32) (4 : Int32)).bind fun q35 =>
      if q35.1 = 0 then (
        some ((0 : Int32), q35.2)
      ) else (
        mm_lt (kI q35.2 (o + 5) 6 (q35.2.1 (o + 1) 6)) fun m57 =>
        (f_Tokens_step z m57 (o + 1)).bind fun q64 =>
        (f_Reader_isNumber z q64 o (1 : Int32) (8 : Int32)).bind fun q71 =>
        if q71.1 = 0 then (
          some ((0 : Int32), q71.2)
        ) else (
          mm_lt (kI q71.2 (o + 5) 7 (q71.2.1 (o + 1) 6)) fun m93 =>
          (f_Tokens_step z m93 (o + 1)).bind fun q100 =>
          some ((1 : Int32), q100)
        )
      )
    ) else (
      f_Reader_pewsLine_J14 z o σ
    )
  ) else (
    f_Reader_pewsLine_J14 z o σ
  )
set_option maxHeartbeats 4000000 in
set_option maxRecDepth 100000 in
theorem c_Reader_pewsLine (l : Launch) {L : Ly} (hg : gd_ok L) {σ : Mm} {o : Nat} (k_o_0 : ly_k L o = 9) {res : Int32 × Mm} (hf0 : f_Reader_pewsLine (ly_z L) σ o = some res) : CtI l y_Reader_pewsLine b_Reader_pewsLine 1 (some .boolean) rm_Reader_pewsLine L [.ref (ly_a L o)] σ res.1 res.2 := by
  refine ct_z hg (by decide) (Nat.le_of_ble_eq_true rfl) ?_
  intro E A Q hE C hN
  subst hE
  have k_o_1 : ly_k L (o + 1) = 8 := gd_Reader_tokens hg k_o_0
  have k_o_4 : ly_k L (o + 4) = 4 := gd_Reader_draft hg k_o_0
  have k_o_5 : ly_k L (o + 5) = 2 := gd_State_island hg k_o_4
  unfold f_Reader_pewsLine at hf0
  show GW E L A 1 0 0 Q σ 0 [(0, .ref (ly_a L o))] []
  have hj14 : ∀ (m14 : Mm), f_Reader_pewsLine_J14 (ly_z L) o m14 = some res → GW E L A 1 0 0 Q m14 14 [(0, .ref (ly_a L o))] [] := by
    intro m14 hf0
    unfold f_Reader_pewsLine_J14 at hf0
    refine gw_aload_n C 0 d_Reader_pewsLine_14 rfl rfl ?_
    refine gw_iconst C (3 : Int32) d_Reader_pewsLine_15 (by decide) ?_
    obtain ⟨q16, hq16, hf0⟩ := mx_bd hf0
    refine gw_callI C (c_Reader_fail _ hg k_o_0 hq16) d_Reader_pewsLine_16 1 qw_568 qw_570 qs_4 qw_2 qw_571 k_o_0 (by decide) rfl hd_Reader_fail rfl rfl (Nat.le_of_ble_eq_true rfl) ⟨rfl, rfl, Nat.le_of_ble_eq_true rfl, Nat.le_of_ble_eq_true rfl⟩ ⟨Nat.zero_le _, Nat.zero_le _⟩ ?_
    obtain ⟨y19, hy19, hf0⟩ := mx_bd hf0
    obtain ⟨zy19, ey19⟩ := mx_zb hy19
    refine gw_topi ey19 ?_
    exact en_z hN zy19 hf0 d_Reader_pewsLine_19
  refine gw_aload_n C 0 d_Reader_pewsLine_0 rfl rfl ?_
  refine gw_getI C 6 d_Reader_pewsLine_1 k_o_0 (by decide) i_Reader rfl rfl (by decide) qw_298 rfl rfl ?_
  refine gw_if_ne C 14 d_Reader_pewsLine_4 (by decide) (fun hc => ?_) (fun hc => ?_)
  · replace hf0 := mx_f hc hf0
    exact gw_go [0] (hj14 _ hf0) rfl
  · replace hf0 := mx_t hc hf0
    refine gw_aload_n C 0 d_Reader_pewsLine_7 rfl rfl ?_
    refine gw_getI C 8 d_Reader_pewsLine_8 k_o_0 (by decide) i_Reader rfl rfl (by decide) qw_300 rfl rfl ?_
    refine gw_if_eq C 20 d_Reader_pewsLine_11 (by decide) (fun hc => ?_) (fun hc => ?_)
    · replace hf0 := mx_t hc hf0
      refine gw_aload_n C 0 d_Reader_pewsLine_20 rfl rfl ?_
      refine gw_iconst C (1 : Int32) d_Reader_pewsLine_21 (by decide) ?_
      obtain ⟨m22, em22, hf0⟩ := mx_lt hf0
      refine gw_putI t_Reader C 6 d_Reader_pewsLine_22 k_o_0 (by decide) i_Reader rfl rfl (by decide) qw_298 rfl rfl t_Reader_ok n_Reader rfl (t_Reader_ok 6 (by decide)) rfl rfl em22 ?_
      refine gw_aload_n C 0 d_Reader_pewsLine_25 rfl rfl ?_
      refine gw_getA C 0 d_Reader_pewsLine_26 k_o_0 (by decide) i_Reader rfl rfl (by decide) qw_287 rfl rfl (o + 1) rfl ?_
      obtain ⟨q29, hq29, hf0⟩ := mx_bd hf0
      refine gw_callV C (c_Tokens_step _ hg k_o_1 hq29) d_Reader_pewsLine_29 0 qw_481 qw_482 qw_483 qw_3 qw_484 k_o_1 (by decide) rfl hd_Tokens_step rfl rfl (Nat.le_of_ble_eq_true rfl) ⟨rfl, rfl, Nat.le_of_ble_eq_true rfl, Nat.le_of_ble_eq_true rfl⟩ ⟨Nat.zero_le _, Nat.zero_le _⟩ ?_
      refine gw_aload_n C 0 d_Reader_pewsLine_32 rfl rfl ?_
      refine gw_iconst C (1 : Int32) d_Reader_pewsLine_33 (by decide) ?_
      refine gw_iconst C (4 : Int32) d_Reader_pewsLine_34 (by decide) ?_
      obtain ⟨q35, hq35, hf0⟩ := mx_bd hf0
      refine gw_callI C (c_Reader_isNumber _ hg k_o_0 hq35) d_Reader_pewsLine_35 2 qw_588 qw_590 qs_7 qw_2 qw_591 k_o_0 (by decide) rfl hd_Reader_isNumber rfl rfl (Nat.le_of_ble_eq_true rfl) ⟨rfl, rfl, Nat.le_of_ble_eq_true rfl, Nat.le_of_ble_eq_true rfl⟩ ⟨Nat.zero_le _, Nat.zero_le _⟩ ?_
      refine gw_if_ne C 43 d_Reader_pewsLine_38 (by decide) (fun hc => ?_) (fun hc => ?_)
      · replace hf0 := mx_f hc hf0
        refine gw_aload_n C 0 d_Reader_pewsLine_43 rfl rfl ?_
        refine gw_getA C 1 d_Reader_pewsLine_44 k_o_0 (by decide) i_Reader rfl rfl (by decide) qw_289 rfl rfl (o + 4) rfl ?_
        refine gw_getAN C 0 d_Reader_pewsLine_47 k_o_4 (by decide) i_State rfl rfl (by decide) qw_236 rfl rfl (o + 5) rfl ?_
        refine gw_aload_n C 0 d_Reader_pewsLine_50 rfl rfl ?_
        refine gw_getA C 0 d_Reader_pewsLine_51 k_o_0 (by decide) i_Reader rfl rfl (by decide) qw_287 rfl rfl (o + 1) rfl ?_
        refine gw_getIN C 6 d_Reader_pewsLine_54 k_o_1 (by decide) i_Tokens rfl rfl (by decide) qw_65 rfl rfl ?_
        obtain ⟨m57, em57, hf0⟩ := mx_lt hf0
        refine gw_putIN t_Island C 6 d_Reader_pewsLine_57 k_o_5 (by decide) i_Island rfl rfl (by decide) qw_149 rfl rfl t_Island_ok n_Island rfl (t_Island_ok 6 (by decide)) rfl rfl em57 ?_
        refine gw_aload_n C 0 d_Reader_pewsLine_60 rfl rfl ?_
        refine gw_getA C 0 d_Reader_pewsLine_61 k_o_0 (by decide) i_Reader rfl rfl (by decide) qw_287 rfl rfl (o + 1) rfl ?_
        obtain ⟨q64, hq64, hf0⟩ := mx_bd hf0
        refine gw_callV C (c_Tokens_step _ hg k_o_1 hq64) d_Reader_pewsLine_64 0 qw_481 qw_482 qw_483 qw_3 qw_484 k_o_1 (by decide) rfl hd_Tokens_step rfl rfl (Nat.le_of_ble_eq_true rfl) ⟨rfl, rfl, Nat.le_of_ble_eq_true rfl, Nat.le_of_ble_eq_true rfl⟩ ⟨Nat.zero_le _, Nat.zero_le _⟩ ?_
        refine gw_aload_n C 0 d_Reader_pewsLine_67 rfl rfl ?_
        refine gw_iconst C (1 : Int32) d_Reader_pewsLine_68 (by decide) ?_
        refine gw_bipush C (8 : Int32) d_Reader_pewsLine_69 (by decide) ?_
        obtain ⟨q71, hq71, hf0⟩ := mx_bd hf0
        refine gw_callI C (c_Reader_isNumber _ hg k_o_0 hq71) d_Reader_pewsLine_71 2 qw_588 qw_590 qs_7 qw_2 qw_591 k_o_0 (by decide) rfl hd_Reader_isNumber rfl rfl (Nat.le_of_ble_eq_true rfl) ⟨rfl, rfl, Nat.le_of_ble_eq_true rfl, Nat.le_of_ble_eq_true rfl⟩ ⟨Nat.zero_le _, Nat.zero_le _⟩ ?_
        refine gw_if_ne C 79 d_Reader_pewsLine_74 (by decide) (fun hc => ?_) (fun hc => ?_)
        · replace hf0 := mx_f hc hf0
          refine gw_aload_n C 0 d_Reader_pewsLine_79 rfl rfl ?_
          refine gw_getA C 1 d_Reader_pewsLine_80 k_o_0 (by decide) i_Reader rfl rfl (by decide) qw_289 rfl rfl (o + 4) rfl ?_
          refine gw_getAN C 0 d_Reader_pewsLine_83 k_o_4 (by decide) i_State rfl rfl (by decide) qw_236 rfl rfl (o + 5) rfl ?_
          refine gw_aload_n C 0 d_Reader_pewsLine_86 rfl rfl ?_
          refine gw_getA C 0 d_Reader_pewsLine_87 k_o_0 (by decide) i_Reader rfl rfl (by decide) qw_287 rfl rfl (o + 1) rfl ?_
          refine gw_getIN C 6 d_Reader_pewsLine_90 k_o_1 (by decide) i_Tokens rfl rfl (by decide) qw_65 rfl rfl ?_
          obtain ⟨m93, em93, hf0⟩ := mx_lt hf0
          refine gw_putIN t_Island C 7 d_Reader_pewsLine_93 k_o_5 (by decide) i_Island rfl rfl (by decide) qw_153 rfl rfl t_Island_ok n_Island rfl (t_Island_ok 7 (by decide)) rfl rfl em93 ?_
          refine gw_aload_n C 0 d_Reader_pewsLine_96 rfl rfl ?_
          refine gw_getA C 0 d_Reader_pewsLine_97 k_o_0 (by decide) i_Reader rfl rfl (by decide) qw_287 rfl rfl (o + 1) rfl ?_
          obtain ⟨q100, hq100, hf0⟩ := mx_bd hf0
          refine gw_callV C (c_Tokens_step _ hg k_o_1 hq100) d_Reader_pewsLine_100 0 qw_481 qw_482 qw_483 qw_3 qw_484 k_o_1 (by decide) rfl hd_Tokens_step rfl rfl (Nat.le_of_ble_eq_true rfl) ⟨rfl, rfl, Nat.le_of_ble_eq_true rfl, Nat.le_of_ble_eq_true rfl⟩ ⟨Nat.zero_le _, Nat.zero_le _⟩ ?_
          refine gw_iconst C (1 : Int32) d_Reader_pewsLine_103 (by decide) ?_
          exact en_z hN (Or.inr rfl) hf0 d_Reader_pewsLine_104
        · replace hf0 := mx_t hc hf0
          refine gw_iconst C (0 : Int32) d_Reader_pewsLine_77 (by decide) ?_
          exact en_z hN (Or.inl rfl) hf0 d_Reader_pewsLine_78
      · replace hf0 := mx_t hc hf0
        refine gw_iconst C (0 : Int32) d_Reader_pewsLine_41 (by decide) ?_
        exact en_z hN (Or.inl rfl) hf0 d_Reader_pewsLine_42
    · replace hf0 := mx_f hc hf0
      exact gw_go [0] (hj14 _ hf0) rfl

/-! NameHat.Reader.sitsLine()Z -/
abbrev b_Reader_sitsLine : ByteArray := prog_6_method_15_code
def y_Reader_sitsLine : MethodName := ⟨"NameHat$Reader", "sitsLine", "()Z"⟩
abbrev rm_Reader_sitsLine : Room := { frames := 13, cells := 0, slots := 0, locals := 468 }
theorem hd_Reader_sitsLine : y_Reader_sitsLine.cls ≠ "java/lang/invoke/MethodHandle" ∧ y_Reader_sitsLine.cls ≠ "java/lang/invoke/VarHandle" ∧ (parseMethodDescriptor y_Reader_sitsLine.desc).map (fun d => d.parameters.length) = some 0 := by decide +kernel
theorem d_Reader_sitsLine_0 : decode b_Reader_sitsLine 0 = .ok (.aload_n 0, 1) := by decide +kernel
theorem d_Reader_sitsLine_1 : decode b_Reader_sitsLine 1 = .ok (.getfield 12, 3) := by decide +kernel
theorem d_Reader_sitsLine_4 : decode b_Reader_sitsLine 4 = .ok (.invokevirtual 46, 3) := by decide +kernel
theorem d_Reader_sitsLine_7 : decode b_Reader_sitsLine 7 = .ok (.aload_n 0, 1) := by decide +kernel
theorem d_Reader_sitsLine_8 : decode b_Reader_sitsLine 8 = .ok (.aload_n 0, 1) := by decide +kernel
theorem d_Reader_sitsLine_9 : decode b_Reader_sitsLine 9 = .ok (.getfield 21, 3) := by decide +kernel
theorem d_Reader_sitsLine_12 : decode b_Reader_sitsLine 12 = .ok (.getfield 84, 3) := by decide +kernel
theorem d_Reader_sitsLine_15 : decode b_Reader_sitsLine 15 = .ok (.getfield 104, 3) := by decide +kernel
theorem d_Reader_sitsLine_18 : decode b_Reader_sitsLine 18 = .ok (.invokevirtual 161, 3) := by decide +kernel
theorem d_Reader_sitsLine_21 : decode b_Reader_sitsLine 21 = .ok (.ifCond .ne 5, 3) := by decide +kernel
theorem d_Reader_sitsLine_24 : decode b_Reader_sitsLine 24 = .ok (.iconst 0, 1) := by decide +kernel
theorem d_Reader_sitsLine_25 : decode b_Reader_sitsLine 25 = .ok (.ireturn, 1) := by decide +kernel
theorem d_Reader_sitsLine_26 : decode b_Reader_sitsLine 26 = .ok (.aload_n 0, 1) := by decide +kernel
theorem d_Reader_sitsLine_27 : decode b_Reader_sitsLine 27 = .ok (.getfield 107, 3) := by decide +kernel
theorem d_Reader_sitsLine_30 : decode b_Reader_sitsLine 30 = .ok (.istore_n 1, 1) := by decide +kernel
theorem d_Reader_sitsLine_31 : decode b_Reader_sitsLine 31 = .ok (.aload_n 0, 1) := by decide +kernel
theorem d_Reader_sitsLine_32 : decode b_Reader_sitsLine 32 = .ok (.getfield 43, 3) := by decide +kernel
theorem d_Reader_sitsLine_35 : decode b_Reader_sitsLine 35 = .ok (.iload_n 1, 1) := by decide +kernel
theorem d_Reader_sitsLine_36 : decode b_Reader_sitsLine 36 = .ok (.ishr, 1) := by decide +kernel
theorem d_Reader_sitsLine_37 : decode b_Reader_sitsLine 37 = .ok (.iconst 1, 1) := by decide +kernel
theorem d_Reader_sitsLine_38 : decode b_Reader_sitsLine 38 = .ok (.iand, 1) := by decide +kernel
theorem d_Reader_sitsLine_39 : decode b_Reader_sitsLine 39 = .ok (.iconst 1, 1) := by decide +kernel
theorem d_Reader_sitsLine_40 : decode b_Reader_sitsLine 40 = .ok (.if_icmp .ne 9, 3) := by decide +kernel
theorem d_Reader_sitsLine_43 : decode b_Reader_sitsLine 43 = .ok (.aload_n 0, 1) := by decide +kernel
theorem d_Reader_sitsLine_44 : decode b_Reader_sitsLine 44 = .ok (.iconst 3, 1) := by decide +kernel
theorem d_Reader_sitsLine_45 : decode b_Reader_sitsLine 45 = .ok (.invokevirtual 71, 3) := by decide +kernel
theorem d_Reader_sitsLine_48 : decode b_Reader_sitsLine 48 = .ok (.ireturn, 1) := by decide +kernel
theorem d_Reader_sitsLine_49 : decode b_Reader_sitsLine 49 = .ok (.aload_n 0, 1) := by decide +kernel
theorem d_Reader_sitsLine_50 : decode b_Reader_sitsLine 50 = .ok (.dup, 1) := by decide +kernel
theorem d_Reader_sitsLine_51 : decode b_Reader_sitsLine 51 = .ok (.getfield 43, 3) := by decide +kernel
theorem d_Reader_sitsLine_54 : decode b_Reader_sitsLine 54 = .ok (.iconst 1, 1) := by decide +kernel
theorem d_Reader_sitsLine_55 : decode b_Reader_sitsLine 55 = .ok (.iload_n 1, 1) := by decide +kernel
theorem d_Reader_sitsLine_56 : decode b_Reader_sitsLine 56 = .ok (.ishl, 1) := by decide +kernel
theorem d_Reader_sitsLine_57 : decode b_Reader_sitsLine 57 = .ok (.ior, 1) := by decide +kernel
theorem d_Reader_sitsLine_58 : decode b_Reader_sitsLine 58 = .ok (.putfield 43, 3) := by decide +kernel
theorem d_Reader_sitsLine_61 : decode b_Reader_sitsLine 61 = .ok (.aload_n 0, 1) := by decide +kernel
theorem d_Reader_sitsLine_62 : decode b_Reader_sitsLine 62 = .ok (.getfield 12, 3) := by decide +kernel
theorem d_Reader_sitsLine_65 : decode b_Reader_sitsLine 65 = .ok (.invokevirtual 46, 3) := by decide +kernel
theorem d_Reader_sitsLine_68 : decode b_Reader_sitsLine 68 = .ok (.aload_n 0, 1) := by decide +kernel
theorem d_Reader_sitsLine_69 : decode b_Reader_sitsLine 69 = .ok (.iconst 0, 1) := by decide +kernel
theorem d_Reader_sitsLine_70 : decode b_Reader_sitsLine 70 = .ok (.aload_n 0, 1) := by decide +kernel
theorem d_Reader_sitsLine_71 : decode b_Reader_sitsLine 71 = .ok (.getfield 21, 3) := by decide +kernel
theorem d_Reader_sitsLine_74 : decode b_Reader_sitsLine 74 = .ok (.getfield 84, 3) := by decide +kernel
theorem d_Reader_sitsLine_77 : decode b_Reader_sitsLine 77 = .ok (.getfield 192, 3) := by decide +kernel
theorem d_Reader_sitsLine_80 : decode b_Reader_sitsLine 80 = .ok (.iconst 1, 1) := by decide +kernel
theorem d_Reader_sitsLine_81 : decode b_Reader_sitsLine 81 = .ok (.isub, 1) := by decide +kernel
theorem d_Reader_sitsLine_82 : decode b_Reader_sitsLine 82 = .ok (.invokevirtual 140, 3) := by decide +kernel
theorem d_Reader_sitsLine_85 : decode b_Reader_sitsLine 85 = .ok (.ifCond .ne 5, 3) := by decide +kernel
theorem d_Reader_sitsLine_88 : decode b_Reader_sitsLine 88 = .ok (.iconst 0, 1) := by decide +kernel
theorem d_Reader_sitsLine_89 : decode b_Reader_sitsLine 89 = .ok (.ireturn, 1) := by decide +kernel
theorem d_Reader_sitsLine_90 : decode b_Reader_sitsLine 90 = .ok (.aload_n 0, 1) := by decide +kernel
theorem d_Reader_sitsLine_91 : decode b_Reader_sitsLine 91 = .ok (.getfield 21, 3) := by decide +kernel
theorem d_Reader_sitsLine_94 : decode b_Reader_sitsLine 94 = .ok (.getfield 165, 3) := by decide +kernel
theorem d_Reader_sitsLine_97 : decode b_Reader_sitsLine 97 = .ok (.getfield 198, 3) := by decide +kernel
theorem d_Reader_sitsLine_100 : decode b_Reader_sitsLine 100 = .ok (.iload_n 1, 1) := by decide +kernel
theorem d_Reader_sitsLine_101 : decode b_Reader_sitsLine 101 = .ok (.aload_n 0, 1) := by decide +kernel
theorem d_Reader_sitsLine_102 : decode b_Reader_sitsLine 102 = .ok (.getfield 12, 3) := by decide +kernel
theorem d_Reader_sitsLine_105 : decode b_Reader_sitsLine 105 = .ok (.getfield 75, 3) := by decide +kernel
theorem d_Reader_sitsLine_108 : decode b_Reader_sitsLine 108 = .ok (.invokevirtual 148, 3) := by decide +kernel
theorem d_Reader_sitsLine_111 : decode b_Reader_sitsLine 111 = .ok (.aload_n 0, 1) := by decide +kernel
theorem d_Reader_sitsLine_112 : decode b_Reader_sitsLine 112 = .ok (.getfield 12, 3) := by decide +kernel
theorem d_Reader_sitsLine_115 : decode b_Reader_sitsLine 115 = .ok (.invokevirtual 46, 3) := by decide +kernel
theorem d_Reader_sitsLine_118 : decode b_Reader_sitsLine 118 = .ok (.iconst 1, 1) := by decide +kernel
theorem d_Reader_sitsLine_119 : decode b_Reader_sitsLine 119 = .ok (.ireturn, 1) := by decide +kernel
noncomputable def f_Reader_sitsLine (z : Nat → Nat) (σ : Mm) (o : Nat) : Option (Int32 × Mm) :=
  (f_Tokens_step z σ (o + 1)).bind fun q4 =>
  (f_Reader_isOneOf z q4 o (o + 8)).bind fun q18 =>
  if q18.1 = 0 then (
    some ((0 : Int32), q18.2)
  ) else (
    mm_lt ((q18.2.1 o 5)) fun x30 =>
    if (((q18.2.1 o 8) >>> (x30 &&& 31)) &&& (1 : Int32)) = (1 : Int32) then (
      (f_Reader_fail z q18.2 o (3 : Int32)).bind fun q45 =>
      (mm_zb q45.1).bind fun y48 =>
      some (y48, q45.2)
    ) else (
      mm_lt (kI q18.2 o 8 ((q18.2.1 o 8) ||| ((1 : Int32) <<< (x30 &&& 31)))) fun m58 =>
      (f_Tokens_step z m58 (o + 1)).bind fun q65 =>
      (f_Reader_isNumber z q65 o (0 : Int32) ((q65.1 (o + 5) 6) - (1 : Int32))).bind fun q82 =>
      if q82.1 = 0 then (
        some ((0 : Int32), q82.2)
      ) else (
        (f_Row_put z q82.2 (o + 21) x30 (q82.2.1 (o + 1) 6)).bind fun q108 =>
        (f_Tokens_step z q108 (o + 1)).bind fun q115 =>
        some ((1 : Int32), q115)
      )
    )
  )
set_option maxHeartbeats 4000000 in
set_option maxRecDepth 100000 in
theorem c_Reader_sitsLine (l : Launch) {L : Ly} (hg : gd_ok L) {σ : Mm} {o : Nat} (k_o_0 : ly_k L o = 9) {res : Int32 × Mm} (hf0 : f_Reader_sitsLine (ly_z L) σ o = some res) : CtI l y_Reader_sitsLine b_Reader_sitsLine 2 (some .boolean) rm_Reader_sitsLine L [.ref (ly_a L o)] σ res.1 res.2 := by
  refine ct_z hg (by decide) (Nat.le_of_ble_eq_true rfl) ?_
  intro E A Q hE C hN
  subst hE
  have k_o_1 : ly_k L (o + 1) = 8 := gd_Reader_tokens hg k_o_0
  have k_o_4 : ly_k L (o + 4) = 4 := gd_Reader_draft hg k_o_0
  have k_o_5 : ly_k L (o + 5) = 2 := gd_State_island hg k_o_4
  have k_o_8 : ly_k L (o + 8) = 1 := gd_Island_houses hg k_o_5
  have k_o_18 : ly_k L (o + 18) = 3 := gd_State_hands hg k_o_4
  have k_o_21 : ly_k L (o + 21) = 0 := gd_Hands_sits hg k_o_18
  unfold f_Reader_sitsLine at hf0
  show GW E L A 2 0 0 Q σ 0 [(0, .ref (ly_a L o))] []
  refine gw_aload_n C 0 d_Reader_sitsLine_0 rfl rfl ?_
  refine gw_getA C 0 d_Reader_sitsLine_1 k_o_0 (by decide) i_Reader rfl rfl (by decide) qw_287 rfl rfl (o + 1) rfl ?_
  obtain ⟨q4, hq4, hf0⟩ := mx_bd hf0
  refine gw_callV C (c_Tokens_step _ hg k_o_1 hq4) d_Reader_sitsLine_4 0 qw_481 qw_482 qw_483 qw_3 qw_484 k_o_1 (by decide) rfl hd_Tokens_step rfl rfl (Nat.le_of_ble_eq_true rfl) ⟨rfl, rfl, Nat.le_of_ble_eq_true rfl, Nat.le_of_ble_eq_true rfl⟩ ⟨Nat.zero_le _, Nat.zero_le _⟩ ?_
  refine gw_aload_n C 0 d_Reader_sitsLine_7 rfl rfl ?_
  refine gw_aload_n C 0 d_Reader_sitsLine_8 rfl rfl ?_
  refine gw_getA C 1 d_Reader_sitsLine_9 k_o_0 (by decide) i_Reader rfl rfl (by decide) qw_289 rfl rfl (o + 4) rfl ?_
  refine gw_getAN C 0 d_Reader_sitsLine_12 k_o_4 (by decide) i_State rfl rfl (by decide) qw_236 rfl rfl (o + 5) rfl ?_
  refine gw_getAN C 1 d_Reader_sitsLine_15 k_o_5 (by decide) i_Island rfl rfl (by decide) qw_135 rfl rfl (o + 8) rfl ?_
  obtain ⟨q18, hq18, hf0⟩ := mx_bd hf0
  refine gw_callI C (c_Reader_isOneOf _ hg k_o_0 k_o_8 hq18) d_Reader_sitsLine_18 1 qw_601 qw_603 qs_9 qw_2 qw_604 k_o_0 (by decide) rfl hd_Reader_isOneOf rfl rfl (Nat.le_of_ble_eq_true rfl) ⟨rfl, rfl, Nat.le_of_ble_eq_true rfl, Nat.le_of_ble_eq_true rfl⟩ ⟨Nat.zero_le _, Nat.zero_le _⟩ ?_
  refine gw_if_ne C 26 d_Reader_sitsLine_21 (by decide) (fun hc => ?_) (fun hc => ?_)
  · replace hf0 := mx_f hc hf0
    refine gw_aload_n C 0 d_Reader_sitsLine_26 rfl rfl ?_
    refine gw_getI C 5 d_Reader_sitsLine_27 k_o_0 (by decide) i_Reader rfl rfl (by decide) qw_297 rfl rfl ?_
    obtain ⟨x30, ex30, hf0⟩ := mx_lt hf0
    refine gw_topi ex30 ?_
    refine gw_istore_n C [(1, .int x30), (0, .ref (ly_a L o))] d_Reader_sitsLine_30 rfl (by decide) rfl ?_
    refine gw_aload_n C 1 d_Reader_sitsLine_31 rfl rfl ?_
    refine gw_getI C 8 d_Reader_sitsLine_32 k_o_0 (by decide) i_Reader rfl rfl (by decide) qw_300 rfl rfl ?_
    refine gw_iload_n C 0 d_Reader_sitsLine_35 rfl rfl ?_
    refine gw_ishr C d_Reader_sitsLine_36 ?_
    refine gw_iconst C (1 : Int32) d_Reader_sitsLine_37 (by decide) ?_
    refine gw_iand C d_Reader_sitsLine_38 ?_
    refine gw_iconst C (1 : Int32) d_Reader_sitsLine_39 (by decide) ?_
    refine gw_icmp_ne C 49 d_Reader_sitsLine_40 (by decide) (fun hc => ?_) (fun hc => ?_)
    · replace hf0 := mx_f hc hf0
      refine gw_aload_n C 1 d_Reader_sitsLine_49 rfl rfl ?_
      refine gw_dup C d_Reader_sitsLine_50 rfl ?_
      refine gw_getI C 8 d_Reader_sitsLine_51 k_o_0 (by decide) i_Reader rfl rfl (by decide) qw_300 rfl rfl ?_
      refine gw_iconst C (1 : Int32) d_Reader_sitsLine_54 (by decide) ?_
      refine gw_iload_n C 0 d_Reader_sitsLine_55 rfl rfl ?_
      refine gw_ishl C d_Reader_sitsLine_56 ?_
      refine gw_ior C d_Reader_sitsLine_57 ?_
      obtain ⟨m58, em58, hf0⟩ := mx_lt hf0
      refine gw_putI t_Reader C 8 d_Reader_sitsLine_58 k_o_0 (by decide) i_Reader rfl rfl (by decide) qw_300 rfl rfl t_Reader_ok n_Reader rfl (t_Reader_ok 8 (by decide)) rfl rfl em58 ?_
      refine gw_aload_n C 1 d_Reader_sitsLine_61 rfl rfl ?_
      refine gw_getA C 0 d_Reader_sitsLine_62 k_o_0 (by decide) i_Reader rfl rfl (by decide) qw_287 rfl rfl (o + 1) rfl ?_
      obtain ⟨q65, hq65, hf0⟩ := mx_bd hf0
      refine gw_callV C (c_Tokens_step _ hg k_o_1 hq65) d_Reader_sitsLine_65 0 qw_481 qw_482 qw_483 qw_3 qw_484 k_o_1 (by decide) rfl hd_Tokens_step rfl rfl (Nat.le_of_ble_eq_true rfl) ⟨rfl, rfl, Nat.le_of_ble_eq_true rfl, Nat.le_of_ble_eq_true rfl⟩ ⟨Nat.zero_le _, Nat.zero_le _⟩ ?_
      refine gw_aload_n C 1 d_Reader_sitsLine_68 rfl rfl ?_
      refine gw_iconst C (0 : Int32) d_Reader_sitsLine_69 (by decide) ?_
      refine gw_aload_n C 1 d_Reader_sitsLine_70 rfl rfl ?_
      refine gw_getA C 1 d_Reader_sitsLine_71 k_o_0 (by decide) i_Reader rfl rfl (by decide) qw_289 rfl rfl (o + 4) rfl ?_
      refine gw_getAN C 0 d_Reader_sitsLine_74 k_o_4 (by decide) i_State rfl rfl (by decide) qw_236 rfl rfl (o + 5) rfl ?_
      refine gw_getIN C 6 d_Reader_sitsLine_77 k_o_5 (by decide) i_Island rfl rfl (by decide) qw_149 rfl rfl ?_
      refine gw_iconst C (1 : Int32) d_Reader_sitsLine_80 (by decide) ?_
      refine gw_isub C d_Reader_sitsLine_81 ?_
      obtain ⟨q82, hq82, hf0⟩ := mx_bd hf0
      refine gw_callI C (c_Reader_isNumber _ hg k_o_0 hq82) d_Reader_sitsLine_82 2 qw_588 qw_590 qs_7 qw_2 qw_591 k_o_0 (by decide) rfl hd_Reader_isNumber rfl rfl (Nat.le_of_ble_eq_true rfl) ⟨rfl, rfl, Nat.le_of_ble_eq_true rfl, Nat.le_of_ble_eq_true rfl⟩ ⟨Nat.zero_le _, Nat.zero_le _⟩ ?_
      refine gw_if_ne C 90 d_Reader_sitsLine_85 (by decide) (fun hc => ?_) (fun hc => ?_)
      · replace hf0 := mx_f hc hf0
        refine gw_aload_n C 1 d_Reader_sitsLine_90 rfl rfl ?_
        refine gw_getA C 1 d_Reader_sitsLine_91 k_o_0 (by decide) i_Reader rfl rfl (by decide) qw_289 rfl rfl (o + 4) rfl ?_
        refine gw_getAN C 1 d_Reader_sitsLine_94 k_o_4 (by decide) i_State rfl rfl (by decide) qw_240 rfl rfl (o + 18) rfl ?_
        refine gw_getAN C 1 d_Reader_sitsLine_97 k_o_18 (by decide) i_Hands rfl rfl (by decide) qw_194 rfl rfl (o + 21) rfl ?_
        refine gw_iload_n C 0 d_Reader_sitsLine_100 rfl rfl ?_
        refine gw_aload_n C 1 d_Reader_sitsLine_101 rfl rfl ?_
        refine gw_getA C 0 d_Reader_sitsLine_102 k_o_0 (by decide) i_Reader rfl rfl (by decide) qw_287 rfl rfl (o + 1) rfl ?_
        refine gw_getIN C 6 d_Reader_sitsLine_105 k_o_1 (by decide) i_Tokens rfl rfl (by decide) qw_65 rfl rfl ?_
        obtain ⟨q108, hq108, hf0⟩ := mx_bd hf0
        refine gw_callV C (c_Row_put _ hg k_o_21 hq108) d_Reader_sitsLine_108 2 qw_592 qw_461 qw_462 qw_4 qw_463 k_o_21 (by decide) rfl hd_Row_put rfl rfl (Nat.le_of_ble_eq_true rfl) ⟨rfl, rfl, Nat.le_of_ble_eq_true rfl, Nat.le_of_ble_eq_true rfl⟩ ⟨Nat.zero_le _, Nat.zero_le _⟩ ?_
        refine gw_aload_n C 1 d_Reader_sitsLine_111 rfl rfl ?_
        refine gw_getA C 0 d_Reader_sitsLine_112 k_o_0 (by decide) i_Reader rfl rfl (by decide) qw_287 rfl rfl (o + 1) rfl ?_
        obtain ⟨q115, hq115, hf0⟩ := mx_bd hf0
        refine gw_callV C (c_Tokens_step _ hg k_o_1 hq115) d_Reader_sitsLine_115 0 qw_481 qw_482 qw_483 qw_3 qw_484 k_o_1 (by decide) rfl hd_Tokens_step rfl rfl (Nat.le_of_ble_eq_true rfl) ⟨rfl, rfl, Nat.le_of_ble_eq_true rfl, Nat.le_of_ble_eq_true rfl⟩ ⟨Nat.zero_le _, Nat.zero_le _⟩ ?_
        refine gw_iconst C (1 : Int32) d_Reader_sitsLine_118 (by decide) ?_
        exact en_z hN (Or.inr rfl) hf0 d_Reader_sitsLine_119
      · replace hf0 := mx_t hc hf0
        refine gw_iconst C (0 : Int32) d_Reader_sitsLine_88 (by decide) ?_
        exact en_z hN (Or.inl rfl) hf0 d_Reader_sitsLine_89
    · replace hf0 := mx_t hc hf0
      refine gw_aload_n C 1 d_Reader_sitsLine_43 rfl rfl ?_
      refine gw_iconst C (3 : Int32) d_Reader_sitsLine_44 (by decide) ?_
      obtain ⟨q45, hq45, hf0⟩ := mx_bd hf0
      refine gw_callI C (c_Reader_fail _ hg k_o_0 hq45) d_Reader_sitsLine_45 1 qw_568 qw_570 qs_4 qw_2 qw_571 k_o_0 (by decide) rfl hd_Reader_fail rfl rfl (Nat.le_of_ble_eq_true rfl) ⟨rfl, rfl, Nat.le_of_ble_eq_true rfl, Nat.le_of_ble_eq_true rfl⟩ ⟨Nat.zero_le _, Nat.zero_le _⟩ ?_
      obtain ⟨y48, hy48, hf0⟩ := mx_bd hf0
      obtain ⟨zy48, ey48⟩ := mx_zb hy48
      refine gw_topi ey48 ?_
      exact en_z hN zy48 hf0 d_Reader_sitsLine_48
  · replace hf0 := mx_t hc hf0
    refine gw_iconst C (0 : Int32) d_Reader_sitsLine_24 (by decide) ?_
    exact en_z hN (Or.inl rfl) hf0 d_Reader_sitsLine_25

/-! NameHat.Reader.fieldLine()Z -/
abbrev b_Reader_fieldLine : ByteArray := prog_6_method_16_code
def y_Reader_fieldLine : MethodName := ⟨"NameHat$Reader", "fieldLine", "()Z"⟩
abbrev rm_Reader_fieldLine : Room := { frames := 13, cells := 0, slots := 0, locals := 468 }
theorem hd_Reader_fieldLine : y_Reader_fieldLine.cls ≠ "java/lang/invoke/MethodHandle" ∧ y_Reader_fieldLine.cls ≠ "java/lang/invoke/VarHandle" ∧ (parseMethodDescriptor y_Reader_fieldLine.desc).map (fun d => d.parameters.length) = some 0 := by decide +kernel
theorem d_Reader_fieldLine_0 : decode b_Reader_fieldLine 0 = .ok (.aload_n 0, 1) := by decide +kernel
theorem d_Reader_fieldLine_1 : decode b_Reader_fieldLine 1 = .ok (.getfield 40, 3) := by decide +kernel
theorem d_Reader_fieldLine_4 : decode b_Reader_fieldLine 4 = .ok (.ifCond .eq 9, 3) := by decide +kernel
theorem d_Reader_fieldLine_7 : decode b_Reader_fieldLine 7 = .ok (.aload_n 0, 1) := by decide +kernel
theorem d_Reader_fieldLine_8 : decode b_Reader_fieldLine 8 = .ok (.iconst 3, 1) := by decide +kernel
theorem d_Reader_fieldLine_9 : decode b_Reader_fieldLine 9 = .ok (.invokevirtual 71, 3) := by decide +kernel
theorem d_Reader_fieldLine_12 : decode b_Reader_fieldLine 12 = .ok (.ireturn, 1) := by decide +kernel
theorem d_Reader_fieldLine_13 : decode b_Reader_fieldLine 13 = .ok (.aload_n 0, 1) := by decide +kernel
theorem d_Reader_fieldLine_14 : decode b_Reader_fieldLine 14 = .ok (.iconst 1, 1) := by decide +kernel
theorem d_Reader_fieldLine_15 : decode b_Reader_fieldLine 15 = .ok (.putfield 40, 3) := by decide +kernel
theorem d_Reader_fieldLine_18 : decode b_Reader_fieldLine 18 = .ok (.aload_n 0, 1) := by decide +kernel
theorem d_Reader_fieldLine_19 : decode b_Reader_fieldLine 19 = .ok (.getfield 12, 3) := by decide +kernel
theorem d_Reader_fieldLine_22 : decode b_Reader_fieldLine 22 = .ok (.invokevirtual 46, 3) := by decide +kernel
theorem d_Reader_fieldLine_25 : decode b_Reader_fieldLine 25 = .ok (.aload_n 0, 1) := by decide +kernel
theorem d_Reader_fieldLine_26 : decode b_Reader_fieldLine 26 = .ok (.iconst 0, 1) := by decide +kernel
theorem d_Reader_fieldLine_27 : decode b_Reader_fieldLine 27 = .ok (.bipush 99, 2) := by decide +kernel
theorem d_Reader_fieldLine_29 : decode b_Reader_fieldLine 29 = .ok (.invokevirtual 140, 3) := by decide +kernel
theorem d_Reader_fieldLine_32 : decode b_Reader_fieldLine 32 = .ok (.ifCond .ne 5, 3) := by decide +kernel
theorem d_Reader_fieldLine_35 : decode b_Reader_fieldLine 35 = .ok (.iconst 0, 1) := by decide +kernel
theorem d_Reader_fieldLine_36 : decode b_Reader_fieldLine 36 = .ok (.ireturn, 1) := by decide +kernel
theorem d_Reader_fieldLine_37 : decode b_Reader_fieldLine 37 = .ok (.aload_n 0, 1) := by decide +kernel
theorem d_Reader_fieldLine_38 : decode b_Reader_fieldLine 38 = .ok (.getfield 21, 3) := by decide +kernel
theorem d_Reader_fieldLine_41 : decode b_Reader_fieldLine 41 = .ok (.getfield 84, 3) := by decide +kernel
theorem d_Reader_fieldLine_44 : decode b_Reader_fieldLine 44 = .ok (.aload_n 0, 1) := by decide +kernel
theorem d_Reader_fieldLine_45 : decode b_Reader_fieldLine 45 = .ok (.getfield 12, 3) := by decide +kernel
theorem d_Reader_fieldLine_48 : decode b_Reader_fieldLine 48 = .ok (.getfield 75, 3) := by decide +kernel
theorem d_Reader_fieldLine_51 : decode b_Reader_fieldLine 51 = .ok (.putfield 201, 3) := by decide +kernel
theorem d_Reader_fieldLine_54 : decode b_Reader_fieldLine 54 = .ok (.aload_n 0, 1) := by decide +kernel
theorem d_Reader_fieldLine_55 : decode b_Reader_fieldLine 55 = .ok (.getfield 12, 3) := by decide +kernel
theorem d_Reader_fieldLine_58 : decode b_Reader_fieldLine 58 = .ok (.invokevirtual 46, 3) := by decide +kernel
theorem d_Reader_fieldLine_61 : decode b_Reader_fieldLine 61 = .ok (.iconst 1, 1) := by decide +kernel
theorem d_Reader_fieldLine_62 : decode b_Reader_fieldLine 62 = .ok (.ireturn, 1) := by decide +kernel
noncomputable def f_Reader_fieldLine (z : Nat → Nat) (σ : Mm) (o : Nat) : Option (Int32 × Mm) :=
  if (σ.1 o 7) = 0 then (
    mm_lt (kI σ o 7 (1 : Int32)) fun m15 =>
    (f_Tokens_step z m15 (o + 1)).bind fun q22 =>
    (f_Reader_isNumber z q22 o (0 : Int32) (99 : Int32)).bind fun q29 =>
    if q29.1 = 0 then (
      some ((0 : Int32), q29.2)
    ) else (
      mm_lt (kI q29.2 (o + 5) 8 (q29.2.1 (o + 1) 6)) fun m51 =>
      (f_Tokens_step z m51 (o + 1)).bind fun q58 =>
      some ((1 : Int32), q58)
    )
  ) else (
    (f_Reader_fail z σ o (3 : Int32)).bind fun q9 =>
    (mm_zb q9.1).bind fun y12 =>
    some (y12, q9.2)
  )
set_option maxHeartbeats 4000000 in
set_option maxRecDepth 100000 in
theorem c_Reader_fieldLine (l : Launch) {L : Ly} (hg : gd_ok L) {σ : Mm} {o : Nat} (k_o_0 : ly_k L o = 9) {res : Int32 × Mm} (hf0 : f_Reader_fieldLine (ly_z L) σ o = some res) : CtI l y_Reader_fieldLine b_Reader_fieldLine 1 (some .boolean) rm_Reader_fieldLine L [.ref (ly_a L o)] σ res.1 res.2 := by
  refine ct_z hg (by decide) (Nat.le_of_ble_eq_true rfl) ?_
  intro E A Q hE C hN
  subst hE
  have k_o_1 : ly_k L (o + 1) = 8 := gd_Reader_tokens hg k_o_0
  have k_o_4 : ly_k L (o + 4) = 4 := gd_Reader_draft hg k_o_0
  have k_o_5 : ly_k L (o + 5) = 2 := gd_State_island hg k_o_4
  unfold f_Reader_fieldLine at hf0
  show GW E L A 1 0 0 Q σ 0 [(0, .ref (ly_a L o))] []
  refine gw_aload_n C 0 d_Reader_fieldLine_0 rfl rfl ?_
  refine gw_getI C 7 d_Reader_fieldLine_1 k_o_0 (by decide) i_Reader rfl rfl (by decide) qw_299 rfl rfl ?_
  refine gw_if_eq C 13 d_Reader_fieldLine_4 (by decide) (fun hc => ?_) (fun hc => ?_)
  · replace hf0 := mx_t hc hf0
    refine gw_aload_n C 0 d_Reader_fieldLine_13 rfl rfl ?_
    refine gw_iconst C (1 : Int32) d_Reader_fieldLine_14 (by decide) ?_
    obtain ⟨m15, em15, hf0⟩ := mx_lt hf0
    refine gw_putI t_Reader C 7 d_Reader_fieldLine_15 k_o_0 (by decide) i_Reader rfl rfl (by decide) qw_299 rfl rfl t_Reader_ok n_Reader rfl (t_Reader_ok 7 (by decide)) rfl rfl em15 ?_
    refine gw_aload_n C 0 d_Reader_fieldLine_18 rfl rfl ?_
    refine gw_getA C 0 d_Reader_fieldLine_19 k_o_0 (by decide) i_Reader rfl rfl (by decide) qw_287 rfl rfl (o + 1) rfl ?_
    obtain ⟨q22, hq22, hf0⟩ := mx_bd hf0
    refine gw_callV C (c_Tokens_step _ hg k_o_1 hq22) d_Reader_fieldLine_22 0 qw_481 qw_482 qw_483 qw_3 qw_484 k_o_1 (by decide) rfl hd_Tokens_step rfl rfl (Nat.le_of_ble_eq_true rfl) ⟨rfl, rfl, Nat.le_of_ble_eq_true rfl, Nat.le_of_ble_eq_true rfl⟩ ⟨Nat.zero_le _, Nat.zero_le _⟩ ?_
    refine gw_aload_n C 0 d_Reader_fieldLine_25 rfl rfl ?_
    refine gw_iconst C (0 : Int32) d_Reader_fieldLine_26 (by decide) ?_
    refine gw_bipush C (99 : Int32) d_Reader_fieldLine_27 (by decide) ?_
    obtain ⟨q29, hq29, hf0⟩ := mx_bd hf0
    refine gw_callI C (c_Reader_isNumber _ hg k_o_0 hq29) d_Reader_fieldLine_29 2 qw_588 qw_590 qs_7 qw_2 qw_591 k_o_0 (by decide) rfl hd_Reader_isNumber rfl rfl (Nat.le_of_ble_eq_true rfl) ⟨rfl, rfl, Nat.le_of_ble_eq_true rfl, Nat.le_of_ble_eq_true rfl⟩ ⟨Nat.zero_le _, Nat.zero_le _⟩ ?_
    refine gw_if_ne C 37 d_Reader_fieldLine_32 (by decide) (fun hc => ?_) (fun hc => ?_)
    · replace hf0 := mx_f hc hf0
      refine gw_aload_n C 0 d_Reader_fieldLine_37 rfl rfl ?_
      refine gw_getA C 1 d_Reader_fieldLine_38 k_o_0 (by decide) i_Reader rfl rfl (by decide) qw_289 rfl rfl (o + 4) rfl ?_
      refine gw_getAN C 0 d_Reader_fieldLine_41 k_o_4 (by decide) i_State rfl rfl (by decide) qw_236 rfl rfl (o + 5) rfl ?_
      refine gw_aload_n C 0 d_Reader_fieldLine_44 rfl rfl ?_
      refine gw_getA C 0 d_Reader_fieldLine_45 k_o_0 (by decide) i_Reader rfl rfl (by decide) qw_287 rfl rfl (o + 1) rfl ?_
      refine gw_getIN C 6 d_Reader_fieldLine_48 k_o_1 (by decide) i_Tokens rfl rfl (by decide) qw_65 rfl rfl ?_
      obtain ⟨m51, em51, hf0⟩ := mx_lt hf0
      refine gw_putIN t_Island C 8 d_Reader_fieldLine_51 k_o_5 (by decide) i_Island rfl rfl (by decide) qw_157 rfl rfl t_Island_ok n_Island rfl (t_Island_ok 8 (by decide)) rfl rfl em51 ?_
      refine gw_aload_n C 0 d_Reader_fieldLine_54 rfl rfl ?_
      refine gw_getA C 0 d_Reader_fieldLine_55 k_o_0 (by decide) i_Reader rfl rfl (by decide) qw_287 rfl rfl (o + 1) rfl ?_
      obtain ⟨q58, hq58, hf0⟩ := mx_bd hf0
      refine gw_callV C (c_Tokens_step _ hg k_o_1 hq58) d_Reader_fieldLine_58 0 qw_481 qw_482 qw_483 qw_3 qw_484 k_o_1 (by decide) rfl hd_Tokens_step rfl rfl (Nat.le_of_ble_eq_true rfl) ⟨rfl, rfl, Nat.le_of_ble_eq_true rfl, Nat.le_of_ble_eq_true rfl⟩ ⟨Nat.zero_le _, Nat.zero_le _⟩ ?_
      refine gw_iconst C (1 : Int32) d_Reader_fieldLine_61 (by decide) ?_
      exact en_z hN (Or.inr rfl) hf0 d_Reader_fieldLine_62
    · replace hf0 := mx_t hc hf0
      refine gw_iconst C (0 : Int32) d_Reader_fieldLine_35 (by decide) ?_
      exact en_z hN (Or.inl rfl) hf0 d_Reader_fieldLine_36
  · replace hf0 := mx_f hc hf0
    refine gw_aload_n C 0 d_Reader_fieldLine_7 rfl rfl ?_
    refine gw_iconst C (3 : Int32) d_Reader_fieldLine_8 (by decide) ?_
    obtain ⟨q9, hq9, hf0⟩ := mx_bd hf0
    refine gw_callI C (c_Reader_fail _ hg k_o_0 hq9) d_Reader_fieldLine_9 1 qw_568 qw_570 qs_4 qw_2 qw_571 k_o_0 (by decide) rfl hd_Reader_fail rfl rfl (Nat.le_of_ble_eq_true rfl) ⟨rfl, rfl, Nat.le_of_ble_eq_true rfl, Nat.le_of_ble_eq_true rfl⟩ ⟨Nat.zero_le _, Nat.zero_le _⟩ ?_
    obtain ⟨y12, hy12, hf0⟩ := mx_bd hf0
    obtain ⟨zy12, ey12⟩ := mx_zb hy12
    refine gw_topi ey12 ?_
    exact en_z hN zy12 hf0 d_Reader_fieldLine_12

/-! NameHat.Reader.islandLine()Z -/
abbrev b_Reader_islandLine : ByteArray := prog_6_method_9_code
def y_Reader_islandLine : MethodName := ⟨"NameHat$Reader", "islandLine", "()Z"⟩
abbrev rm_Reader_islandLine : Room := { frames := 14, cells := 0, slots := 0, locals := 490 }
theorem hd_Reader_islandLine : y_Reader_islandLine.cls ≠ "java/lang/invoke/MethodHandle" ∧ y_Reader_islandLine.cls ≠ "java/lang/invoke/VarHandle" ∧ (parseMethodDescriptor y_Reader_islandLine.desc).map (fun d => d.parameters.length) = some 0 := by decide +kernel
theorem d_Reader_islandLine_0 : decode b_Reader_islandLine 0 = .ok (.aload_n 0, 1) := by decide +kernel
theorem d_Reader_islandLine_1 : decode b_Reader_islandLine 1 = .ok (.getfield 12, 3) := by decide +kernel
theorem d_Reader_islandLine_4 : decode b_Reader_islandLine 4 = .ok (.getfield 78, 3) := by decide +kernel
theorem d_Reader_islandLine_7 : decode b_Reader_islandLine 7 = .ok (.tableswitch 88 0 9 #[53, 88, 88, 58, 88, 63, 68, 73, 78, 83], 53) := by decide +kernel
theorem d_Reader_islandLine_60 : decode b_Reader_islandLine 60 = .ok (.aload_n 0, 1) := by decide +kernel
theorem d_Reader_islandLine_61 : decode b_Reader_islandLine 61 = .ok (.invokevirtual 110, 3) := by decide +kernel
theorem d_Reader_islandLine_64 : decode b_Reader_islandLine 64 = .ok (.ireturn, 1) := by decide +kernel
theorem d_Reader_islandLine_65 : decode b_Reader_islandLine 65 = .ok (.aload_n 0, 1) := by decide +kernel
theorem d_Reader_islandLine_66 : decode b_Reader_islandLine 66 = .ok (.invokevirtual 113, 3) := by decide +kernel
theorem d_Reader_islandLine_69 : decode b_Reader_islandLine 69 = .ok (.ireturn, 1) := by decide +kernel
theorem d_Reader_islandLine_70 : decode b_Reader_islandLine 70 = .ok (.aload_n 0, 1) := by decide +kernel
theorem d_Reader_islandLine_71 : decode b_Reader_islandLine 71 = .ok (.invokevirtual 116, 3) := by decide +kernel
theorem d_Reader_islandLine_74 : decode b_Reader_islandLine 74 = .ok (.ireturn, 1) := by decide +kernel
theorem d_Reader_islandLine_75 : decode b_Reader_islandLine 75 = .ok (.aload_n 0, 1) := by decide +kernel
theorem d_Reader_islandLine_76 : decode b_Reader_islandLine 76 = .ok (.invokevirtual 119, 3) := by decide +kernel
theorem d_Reader_islandLine_79 : decode b_Reader_islandLine 79 = .ok (.ireturn, 1) := by decide +kernel
theorem d_Reader_islandLine_80 : decode b_Reader_islandLine 80 = .ok (.aload_n 0, 1) := by decide +kernel
theorem d_Reader_islandLine_81 : decode b_Reader_islandLine 81 = .ok (.invokevirtual 122, 3) := by decide +kernel
theorem d_Reader_islandLine_84 : decode b_Reader_islandLine 84 = .ok (.ireturn, 1) := by decide +kernel
theorem d_Reader_islandLine_85 : decode b_Reader_islandLine 85 = .ok (.aload_n 0, 1) := by decide +kernel
theorem d_Reader_islandLine_86 : decode b_Reader_islandLine 86 = .ok (.invokevirtual 125, 3) := by decide +kernel
theorem d_Reader_islandLine_89 : decode b_Reader_islandLine 89 = .ok (.ireturn, 1) := by decide +kernel
theorem d_Reader_islandLine_90 : decode b_Reader_islandLine 90 = .ok (.aload_n 0, 1) := by decide +kernel
theorem d_Reader_islandLine_91 : decode b_Reader_islandLine 91 = .ok (.invokevirtual 128, 3) := by decide +kernel
theorem d_Reader_islandLine_94 : decode b_Reader_islandLine 94 = .ok (.ireturn, 1) := by decide +kernel
theorem d_Reader_islandLine_95 : decode b_Reader_islandLine 95 = .ok (.aload_n 0, 1) := by decide +kernel
theorem d_Reader_islandLine_96 : decode b_Reader_islandLine 96 = .ok (.iconst 1, 1) := by decide +kernel
theorem d_Reader_islandLine_97 : decode b_Reader_islandLine 97 = .ok (.invokevirtual 71, 3) := by decide +kernel
theorem d_Reader_islandLine_100 : decode b_Reader_islandLine 100 = .ok (.ireturn, 1) := by decide +kernel
noncomputable def f_Reader_islandLine (z : Nat → Nat) (σ : Mm) (o : Nat) : Option (Int32 × Mm) :=
  mm_lt ((σ.1 (o + 1) 8)) fun x7 =>
  if x7 = (0 : Int32) then (
    (f_Reader_nameLine z σ o).bind fun q61 =>
    (mm_zb q61.1).bind fun y64 =>
    some (y64, q61.2)
  ) else (
  if x7 = (1 : Int32) then (
    (f_Reader_fail z σ o (1 : Int32)).bind fun q97 =>
    (mm_zb q97.1).bind fun y100 =>
    some (y100, q97.2)
  ) else (
  if x7 = (2 : Int32) then (
    (f_Reader_fail z σ o (1 : Int32)).bind fun q97 =>
    (mm_zb q97.1).bind fun y100 =>
    some (y100, q97.2)
  ) else (
  if x7 = (3 : Int32) then (
    (f_Reader_houseLine z σ o).bind fun q66 =>
    (mm_zb q66.1).bind fun y69 =>
    some (y69, q66.2)
  ) else (
  if x7 = (4 : Int32) then (
    (f_Reader_fail z σ o (1 : Int32)).bind fun q97 =>
    (mm_zb q97.1).bind fun y100 =>
    some (y100, q97.2)
  ) else (
  if x7 = (5 : Int32) then (
    (f_Reader_wantsLine z σ o).bind fun q71 =>
    (mm_zb q71.1).bind fun y74 =>
    some (y74, q71.2)
  ) else (
  if x7 = (6 : Int32) then (
    (f_Reader_feudLine z σ o).bind fun q76 =>
    (mm_zb q76.1).bind fun y79 =>
    some (y79, q76.2)
  ) else (
  if x7 = (7 : Int32) then (
    (f_Reader_pewsLine z σ o).bind fun q81 =>
    (mm_zb q81.1).bind fun y84 =>
    some (y84, q81.2)
  ) else (
  if x7 = (8 : Int32) then (
    (f_Reader_sitsLine z σ o).bind fun q86 =>
    (mm_zb q86.1).bind fun y89 =>
    some (y89, q86.2)
  ) else (
  if x7 = (9 : Int32) then (
    (f_Reader_fieldLine z σ o).bind fun q91 =>
    (mm_zb q91.1).bind fun y94 =>
    some (y94, q91.2)
  ) else (
    (f_Reader_fail z σ o (1 : Int32)).bind fun q97 =>
    (mm_zb q97.1).bind fun y100 =>
    some (y100, q97.2)
  ))))))))))
set_option maxHeartbeats 4000000 in
set_option maxRecDepth 100000 in
theorem c_Reader_islandLine (l : Launch) {L : Ly} (hg : gd_ok L) {σ : Mm} {o : Nat} (k_o_0 : ly_k L o = 9) {res : Int32 × Mm} (hf0 : f_Reader_islandLine (ly_z L) σ o = some res) : CtI l y_Reader_islandLine b_Reader_islandLine 1 (some .boolean) rm_Reader_islandLine L [.ref (ly_a L o)] σ res.1 res.2 := by
  refine ct_z hg (by decide) (Nat.le_of_ble_eq_true rfl) ?_
  intro E A Q hE C hN
  subst hE
  have k_o_1 : ly_k L (o + 1) = 8 := gd_Reader_tokens hg k_o_0
  unfold f_Reader_islandLine at hf0
  show GW E L A 1 0 0 Q σ 0 [(0, .ref (ly_a L o))] []
  refine gw_aload_n C 0 d_Reader_islandLine_0 rfl rfl ?_
  refine gw_getA C 0 d_Reader_islandLine_1 k_o_0 (by decide) i_Reader rfl rfl (by decide) qw_287 rfl rfl (o + 1) rfl ?_
  refine gw_getIN C 8 d_Reader_islandLine_4 k_o_1 (by decide) i_Tokens rfl rfl (by decide) qw_69 rfl rfl ?_
  obtain ⟨x7, ex7, hf0⟩ := mx_lt hf0
  refine gw_topi ex7 ?_
  by_cases hc0 : x7 = (0 : Int32)
  · replace hf0 := mx_t hc0 hf0
    refine gw_tabEq (off := 53) C 60 hc0 d_Reader_islandLine_7 (by decide) (by decide) (by decide) (by decide) ?_
    refine gw_aload_n C 0 d_Reader_islandLine_60 rfl rfl ?_
    obtain ⟨q61, hq61, hf0⟩ := mx_bd hf0
    refine gw_callI C (c_Reader_nameLine _ hg k_o_0 hq61) d_Reader_islandLine_61 0 qw_560 qw_562 qs_3 qw_2 qw_563 k_o_0 (by decide) rfl hd_Reader_nameLine rfl rfl (Nat.le_of_ble_eq_true rfl) ⟨rfl, rfl, Nat.le_of_ble_eq_true rfl, Nat.le_of_ble_eq_true rfl⟩ ⟨Nat.zero_le _, Nat.zero_le _⟩ ?_
    obtain ⟨y64, hy64, hf0⟩ := mx_bd hf0
    obtain ⟨zy64, ey64⟩ := mx_zb hy64
    refine gw_topi ey64 ?_
    exact en_z hN zy64 hf0 d_Reader_islandLine_64
  replace hf0 := mx_f hc0 hf0
  have hn0 := lv_neT hc0 (show ((0 : Int32)).toInt = 0 by decide)
  by_cases hc1 : x7 = (1 : Int32)
  · replace hf0 := mx_t hc1 hf0
    refine gw_tabEq (off := 88) C 95 hc1 d_Reader_islandLine_7 (by decide) (by decide) (by decide) (by decide) ?_
    refine gw_aload_n C 0 d_Reader_islandLine_95 rfl rfl ?_
    refine gw_iconst C (1 : Int32) d_Reader_islandLine_96 (by decide) ?_
    obtain ⟨q97, hq97, hf0⟩ := mx_bd hf0
    refine gw_callI C (c_Reader_fail _ hg k_o_0 hq97) d_Reader_islandLine_97 1 qw_568 qw_570 qs_4 qw_2 qw_571 k_o_0 (by decide) rfl hd_Reader_fail rfl rfl (Nat.le_of_ble_eq_true rfl) ⟨rfl, rfl, Nat.le_of_ble_eq_true rfl, Nat.le_of_ble_eq_true rfl⟩ ⟨Nat.zero_le _, Nat.zero_le _⟩ ?_
    obtain ⟨y100, hy100, hf0⟩ := mx_bd hf0
    obtain ⟨zy100, ey100⟩ := mx_zb hy100
    refine gw_topi ey100 ?_
    exact en_z hN zy100 hf0 d_Reader_islandLine_100
  replace hf0 := mx_f hc1 hf0
  have hn1 := lv_neT hc1 (show ((1 : Int32)).toInt = 1 by decide)
  by_cases hc2 : x7 = (2 : Int32)
  · replace hf0 := mx_t hc2 hf0
    refine gw_tabEq (off := 88) C 95 hc2 d_Reader_islandLine_7 (by decide) (by decide) (by decide) (by decide) ?_
    refine gw_aload_n C 0 d_Reader_islandLine_95 rfl rfl ?_
    refine gw_iconst C (1 : Int32) d_Reader_islandLine_96 (by decide) ?_
    obtain ⟨q97, hq97, hf0⟩ := mx_bd hf0
    refine gw_callI C (c_Reader_fail _ hg k_o_0 hq97) d_Reader_islandLine_97 1 qw_568 qw_570 qs_4 qw_2 qw_571 k_o_0 (by decide) rfl hd_Reader_fail rfl rfl (Nat.le_of_ble_eq_true rfl) ⟨rfl, rfl, Nat.le_of_ble_eq_true rfl, Nat.le_of_ble_eq_true rfl⟩ ⟨Nat.zero_le _, Nat.zero_le _⟩ ?_
    obtain ⟨y100, hy100, hf0⟩ := mx_bd hf0
    obtain ⟨zy100, ey100⟩ := mx_zb hy100
    refine gw_topi ey100 ?_
    exact en_z hN zy100 hf0 d_Reader_islandLine_100
  replace hf0 := mx_f hc2 hf0
  have hn2 := lv_neT hc2 (show ((2 : Int32)).toInt = 2 by decide)
  by_cases hc3 : x7 = (3 : Int32)
  · replace hf0 := mx_t hc3 hf0
    refine gw_tabEq (off := 58) C 65 hc3 d_Reader_islandLine_7 (by decide) (by decide) (by decide) (by decide) ?_
    refine gw_aload_n C 0 d_Reader_islandLine_65 rfl rfl ?_
    obtain ⟨q66, hq66, hf0⟩ := mx_bd hf0
    refine gw_callI C (c_Reader_houseLine _ hg k_o_0 hq66) d_Reader_islandLine_66 0 qw_597 qw_599 qs_8 qw_2 qw_600 k_o_0 (by decide) rfl hd_Reader_houseLine rfl rfl (Nat.le_of_ble_eq_true rfl) ⟨rfl, rfl, Nat.le_of_ble_eq_true rfl, Nat.le_of_ble_eq_true rfl⟩ ⟨Nat.zero_le _, Nat.zero_le _⟩ ?_
    obtain ⟨y69, hy69, hf0⟩ := mx_bd hf0
    obtain ⟨zy69, ey69⟩ := mx_zb hy69
    refine gw_topi ey69 ?_
    exact en_z hN zy69 hf0 d_Reader_islandLine_69
  replace hf0 := mx_f hc3 hf0
  have hn3 := lv_neT hc3 (show ((3 : Int32)).toInt = 3 by decide)
  by_cases hc4 : x7 = (4 : Int32)
  · replace hf0 := mx_t hc4 hf0
    refine gw_tabEq (off := 88) C 95 hc4 d_Reader_islandLine_7 (by decide) (by decide) (by decide) (by decide) ?_
    refine gw_aload_n C 0 d_Reader_islandLine_95 rfl rfl ?_
    refine gw_iconst C (1 : Int32) d_Reader_islandLine_96 (by decide) ?_
    obtain ⟨q97, hq97, hf0⟩ := mx_bd hf0
    refine gw_callI C (c_Reader_fail _ hg k_o_0 hq97) d_Reader_islandLine_97 1 qw_568 qw_570 qs_4 qw_2 qw_571 k_o_0 (by decide) rfl hd_Reader_fail rfl rfl (Nat.le_of_ble_eq_true rfl) ⟨rfl, rfl, Nat.le_of_ble_eq_true rfl, Nat.le_of_ble_eq_true rfl⟩ ⟨Nat.zero_le _, Nat.zero_le _⟩ ?_
    obtain ⟨y100, hy100, hf0⟩ := mx_bd hf0
    obtain ⟨zy100, ey100⟩ := mx_zb hy100
    refine gw_topi ey100 ?_
    exact en_z hN zy100 hf0 d_Reader_islandLine_100
  replace hf0 := mx_f hc4 hf0
  have hn4 := lv_neT hc4 (show ((4 : Int32)).toInt = 4 by decide)
  by_cases hc5 : x7 = (5 : Int32)
  · replace hf0 := mx_t hc5 hf0
    refine gw_tabEq (off := 63) C 70 hc5 d_Reader_islandLine_7 (by decide) (by decide) (by decide) (by decide) ?_
    refine gw_aload_n C 0 d_Reader_islandLine_70 rfl rfl ?_
    obtain ⟨q71, hq71, hf0⟩ := mx_bd hf0
    refine gw_callI C (c_Reader_wantsLine _ hg k_o_0 hq71) d_Reader_islandLine_71 0 qw_610 qw_612 qs_10 qw_2 qw_613 k_o_0 (by decide) rfl hd_Reader_wantsLine rfl rfl (Nat.le_of_ble_eq_true rfl) ⟨rfl, rfl, Nat.le_of_ble_eq_true rfl, Nat.le_of_ble_eq_true rfl⟩ ⟨Nat.zero_le _, Nat.zero_le _⟩ ?_
    obtain ⟨y74, hy74, hf0⟩ := mx_bd hf0
    obtain ⟨zy74, ey74⟩ := mx_zb hy74
    refine gw_topi ey74 ?_
    exact en_z hN zy74 hf0 d_Reader_islandLine_74
  replace hf0 := mx_f hc5 hf0
  have hn5 := lv_neT hc5 (show ((5 : Int32)).toInt = 5 by decide)
  by_cases hc6 : x7 = (6 : Int32)
  · replace hf0 := mx_t hc6 hf0
    refine gw_tabEq (off := 68) C 75 hc6 d_Reader_islandLine_7 (by decide) (by decide) (by decide) (by decide) ?_
    refine gw_aload_n C 0 d_Reader_islandLine_75 rfl rfl ?_
    obtain ⟨q76, hq76, hf0⟩ := mx_bd hf0
    refine gw_callI C (c_Reader_feudLine _ hg k_o_0 hq76) d_Reader_islandLine_76 0 qw_624 qw_626 qs_11 qw_2 qw_627 k_o_0 (by decide) rfl hd_Reader_feudLine rfl rfl (Nat.le_of_ble_eq_true rfl) ⟨rfl, rfl, Nat.le_of_ble_eq_true rfl, Nat.le_of_ble_eq_true rfl⟩ ⟨Nat.zero_le _, Nat.zero_le _⟩ ?_
    obtain ⟨y79, hy79, hf0⟩ := mx_bd hf0
    obtain ⟨zy79, ey79⟩ := mx_zb hy79
    refine gw_topi ey79 ?_
    exact en_z hN zy79 hf0 d_Reader_islandLine_79
  replace hf0 := mx_f hc6 hf0
  have hn6 := lv_neT hc6 (show ((6 : Int32)).toInt = 6 by decide)
  by_cases hc7 : x7 = (7 : Int32)
  · replace hf0 := mx_t hc7 hf0
    refine gw_tabEq (off := 73) C 80 hc7 d_Reader_islandLine_7 (by decide) (by decide) (by decide) (by decide) ?_
    refine gw_aload_n C 0 d_Reader_islandLine_80 rfl rfl ?_
    obtain ⟨q81, hq81, hf0⟩ := mx_bd hf0
    refine gw_callI C (c_Reader_pewsLine _ hg k_o_0 hq81) d_Reader_islandLine_81 0 qw_636 qw_638 qs_12 qw_2 qw_639 k_o_0 (by decide) rfl hd_Reader_pewsLine rfl rfl (Nat.le_of_ble_eq_true rfl) ⟨rfl, rfl, Nat.le_of_ble_eq_true rfl, Nat.le_of_ble_eq_true rfl⟩ ⟨Nat.zero_le _, Nat.zero_le _⟩ ?_
    obtain ⟨y84, hy84, hf0⟩ := mx_bd hf0
    obtain ⟨zy84, ey84⟩ := mx_zb hy84
    refine gw_topi ey84 ?_
    exact en_z hN zy84 hf0 d_Reader_islandLine_84
  replace hf0 := mx_f hc7 hf0
  have hn7 := lv_neT hc7 (show ((7 : Int32)).toInt = 7 by decide)
  by_cases hc8 : x7 = (8 : Int32)
  · replace hf0 := mx_t hc8 hf0
    refine gw_tabEq (off := 78) C 85 hc8 d_Reader_islandLine_7 (by decide) (by decide) (by decide) (by decide) ?_
    refine gw_aload_n C 0 d_Reader_islandLine_85 rfl rfl ?_
    obtain ⟨q86, hq86, hf0⟩ := mx_bd hf0
    refine gw_callI C (c_Reader_sitsLine _ hg k_o_0 hq86) d_Reader_islandLine_86 0 qw_640 qw_642 qs_13 qw_2 qw_643 k_o_0 (by decide) rfl hd_Reader_sitsLine rfl rfl (Nat.le_of_ble_eq_true rfl) ⟨rfl, rfl, Nat.le_of_ble_eq_true rfl, Nat.le_of_ble_eq_true rfl⟩ ⟨Nat.zero_le _, Nat.zero_le _⟩ ?_
    obtain ⟨y89, hy89, hf0⟩ := mx_bd hf0
    obtain ⟨zy89, ey89⟩ := mx_zb hy89
    refine gw_topi ey89 ?_
    exact en_z hN zy89 hf0 d_Reader_islandLine_89
  replace hf0 := mx_f hc8 hf0
  have hn8 := lv_neT hc8 (show ((8 : Int32)).toInt = 8 by decide)
  by_cases hc9 : x7 = (9 : Int32)
  · replace hf0 := mx_t hc9 hf0
    refine gw_tabEq (off := 83) C 90 hc9 d_Reader_islandLine_7 (by decide) (by decide) (by decide) (by decide) ?_
    refine gw_aload_n C 0 d_Reader_islandLine_90 rfl rfl ?_
    obtain ⟨q91, hq91, hf0⟩ := mx_bd hf0
    refine gw_callI C (c_Reader_fieldLine _ hg k_o_0 hq91) d_Reader_islandLine_91 0 qw_644 qw_646 qs_14 qw_2 qw_647 k_o_0 (by decide) rfl hd_Reader_fieldLine rfl rfl (Nat.le_of_ble_eq_true rfl) ⟨rfl, rfl, Nat.le_of_ble_eq_true rfl, Nat.le_of_ble_eq_true rfl⟩ ⟨Nat.zero_le _, Nat.zero_le _⟩ ?_
    obtain ⟨y94, hy94, hf0⟩ := mx_bd hf0
    obtain ⟨zy94, ey94⟩ := mx_zb hy94
    refine gw_topi ey94 ?_
    exact en_z hN zy94 hf0 d_Reader_islandLine_94
  replace hf0 := mx_f hc9 hf0
  have hn9 := lv_neT hc9 (show ((9 : Int32)).toInt = 9 by decide)
  refine gw_tabOut C 95 d_Reader_islandLine_7 (by omega) (by decide) ?_
  refine gw_aload_n C 0 d_Reader_islandLine_95 rfl rfl ?_
  refine gw_iconst C (1 : Int32) d_Reader_islandLine_96 (by decide) ?_
  obtain ⟨q97, hq97, hf0⟩ := mx_bd hf0
  refine gw_callI C (c_Reader_fail _ hg k_o_0 hq97) d_Reader_islandLine_97 1 qw_568 qw_570 qs_4 qw_2 qw_571 k_o_0 (by decide) rfl hd_Reader_fail rfl rfl (Nat.le_of_ble_eq_true rfl) ⟨rfl, rfl, Nat.le_of_ble_eq_true rfl, Nat.le_of_ble_eq_true rfl⟩ ⟨Nat.zero_le _, Nat.zero_le _⟩ ?_
  obtain ⟨y100, hy100, hf0⟩ := mx_bd hf0
  obtain ⟨zy100, ey100⟩ := mx_zb hy100
  refine gw_topi ey100 ?_
  exact en_z hN zy100 hf0 d_Reader_islandLine_100

/-! NameHat.Reader.rollLine()Z -/
abbrev b_Reader_rollLine : ByteArray := prog_6_method_17_code
def y_Reader_rollLine : MethodName := ⟨"NameHat$Reader", "rollLine", "()Z"⟩
abbrev rm_Reader_rollLine : Room := { frames := 13, cells := 0, slots := 0, locals := 468 }
theorem hd_Reader_rollLine : y_Reader_rollLine.cls ≠ "java/lang/invoke/MethodHandle" ∧ y_Reader_rollLine.cls ≠ "java/lang/invoke/VarHandle" ∧ (parseMethodDescriptor y_Reader_rollLine.desc).map (fun d => d.parameters.length) = some 0 := by decide +kernel
theorem d_Reader_rollLine_0 : decode b_Reader_rollLine 0 = .ok (.aload_n 0, 1) := by decide +kernel
theorem d_Reader_rollLine_1 : decode b_Reader_rollLine 1 = .ok (.aload_n 0, 1) := by decide +kernel
theorem d_Reader_rollLine_2 : decode b_Reader_rollLine 2 = .ok (.getfield 21, 3) := by decide +kernel
theorem d_Reader_rollLine_5 : decode b_Reader_rollLine 5 = .ok (.getfield 84, 3) := by decide +kernel
theorem d_Reader_rollLine_8 : decode b_Reader_rollLine 8 = .ok (.getfield 104, 3) := by decide +kernel
theorem d_Reader_rollLine_11 : decode b_Reader_rollLine 11 = .ok (.invokevirtual 161, 3) := by decide +kernel
theorem d_Reader_rollLine_14 : decode b_Reader_rollLine 14 = .ok (.ifCond .ne 5, 3) := by decide +kernel
theorem d_Reader_rollLine_17 : decode b_Reader_rollLine 17 = .ok (.iconst 0, 1) := by decide +kernel
theorem d_Reader_rollLine_18 : decode b_Reader_rollLine 18 = .ok (.ireturn, 1) := by decide +kernel
theorem d_Reader_rollLine_19 : decode b_Reader_rollLine 19 = .ok (.aload_n 0, 1) := by decide +kernel
theorem d_Reader_rollLine_20 : decode b_Reader_rollLine 20 = .ok (.getfield 29, 3) := by decide +kernel
theorem d_Reader_rollLine_23 : decode b_Reader_rollLine 23 = .ok (.bipush 30, 2) := by decide +kernel
theorem d_Reader_rollLine_25 : decode b_Reader_rollLine 25 = .ok (.if_icmp .lt 9, 3) := by decide +kernel
theorem d_Reader_rollLine_28 : decode b_Reader_rollLine 28 = .ok (.aload_n 0, 1) := by decide +kernel
theorem d_Reader_rollLine_29 : decode b_Reader_rollLine 29 = .ok (.iconst 4, 1) := by decide +kernel
theorem d_Reader_rollLine_30 : decode b_Reader_rollLine 30 = .ok (.invokevirtual 71, 3) := by decide +kernel
theorem d_Reader_rollLine_33 : decode b_Reader_rollLine 33 = .ok (.ireturn, 1) := by decide +kernel
theorem d_Reader_rollLine_34 : decode b_Reader_rollLine 34 = .ok (.aload_n 0, 1) := by decide +kernel
theorem d_Reader_rollLine_35 : decode b_Reader_rollLine 35 = .ok (.getfield 107, 3) := by decide +kernel
theorem d_Reader_rollLine_38 : decode b_Reader_rollLine 38 = .ok (.istore_n 1, 1) := by decide +kernel
theorem d_Reader_rollLine_39 : decode b_Reader_rollLine 39 = .ok (.aload_n 0, 1) := by decide +kernel
theorem d_Reader_rollLine_40 : decode b_Reader_rollLine 40 = .ok (.getfield 12, 3) := by decide +kernel
theorem d_Reader_rollLine_43 : decode b_Reader_rollLine 43 = .ok (.invokevirtual 46, 3) := by decide +kernel
theorem d_Reader_rollLine_46 : decode b_Reader_rollLine 46 = .ok (.aload_n 0, 1) := by decide +kernel
theorem d_Reader_rollLine_47 : decode b_Reader_rollLine 47 = .ok (.getfield 12, 3) := by decide +kernel
theorem d_Reader_rollLine_50 : decode b_Reader_rollLine 50 = .ok (.bipush 10, 2) := by decide +kernel
theorem d_Reader_rollLine_52 : decode b_Reader_rollLine 52 = .ok (.invokevirtual 155, 3) := by decide +kernel
theorem d_Reader_rollLine_55 : decode b_Reader_rollLine 55 = .ok (.istore_n 2, 1) := by decide +kernel
theorem d_Reader_rollLine_56 : decode b_Reader_rollLine 56 = .ok (.iload_n 2, 1) := by decide +kernel
theorem d_Reader_rollLine_57 : decode b_Reader_rollLine 57 = .ok (.ifCond .ne 21, 3) := by decide +kernel
theorem d_Reader_rollLine_60 : decode b_Reader_rollLine 60 = .ok (.aload_n 0, 1) := by decide +kernel
theorem d_Reader_rollLine_61 : decode b_Reader_rollLine 61 = .ok (.getfield 12, 3) := by decide +kernel
theorem d_Reader_rollLine_64 : decode b_Reader_rollLine 64 = .ok (.bipush 11, 2) := by decide +kernel
theorem d_Reader_rollLine_66 : decode b_Reader_rollLine 66 = .ok (.invokevirtual 155, 3) := by decide +kernel
theorem d_Reader_rollLine_69 : decode b_Reader_rollLine 69 = .ok (.ifCond .ne 9, 3) := by decide +kernel
theorem d_Reader_rollLine_72 : decode b_Reader_rollLine 72 = .ok (.aload_n 0, 1) := by decide +kernel
theorem d_Reader_rollLine_73 : decode b_Reader_rollLine 73 = .ok (.iconst 1, 1) := by decide +kernel
theorem d_Reader_rollLine_74 : decode b_Reader_rollLine 74 = .ok (.invokevirtual 71, 3) := by decide +kernel
theorem d_Reader_rollLine_77 : decode b_Reader_rollLine 77 = .ok (.ireturn, 1) := by decide +kernel
theorem d_Reader_rollLine_78 : decode b_Reader_rollLine 78 = .ok (.aload_n 0, 1) := by decide +kernel
theorem d_Reader_rollLine_79 : decode b_Reader_rollLine 79 = .ok (.getfield 12, 3) := by decide +kernel
theorem d_Reader_rollLine_82 : decode b_Reader_rollLine 82 = .ok (.invokevirtual 46, 3) := by decide +kernel
theorem d_Reader_rollLine_85 : decode b_Reader_rollLine 85 = .ok (.aload_n 0, 1) := by decide +kernel
theorem d_Reader_rollLine_86 : decode b_Reader_rollLine 86 = .ok (.aload_n 0, 1) := by decide +kernel
theorem d_Reader_rollLine_87 : decode b_Reader_rollLine 87 = .ok (.getfield 21, 3) := by decide +kernel
theorem d_Reader_rollLine_90 : decode b_Reader_rollLine 90 = .ok (.getfield 84, 3) := by decide +kernel
theorem d_Reader_rollLine_93 : decode b_Reader_rollLine 93 = .ok (.getfield 88, 3) := by decide +kernel
theorem d_Reader_rollLine_96 : decode b_Reader_rollLine 96 = .ok (.invokevirtual 161, 3) := by decide +kernel
theorem d_Reader_rollLine_99 : decode b_Reader_rollLine 99 = .ok (.ifCond .ne 5, 3) := by decide +kernel
theorem d_Reader_rollLine_102 : decode b_Reader_rollLine 102 = .ok (.iconst 0, 1) := by decide +kernel
theorem d_Reader_rollLine_103 : decode b_Reader_rollLine 103 = .ok (.ireturn, 1) := by decide +kernel
theorem d_Reader_rollLine_104 : decode b_Reader_rollLine 104 = .ok (.iload_n 2, 1) := by decide +kernel
theorem d_Reader_rollLine_105 : decode b_Reader_rollLine 105 = .ok (.ifCond .eq 12, 3) := by decide +kernel
theorem d_Reader_rollLine_108 : decode b_Reader_rollLine 108 = .ok (.iconst 1, 1) := by decide +kernel
theorem d_Reader_rollLine_109 : decode b_Reader_rollLine 109 = .ok (.aload_n 0, 1) := by decide +kernel
theorem d_Reader_rollLine_110 : decode b_Reader_rollLine 110 = .ok (.getfield 107, 3) := by decide +kernel
theorem d_Reader_rollLine_113 : decode b_Reader_rollLine 113 = .ok (.ishl, 1) := by decide +kernel
theorem d_Reader_rollLine_114 : decode b_Reader_rollLine 114 = .ok (.goto 11, 3) := by decide +kernel
theorem d_Reader_rollLine_117 : decode b_Reader_rollLine 117 = .ok (.iconst 1, 1) := by decide +kernel
theorem d_Reader_rollLine_118 : decode b_Reader_rollLine 118 = .ok (.aload_n 0, 1) := by decide +kernel
theorem d_Reader_rollLine_119 : decode b_Reader_rollLine 119 = .ok (.getfield 107, 3) := by decide +kernel
theorem d_Reader_rollLine_122 : decode b_Reader_rollLine 122 = .ok (.ishl, 1) := by decide +kernel
theorem d_Reader_rollLine_123 : decode b_Reader_rollLine 123 = .ok (.iconst (-1), 1) := by decide +kernel
theorem d_Reader_rollLine_124 : decode b_Reader_rollLine 124 = .ok (.ixor, 1) := by decide +kernel
theorem d_Reader_rollLine_125 : decode b_Reader_rollLine 125 = .ok (.istore_n 3, 1) := by decide +kernel
theorem d_Reader_rollLine_126 : decode b_Reader_rollLine 126 = .ok (.aload_n 0, 1) := by decide +kernel
theorem d_Reader_rollLine_127 : decode b_Reader_rollLine 127 = .ok (.getfield 21, 3) := by decide +kernel
theorem d_Reader_rollLine_130 : decode b_Reader_rollLine 130 = .ok (.getfield 204, 3) := by decide +kernel
theorem d_Reader_rollLine_133 : decode b_Reader_rollLine 133 = .ok (.iload_n 1, 1) := by decide +kernel
theorem d_Reader_rollLine_134 : decode b_Reader_rollLine 134 = .ok (.aload_n 0, 1) := by decide +kernel
theorem d_Reader_rollLine_135 : decode b_Reader_rollLine 135 = .ok (.getfield 21, 3) := by decide +kernel
theorem d_Reader_rollLine_138 : decode b_Reader_rollLine 138 = .ok (.getfield 204, 3) := by decide +kernel
theorem d_Reader_rollLine_141 : decode b_Reader_rollLine 141 = .ok (.iload_n 1, 1) := by decide +kernel
theorem d_Reader_rollLine_142 : decode b_Reader_rollLine 142 = .ok (.invokevirtual 207, 3) := by decide +kernel
theorem d_Reader_rollLine_145 : decode b_Reader_rollLine 145 = .ok (.iload_n 3, 1) := by decide +kernel
theorem d_Reader_rollLine_146 : decode b_Reader_rollLine 146 = .ok (.iand, 1) := by decide +kernel
theorem d_Reader_rollLine_147 : decode b_Reader_rollLine 147 = .ok (.invokevirtual 148, 3) := by decide +kernel
theorem d_Reader_rollLine_150 : decode b_Reader_rollLine 150 = .ok (.aload_n 0, 1) := by decide +kernel
theorem d_Reader_rollLine_151 : decode b_Reader_rollLine 151 = .ok (.getfield 21, 3) := by decide +kernel
theorem d_Reader_rollLine_154 : decode b_Reader_rollLine 154 = .ok (.aload_n 0, 1) := by decide +kernel
theorem d_Reader_rollLine_155 : decode b_Reader_rollLine 155 = .ok (.getfield 29, 3) := by decide +kernel
theorem d_Reader_rollLine_158 : decode b_Reader_rollLine 158 = .ok (.iconst 1, 1) := by decide +kernel
theorem d_Reader_rollLine_159 : decode b_Reader_rollLine 159 = .ok (.iadd, 1) := by decide +kernel
theorem d_Reader_rollLine_160 : decode b_Reader_rollLine 160 = .ok (.putfield 210, 3) := by decide +kernel
theorem d_Reader_rollLine_163 : decode b_Reader_rollLine 163 = .ok (.aload_n 0, 1) := by decide +kernel
theorem d_Reader_rollLine_164 : decode b_Reader_rollLine 164 = .ok (.getfield 12, 3) := by decide +kernel
theorem d_Reader_rollLine_167 : decode b_Reader_rollLine 167 = .ok (.invokevirtual 46, 3) := by decide +kernel
theorem d_Reader_rollLine_170 : decode b_Reader_rollLine 170 = .ok (.iconst 1, 1) := by decide +kernel
theorem d_Reader_rollLine_171 : decode b_Reader_rollLine 171 = .ok (.ireturn, 1) := by decide +kernel
noncomputable def f_Reader_rollLine_J125 (z : Nat → Nat) (o : Nat) (v1 : Int32) (t125_0 : Int32) (m125 : Mm) : Option (Int32 × Mm) :=
  (f_Row_at z m125 (o + 31) v1).bind fun q142 =>
  (f_Row_put z m125 (o + 31) v1 (q142 &&& t125_0)).bind fun q147 =>
  mm_lt (kI q147 (o + 4) 5 ((q147.1 o 2) + (1 : Int32))) fun m160 =>
  (f_Tokens_step z m160 (o + 1)).bind fun q167 =>
  some ((1 : Int32), q167)
noncomputable def f_Reader_rollLine_J78 (z : Nat → Nat) (o : Nat) (v1 : Int32) (v2 : Int32) (m78 : Mm) : Option (Int32 × Mm) :=
  (f_Tokens_step z m78 (o + 1)).bind fun q82 =>
  (f_Reader_isOneOf z q82 o (o + 6)).bind fun q96 =>
  if q96.1 = 0 then (
    some ((0 : Int32), q96.2)
  ) else (
    if v2 = 0 then (
      f_Reader_rollLine_J125 z o v1 (((1 : Int32) <<< ((q96.2.1 o 5) &&& 31)) ^^^ ((-1) : Int32)) q96.2
    ) else (
      f_Reader_rollLine_J125 z o v1 ((1 : Int32) <<< ((q96.2.1 o 5) &&& 31)) q96.2
    )
  )
noncomputable def f_Reader_rollLine (z : Nat → Nat) (σ : Mm) (o : Nat) : Option (Int32 × Mm) :=
  (f_Reader_isOneOf z σ o (o + 8)).bind fun q11 =>
  if q11.1 = 0 then (
    some ((0 : Int32), q11.2)
  ) else (
    if (q11.2.1 o 2) < (30 : Int32) then (
      mm_lt ((q11.2.1 o 5)) fun x38 =>
      (f_Tokens_step z q11.2 (o + 1)).bind fun q43 =>
      (f_Tokens_isWord z q43 (o + 1) (10 : Int32)).bind fun q52 =>
      if q52 = 0 then (
        (f_Tokens_isWord z q43 (o + 1) (11 : Int32)).bind fun q66 =>
        if q66 = 0 then (
          (f_Reader_fail z q43 o (1 : Int32)).bind fun q74 =>
          (mm_zb q74.1).bind fun y77 =>
          some (y77, q74.2)
        ) else (
          f_Reader_rollLine_J78 z o x38 q52 q43
        )
      ) else (
        f_Reader_rollLine_J78 z o x38 q52 q43
      )
    ) else (
      (f_Reader_fail z q11.2 o (4 : Int32)).bind fun q30 =>
      (mm_zb q30.1).bind fun y33 =>
      some (y33, q30.2)
    )
  )
set_option maxHeartbeats 4000000 in
set_option maxRecDepth 100000 in
theorem c_Reader_rollLine (l : Launch) {L : Ly} (hg : gd_ok L) {σ : Mm} {o : Nat} (k_o_0 : ly_k L o = 9) {res : Int32 × Mm} (hf0 : f_Reader_rollLine (ly_z L) σ o = some res) : CtI l y_Reader_rollLine b_Reader_rollLine 4 (some .boolean) rm_Reader_rollLine L [.ref (ly_a L o)] σ res.1 res.2 := by
  refine ct_z hg (by decide) (Nat.le_of_ble_eq_true rfl) ?_
  intro E A Q hE C hN
  subst hE
  have k_o_4 : ly_k L (o + 4) = 4 := gd_Reader_draft hg k_o_0
  have k_o_31 : ly_k L (o + 31) = 0 := gd_State_fits hg k_o_4
  have k_o_1 : ly_k L (o + 1) = 8 := gd_Reader_tokens hg k_o_0
  have k_o_5 : ly_k L (o + 5) = 2 := gd_State_island hg k_o_4
  have k_o_6 : ly_k L (o + 6) = 1 := gd_Island_surnames hg k_o_5
  have k_o_8 : ly_k L (o + 8) = 1 := gd_Island_houses hg k_o_5
  unfold f_Reader_rollLine at hf0
  show GW E L A 4 0 0 Q σ 0 [(0, .ref (ly_a L o))] []
  have hj125 : ∀ (v1 : Int32) (t125_0 : Int32) (m125 : Mm), f_Reader_rollLine_J125 (ly_z L) o v1 t125_0 m125 = some res → GW E L A 4 0 0 Q m125 125 [(0, .ref (ly_a L o)), (1, .int v1)] [.int t125_0] := by
    intro v1 t125_0 m125 hf0
    unfold f_Reader_rollLine_J125 at hf0
    refine gw_istore_n C [(3, .int t125_0), (0, .ref (ly_a L o)), (1, .int v1)] d_Reader_rollLine_125 rfl (by decide) rfl ?_
    refine gw_aload_n C 1 d_Reader_rollLine_126 rfl rfl ?_
    refine gw_getA C 1 d_Reader_rollLine_127 k_o_0 (by decide) i_Reader rfl rfl (by decide) qw_289 rfl rfl (o + 4) rfl ?_
    refine gw_getAN C 6 d_Reader_rollLine_130 k_o_4 (by decide) i_State rfl rfl (by decide) qw_250 rfl rfl (o + 31) rfl ?_
    refine gw_iload_n C 2 d_Reader_rollLine_133 rfl rfl ?_
    refine gw_aload_n C 1 d_Reader_rollLine_134 rfl rfl ?_
    refine gw_getA C 1 d_Reader_rollLine_135 k_o_0 (by decide) i_Reader rfl rfl (by decide) qw_289 rfl rfl (o + 4) rfl ?_
    refine gw_getAN C 6 d_Reader_rollLine_138 k_o_4 (by decide) i_State rfl rfl (by decide) qw_250 rfl rfl (o + 31) rfl ?_
    refine gw_iload_n C 2 d_Reader_rollLine_141 rfl rfl ?_
    obtain ⟨q142, hq142, hf0⟩ := mx_bd hf0
    refine gw_callI C (c_Row_at _ hg k_o_31 hq142) d_Reader_rollLine_142 1 qw_652 qw_489 qw_490 qw_4 qw_491 k_o_31 (by decide) rfl hd_Row_at rfl rfl (Nat.le_of_ble_eq_true rfl) ⟨rfl, rfl, Nat.le_of_ble_eq_true rfl, Nat.le_of_ble_eq_true rfl⟩ ⟨Nat.zero_le _, Nat.zero_le _⟩ ?_
    refine gw_iload_n C 0 d_Reader_rollLine_145 rfl rfl ?_
    refine gw_iand C d_Reader_rollLine_146 ?_
    obtain ⟨q147, hq147, hf0⟩ := mx_bd hf0
    refine gw_callV C (c_Row_put _ hg k_o_31 hq147) d_Reader_rollLine_147 2 qw_592 qw_461 qw_462 qw_4 qw_463 k_o_31 (by decide) rfl hd_Row_put rfl rfl (Nat.le_of_ble_eq_true rfl) ⟨rfl, rfl, Nat.le_of_ble_eq_true rfl, Nat.le_of_ble_eq_true rfl⟩ ⟨Nat.zero_le _, Nat.zero_le _⟩ ?_
    refine gw_aload_n C 1 d_Reader_rollLine_150 rfl rfl ?_
    refine gw_getA C 1 d_Reader_rollLine_151 k_o_0 (by decide) i_Reader rfl rfl (by decide) qw_289 rfl rfl (o + 4) rfl ?_
    refine gw_aload_n C 1 d_Reader_rollLine_154 rfl rfl ?_
    refine gw_getI C 2 d_Reader_rollLine_155 k_o_0 (by decide) i_Reader rfl rfl (by decide) qw_291 rfl rfl ?_
    refine gw_iconst C (1 : Int32) d_Reader_rollLine_158 (by decide) ?_
    refine gw_iadd C d_Reader_rollLine_159 ?_
    obtain ⟨m160, em160, hf0⟩ := mx_lt hf0
    refine gw_putIN t_State C 5 d_Reader_rollLine_160 k_o_4 (by decide) i_State rfl rfl (by decide) qw_246 rfl rfl t_State_ok n_State rfl (t_State_ok 5 (by decide)) rfl rfl em160 ?_
    refine gw_aload_n C 1 d_Reader_rollLine_163 rfl rfl ?_
    refine gw_getA C 0 d_Reader_rollLine_164 k_o_0 (by decide) i_Reader rfl rfl (by decide) qw_287 rfl rfl (o + 1) rfl ?_
    obtain ⟨q167, hq167, hf0⟩ := mx_bd hf0
    refine gw_callV C (c_Tokens_step _ hg k_o_1 hq167) d_Reader_rollLine_167 0 qw_481 qw_482 qw_483 qw_3 qw_484 k_o_1 (by decide) rfl hd_Tokens_step rfl rfl (Nat.le_of_ble_eq_true rfl) ⟨rfl, rfl, Nat.le_of_ble_eq_true rfl, Nat.le_of_ble_eq_true rfl⟩ ⟨Nat.zero_le _, Nat.zero_le _⟩ ?_
    refine gw_iconst C (1 : Int32) d_Reader_rollLine_170 (by decide) ?_
    exact en_z hN (Or.inr rfl) hf0 d_Reader_rollLine_171
  have hj78 : ∀ (v1 : Int32) (v2 : Int32) (m78 : Mm), f_Reader_rollLine_J78 (ly_z L) o v1 v2 m78 = some res → GW E L A 4 0 0 Q m78 78 [(0, .ref (ly_a L o)), (1, .int v1), (2, .int v2)] [] := by
    intro v1 v2 m78 hf0
    unfold f_Reader_rollLine_J78 at hf0
    refine gw_aload_n C 0 d_Reader_rollLine_78 rfl rfl ?_
    refine gw_getA C 0 d_Reader_rollLine_79 k_o_0 (by decide) i_Reader rfl rfl (by decide) qw_287 rfl rfl (o + 1) rfl ?_
    obtain ⟨q82, hq82, hf0⟩ := mx_bd hf0
    refine gw_callV C (c_Tokens_step _ hg k_o_1 hq82) d_Reader_rollLine_82 0 qw_481 qw_482 qw_483 qw_3 qw_484 k_o_1 (by decide) rfl hd_Tokens_step rfl rfl (Nat.le_of_ble_eq_true rfl) ⟨rfl, rfl, Nat.le_of_ble_eq_true rfl, Nat.le_of_ble_eq_true rfl⟩ ⟨Nat.zero_le _, Nat.zero_le _⟩ ?_
    refine gw_aload_n C 0 d_Reader_rollLine_85 rfl rfl ?_
    refine gw_aload_n C 0 d_Reader_rollLine_86 rfl rfl ?_
    refine gw_getA C 1 d_Reader_rollLine_87 k_o_0 (by decide) i_Reader rfl rfl (by decide) qw_289 rfl rfl (o + 4) rfl ?_
    refine gw_getAN C 0 d_Reader_rollLine_90 k_o_4 (by decide) i_State rfl rfl (by decide) qw_236 rfl rfl (o + 5) rfl ?_
    refine gw_getAN C 0 d_Reader_rollLine_93 k_o_5 (by decide) i_Island rfl rfl (by decide) qw_127 rfl rfl (o + 6) rfl ?_
    obtain ⟨q96, hq96, hf0⟩ := mx_bd hf0
    refine gw_callI C (c_Reader_isOneOf _ hg k_o_0 k_o_6 hq96) d_Reader_rollLine_96 1 qw_601 qw_603 qs_9 qw_2 qw_604 k_o_0 (by decide) rfl hd_Reader_isOneOf rfl rfl (Nat.le_of_ble_eq_true rfl) ⟨rfl, rfl, Nat.le_of_ble_eq_true rfl, Nat.le_of_ble_eq_true rfl⟩ ⟨Nat.zero_le _, Nat.zero_le _⟩ ?_
    refine gw_if_ne C 104 d_Reader_rollLine_99 (by decide) (fun hc => ?_) (fun hc => ?_)
    · replace hf0 := mx_f hc hf0
      refine gw_iload_n C 2 d_Reader_rollLine_104 rfl rfl ?_
      refine gw_if_eq C 117 d_Reader_rollLine_105 (by decide) (fun hc => ?_) (fun hc => ?_)
      · replace hf0 := mx_t hc hf0
        refine gw_iconst C (1 : Int32) d_Reader_rollLine_117 (by decide) ?_
        refine gw_aload_n C 0 d_Reader_rollLine_118 rfl rfl ?_
        refine gw_getI C 5 d_Reader_rollLine_119 k_o_0 (by decide) i_Reader rfl rfl (by decide) qw_297 rfl rfl ?_
        refine gw_ishl C d_Reader_rollLine_122 ?_
        refine gw_iconst C ((-1) : Int32) d_Reader_rollLine_123 (by decide) ?_
        refine gw_ixor C d_Reader_rollLine_124 ?_
        exact gw_go [0, 1] (hj125 _ _ _ hf0) rfl
      · replace hf0 := mx_f hc hf0
        refine gw_iconst C (1 : Int32) d_Reader_rollLine_108 (by decide) ?_
        refine gw_aload_n C 0 d_Reader_rollLine_109 rfl rfl ?_
        refine gw_getI C 5 d_Reader_rollLine_110 k_o_0 (by decide) i_Reader rfl rfl (by decide) qw_297 rfl rfl ?_
        refine gw_ishl C d_Reader_rollLine_113 ?_
        refine gw_goto C 125 d_Reader_rollLine_114 (by decide) ?_
        exact gw_go [0, 1] (hj125 _ _ _ hf0) rfl
    · replace hf0 := mx_t hc hf0
      refine gw_iconst C (0 : Int32) d_Reader_rollLine_102 (by decide) ?_
      exact en_z hN (Or.inl rfl) hf0 d_Reader_rollLine_103
  refine gw_aload_n C 0 d_Reader_rollLine_0 rfl rfl ?_
  refine gw_aload_n C 0 d_Reader_rollLine_1 rfl rfl ?_
  refine gw_getA C 1 d_Reader_rollLine_2 k_o_0 (by decide) i_Reader rfl rfl (by decide) qw_289 rfl rfl (o + 4) rfl ?_
  refine gw_getAN C 0 d_Reader_rollLine_5 k_o_4 (by decide) i_State rfl rfl (by decide) qw_236 rfl rfl (o + 5) rfl ?_
  refine gw_getAN C 1 d_Reader_rollLine_8 k_o_5 (by decide) i_Island rfl rfl (by decide) qw_135 rfl rfl (o + 8) rfl ?_
  obtain ⟨q11, hq11, hf0⟩ := mx_bd hf0
  refine gw_callI C (c_Reader_isOneOf _ hg k_o_0 k_o_8 hq11) d_Reader_rollLine_11 1 qw_601 qw_603 qs_9 qw_2 qw_604 k_o_0 (by decide) rfl hd_Reader_isOneOf rfl rfl (Nat.le_of_ble_eq_true rfl) ⟨rfl, rfl, Nat.le_of_ble_eq_true rfl, Nat.le_of_ble_eq_true rfl⟩ ⟨Nat.zero_le _, Nat.zero_le _⟩ ?_
  refine gw_if_ne C 19 d_Reader_rollLine_14 (by decide) (fun hc => ?_) (fun hc => ?_)
  · replace hf0 := mx_f hc hf0
    refine gw_aload_n C 0 d_Reader_rollLine_19 rfl rfl ?_
    refine gw_getI C 2 d_Reader_rollLine_20 k_o_0 (by decide) i_Reader rfl rfl (by decide) qw_291 rfl rfl ?_
    refine gw_bipush C (30 : Int32) d_Reader_rollLine_23 (by decide) ?_
    refine gw_icmp_lt C 34 d_Reader_rollLine_25 (by decide) (fun hc => ?_) (fun hc => ?_)
    · replace hf0 := mx_t hc hf0
      refine gw_aload_n C 0 d_Reader_rollLine_34 rfl rfl ?_
      refine gw_getI C 5 d_Reader_rollLine_35 k_o_0 (by decide) i_Reader rfl rfl (by decide) qw_297 rfl rfl ?_
      obtain ⟨x38, ex38, hf0⟩ := mx_lt hf0
      refine gw_topi ex38 ?_
      refine gw_istore_n C [(1, .int x38), (0, .ref (ly_a L o))] d_Reader_rollLine_38 rfl (by decide) rfl ?_
      refine gw_aload_n C 1 d_Reader_rollLine_39 rfl rfl ?_
      refine gw_getA C 0 d_Reader_rollLine_40 k_o_0 (by decide) i_Reader rfl rfl (by decide) qw_287 rfl rfl (o + 1) rfl ?_
      obtain ⟨q43, hq43, hf0⟩ := mx_bd hf0
      refine gw_callV C (c_Tokens_step _ hg k_o_1 hq43) d_Reader_rollLine_43 0 qw_481 qw_482 qw_483 qw_3 qw_484 k_o_1 (by decide) rfl hd_Tokens_step rfl rfl (Nat.le_of_ble_eq_true rfl) ⟨rfl, rfl, Nat.le_of_ble_eq_true rfl, Nat.le_of_ble_eq_true rfl⟩ ⟨Nat.zero_le _, Nat.zero_le _⟩ ?_
      refine gw_aload_n C 1 d_Reader_rollLine_46 rfl rfl ?_
      refine gw_getA C 0 d_Reader_rollLine_47 k_o_0 (by decide) i_Reader rfl rfl (by decide) qw_287 rfl rfl (o + 1) rfl ?_
      refine gw_bipush C (10 : Int32) d_Reader_rollLine_50 (by decide) ?_
      obtain ⟨q52, hq52, hf0⟩ := mx_bd hf0
      refine gw_callI C (c_Tokens_isWord _ hg k_o_1 hq52) d_Reader_rollLine_52 1 qw_593 qw_594 qw_595 qw_3 qw_596 k_o_1 (by decide) rfl hd_Tokens_isWord rfl rfl (Nat.le_of_ble_eq_true rfl) ⟨rfl, rfl, Nat.le_of_ble_eq_true rfl, Nat.le_of_ble_eq_true rfl⟩ ⟨Nat.zero_le _, Nat.zero_le _⟩ ?_
      refine gw_istore_n C [(2, .int q52), (1, .int x38), (0, .ref (ly_a L o))] d_Reader_rollLine_55 rfl (by decide) rfl ?_
      refine gw_iload_n C 0 d_Reader_rollLine_56 rfl rfl ?_
      refine gw_if_ne C 78 d_Reader_rollLine_57 (by decide) (fun hc => ?_) (fun hc => ?_)
      · replace hf0 := mx_f hc hf0
        exact gw_go [2, 1, 0] (hj78 _ _ _ hf0) rfl
      · replace hf0 := mx_t hc hf0
        refine gw_aload_n C 2 d_Reader_rollLine_60 rfl rfl ?_
        refine gw_getA C 0 d_Reader_rollLine_61 k_o_0 (by decide) i_Reader rfl rfl (by decide) qw_287 rfl rfl (o + 1) rfl ?_
        refine gw_bipush C (11 : Int32) d_Reader_rollLine_64 (by decide) ?_
        obtain ⟨q66, hq66, hf0⟩ := mx_bd hf0
        refine gw_callI C (c_Tokens_isWord _ hg k_o_1 hq66) d_Reader_rollLine_66 1 qw_593 qw_594 qw_595 qw_3 qw_596 k_o_1 (by decide) rfl hd_Tokens_isWord rfl rfl (Nat.le_of_ble_eq_true rfl) ⟨rfl, rfl, Nat.le_of_ble_eq_true rfl, Nat.le_of_ble_eq_true rfl⟩ ⟨Nat.zero_le _, Nat.zero_le _⟩ ?_
        refine gw_if_ne C 78 d_Reader_rollLine_69 (by decide) (fun hc => ?_) (fun hc => ?_)
        · replace hf0 := mx_f hc hf0
          exact gw_go [2, 1, 0] (hj78 _ _ _ hf0) rfl
        · replace hf0 := mx_t hc hf0
          refine gw_aload_n C 2 d_Reader_rollLine_72 rfl rfl ?_
          refine gw_iconst C (1 : Int32) d_Reader_rollLine_73 (by decide) ?_
          obtain ⟨q74, hq74, hf0⟩ := mx_bd hf0
          refine gw_callI C (c_Reader_fail _ hg k_o_0 hq74) d_Reader_rollLine_74 1 qw_568 qw_570 qs_4 qw_2 qw_571 k_o_0 (by decide) rfl hd_Reader_fail rfl rfl (Nat.le_of_ble_eq_true rfl) ⟨rfl, rfl, Nat.le_of_ble_eq_true rfl, Nat.le_of_ble_eq_true rfl⟩ ⟨Nat.zero_le _, Nat.zero_le _⟩ ?_
          obtain ⟨y77, hy77, hf0⟩ := mx_bd hf0
          obtain ⟨zy77, ey77⟩ := mx_zb hy77
          refine gw_topi ey77 ?_
          exact en_z hN zy77 hf0 d_Reader_rollLine_77
    · replace hf0 := mx_f hc hf0
      refine gw_aload_n C 0 d_Reader_rollLine_28 rfl rfl ?_
      refine gw_iconst C (4 : Int32) d_Reader_rollLine_29 (by decide) ?_
      obtain ⟨q30, hq30, hf0⟩ := mx_bd hf0
      refine gw_callI C (c_Reader_fail _ hg k_o_0 hq30) d_Reader_rollLine_30 1 qw_568 qw_570 qs_4 qw_2 qw_571 k_o_0 (by decide) rfl hd_Reader_fail rfl rfl (Nat.le_of_ble_eq_true rfl) ⟨rfl, rfl, Nat.le_of_ble_eq_true rfl, Nat.le_of_ble_eq_true rfl⟩ ⟨Nat.zero_le _, Nat.zero_le _⟩ ?_
      obtain ⟨y33, hy33, hf0⟩ := mx_bd hf0
      obtain ⟨zy33, ey33⟩ := mx_zb hy33
      refine gw_topi ey33 ?_
      exact en_z hN zy33 hf0 d_Reader_rollLine_33
  · replace hf0 := mx_t hc hf0
    refine gw_iconst C (0 : Int32) d_Reader_rollLine_17 (by decide) ?_
    exact en_z hN (Or.inl rfl) hf0 d_Reader_rollLine_18

/-! NameHat.Reader.isSecond(I)Z -/
abbrev b_Reader_isSecond : ByteArray := prog_6_method_19_code
def y_Reader_isSecond : MethodName := ⟨"NameHat$Reader", "isSecond", "(I)Z"⟩
abbrev rm_Reader_isSecond : Room := { frames := 3, cells := 0, slots := 0, locals := 62 }
theorem hd_Reader_isSecond : y_Reader_isSecond.cls ≠ "java/lang/invoke/MethodHandle" ∧ y_Reader_isSecond.cls ≠ "java/lang/invoke/VarHandle" ∧ (parseMethodDescriptor y_Reader_isSecond.desc).map (fun d => d.parameters.length) = some 1 := by decide +kernel
theorem d_Reader_isSecond_0 : decode b_Reader_isSecond 0 = .ok (.iload_n 1, 1) := by decide +kernel
theorem d_Reader_isSecond_1 : decode b_Reader_isSecond 1 = .ok (.bipush 8, 2) := by decide +kernel
theorem d_Reader_isSecond_3 : decode b_Reader_isSecond 3 = .ok (.if_icmp .ne 21, 3) := by decide +kernel
theorem d_Reader_isSecond_6 : decode b_Reader_isSecond 6 = .ok (.aload_n 0, 1) := by decide +kernel
theorem d_Reader_isSecond_7 : decode b_Reader_isSecond 7 = .ok (.iconst 0, 1) := by decide +kernel
theorem d_Reader_isSecond_8 : decode b_Reader_isSecond 8 = .ok (.aload_n 0, 1) := by decide +kernel
theorem d_Reader_isSecond_9 : decode b_Reader_isSecond 9 = .ok (.getfield 21, 3) := by decide +kernel
theorem d_Reader_isSecond_12 : decode b_Reader_isSecond 12 = .ok (.getfield 84, 3) := by decide +kernel
theorem d_Reader_isSecond_15 : decode b_Reader_isSecond 15 = .ok (.getfield 192, 3) := by decide +kernel
theorem d_Reader_isSecond_18 : decode b_Reader_isSecond 18 = .ok (.iconst 1, 1) := by decide +kernel
theorem d_Reader_isSecond_19 : decode b_Reader_isSecond 19 = .ok (.isub, 1) := by decide +kernel
theorem d_Reader_isSecond_20 : decode b_Reader_isSecond 20 = .ok (.invokevirtual 140, 3) := by decide +kernel
theorem d_Reader_isSecond_23 : decode b_Reader_isSecond 23 = .ok (.ireturn, 1) := by decide +kernel
theorem d_Reader_isSecond_24 : decode b_Reader_isSecond 24 = .ok (.aload_n 0, 1) := by decide +kernel
theorem d_Reader_isSecond_25 : decode b_Reader_isSecond 25 = .ok (.iload_n 1, 1) := by decide +kernel
theorem d_Reader_isSecond_26 : decode b_Reader_isSecond 26 = .ok (.bipush 15, 2) := by decide +kernel
theorem d_Reader_isSecond_28 : decode b_Reader_isSecond 28 = .ok (.if_icmp .ne 16, 3) := by decide +kernel
theorem d_Reader_isSecond_31 : decode b_Reader_isSecond 31 = .ok (.aload_n 0, 1) := by decide +kernel
theorem d_Reader_isSecond_32 : decode b_Reader_isSecond 32 = .ok (.getfield 21, 3) := by decide +kernel
theorem d_Reader_isSecond_35 : decode b_Reader_isSecond 35 = .ok (.getfield 84, 3) := by decide +kernel
theorem d_Reader_isSecond_38 : decode b_Reader_isSecond 38 = .ok (.getfield 88, 3) := by decide +kernel
theorem d_Reader_isSecond_41 : decode b_Reader_isSecond 41 = .ok (.goto 13, 3) := by decide +kernel
theorem d_Reader_isSecond_44 : decode b_Reader_isSecond 44 = .ok (.aload_n 0, 1) := by decide +kernel
theorem d_Reader_isSecond_45 : decode b_Reader_isSecond 45 = .ok (.getfield 21, 3) := by decide +kernel
theorem d_Reader_isSecond_48 : decode b_Reader_isSecond 48 = .ok (.getfield 84, 3) := by decide +kernel
theorem d_Reader_isSecond_51 : decode b_Reader_isSecond 51 = .ok (.getfield 104, 3) := by decide +kernel
theorem d_Reader_isSecond_54 : decode b_Reader_isSecond 54 = .ok (.invokevirtual 161, 3) := by decide +kernel
theorem d_Reader_isSecond_57 : decode b_Reader_isSecond 57 = .ok (.ireturn, 1) := by decide +kernel
noncomputable def f_Reader_isSecond (z : Nat → Nat) (σ : Mm) (o : Nat) (p1 : Int32) : Option (Int32 × Mm) :=
  if p1 = (8 : Int32) then (
    (f_Reader_isNumber z σ o (0 : Int32) ((σ.1 (o + 5) 6) - (1 : Int32))).bind fun q20 =>
    (mm_zb q20.1).bind fun y23 =>
    some (y23, q20.2)
  ) else (
    if p1 = (15 : Int32) then (
      (f_Reader_isOneOf z σ o (o + 6)).bind fun q54 =>
      (mm_zb q54.1).bind fun y57 =>
      some (y57, q54.2)
    ) else (
      (f_Reader_isOneOf z σ o (o + 8)).bind fun q54 =>
      (mm_zb q54.1).bind fun y57 =>
      some (y57, q54.2)
    )
  )
set_option maxHeartbeats 4000000 in
set_option maxRecDepth 100000 in
theorem c_Reader_isSecond (l : Launch) {L : Ly} (hg : gd_ok L) {σ : Mm} {o : Nat} {p1 : Int32} (k_o_0 : ly_k L o = 9) {res : Int32 × Mm} (hf0 : f_Reader_isSecond (ly_z L) σ o p1 = some res) : CtI l y_Reader_isSecond b_Reader_isSecond 2 (some .boolean) rm_Reader_isSecond L [.ref (ly_a L o), .int p1] σ res.1 res.2 := by
  refine ct_z hg (by decide) (Nat.le_of_ble_eq_true rfl) ?_
  intro E A Q hE C hN
  subst hE
  have k_o_4 : ly_k L (o + 4) = 4 := gd_Reader_draft hg k_o_0
  have k_o_5 : ly_k L (o + 5) = 2 := gd_State_island hg k_o_4
  have k_o_8 : ly_k L (o + 8) = 1 := gd_Island_houses hg k_o_5
  have k_o_6 : ly_k L (o + 6) = 1 := gd_Island_surnames hg k_o_5
  unfold f_Reader_isSecond at hf0
  show GW E L A 2 0 0 Q σ 0 [(0, .ref (ly_a L o)), (1, .int p1)] []
  refine gw_iload_n C 1 d_Reader_isSecond_0 rfl rfl ?_
  refine gw_bipush C (8 : Int32) d_Reader_isSecond_1 (by decide) ?_
  refine gw_icmp_ne C 24 d_Reader_isSecond_3 (by decide) (fun hc => ?_) (fun hc => ?_)
  · replace hf0 := mx_f hc hf0
    refine gw_aload_n C 0 d_Reader_isSecond_24 rfl rfl ?_
    refine gw_iload_n C 1 d_Reader_isSecond_25 rfl rfl ?_
    refine gw_bipush C (15 : Int32) d_Reader_isSecond_26 (by decide) ?_
    refine gw_icmp_ne C 44 d_Reader_isSecond_28 (by decide) (fun hc => ?_) (fun hc => ?_)
    · replace hf0 := mx_f hc hf0
      refine gw_aload_n C 0 d_Reader_isSecond_44 rfl rfl ?_
      refine gw_getA C 1 d_Reader_isSecond_45 k_o_0 (by decide) i_Reader rfl rfl (by decide) qw_289 rfl rfl (o + 4) rfl ?_
      refine gw_getAN C 0 d_Reader_isSecond_48 k_o_4 (by decide) i_State rfl rfl (by decide) qw_236 rfl rfl (o + 5) rfl ?_
      refine gw_getAN C 1 d_Reader_isSecond_51 k_o_5 (by decide) i_Island rfl rfl (by decide) qw_135 rfl rfl (o + 8) rfl ?_
      obtain ⟨q54, hq54, hf0⟩ := mx_bd hf0
      refine gw_callI C (c_Reader_isOneOf _ hg k_o_0 k_o_8 hq54) d_Reader_isSecond_54 1 qw_601 qw_603 qs_9 qw_2 qw_604 k_o_0 (by decide) rfl hd_Reader_isOneOf rfl rfl (Nat.le_of_ble_eq_true rfl) ⟨rfl, rfl, Nat.le_of_ble_eq_true rfl, Nat.le_of_ble_eq_true rfl⟩ ⟨Nat.zero_le _, Nat.zero_le _⟩ ?_
      obtain ⟨y57, hy57, hf0⟩ := mx_bd hf0
      obtain ⟨zy57, ey57⟩ := mx_zb hy57
      refine gw_topi ey57 ?_
      exact en_z hN zy57 hf0 d_Reader_isSecond_57
    · replace hf0 := mx_t hc hf0
      refine gw_aload_n C 0 d_Reader_isSecond_31 rfl rfl ?_
      refine gw_getA C 1 d_Reader_isSecond_32 k_o_0 (by decide) i_Reader rfl rfl (by decide) qw_289 rfl rfl (o + 4) rfl ?_
      refine gw_getAN C 0 d_Reader_isSecond_35 k_o_4 (by decide) i_State rfl rfl (by decide) qw_236 rfl rfl (o + 5) rfl ?_
      refine gw_getAN C 0 d_Reader_isSecond_38 k_o_5 (by decide) i_Island rfl rfl (by decide) qw_127 rfl rfl (o + 6) rfl ?_
      refine gw_goto C 54 d_Reader_isSecond_41 (by decide) ?_
      obtain ⟨q54, hq54, hf0⟩ := mx_bd hf0
      refine gw_callI C (c_Reader_isOneOf _ hg k_o_0 k_o_6 hq54) d_Reader_isSecond_54 1 qw_601 qw_603 qs_9 qw_2 qw_604 k_o_0 (by decide) rfl hd_Reader_isOneOf rfl rfl (Nat.le_of_ble_eq_true rfl) ⟨rfl, rfl, Nat.le_of_ble_eq_true rfl, Nat.le_of_ble_eq_true rfl⟩ ⟨Nat.zero_le _, Nat.zero_le _⟩ ?_
      obtain ⟨y57, hy57, hf0⟩ := mx_bd hf0
      obtain ⟨zy57, ey57⟩ := mx_zb hy57
      refine gw_topi ey57 ?_
      exact en_z hN zy57 hf0 d_Reader_isSecond_57
  · replace hf0 := mx_t hc hf0
    refine gw_aload_n C 0 d_Reader_isSecond_6 rfl rfl ?_
    refine gw_iconst C (0 : Int32) d_Reader_isSecond_7 (by decide) ?_
    refine gw_aload_n C 0 d_Reader_isSecond_8 rfl rfl ?_
    refine gw_getA C 1 d_Reader_isSecond_9 k_o_0 (by decide) i_Reader rfl rfl (by decide) qw_289 rfl rfl (o + 4) rfl ?_
    refine gw_getAN C 0 d_Reader_isSecond_12 k_o_4 (by decide) i_State rfl rfl (by decide) qw_236 rfl rfl (o + 5) rfl ?_
    refine gw_getIN C 6 d_Reader_isSecond_15 k_o_5 (by decide) i_Island rfl rfl (by decide) qw_149 rfl rfl ?_
    refine gw_iconst C (1 : Int32) d_Reader_isSecond_18 (by decide) ?_
    refine gw_isub C d_Reader_isSecond_19 ?_
    obtain ⟨q20, hq20, hf0⟩ := mx_bd hf0
    refine gw_callI C (c_Reader_isNumber _ hg k_o_0 hq20) d_Reader_isSecond_20 2 qw_588 qw_590 qs_7 qw_2 qw_591 k_o_0 (by decide) rfl hd_Reader_isNumber rfl rfl (Nat.le_of_ble_eq_true rfl) ⟨rfl, rfl, Nat.le_of_ble_eq_true rfl, Nat.le_of_ble_eq_true rfl⟩ ⟨Nat.zero_le _, Nat.zero_le _⟩ ?_
    obtain ⟨y23, hy23, hf0⟩ := mx_bd hf0
    obtain ⟨zy23, ey23⟩ := mx_zb hy23
    refine gw_topi ey23 ?_
    exact en_z hN zy23 hf0 d_Reader_isSecond_23

/-! NameHat.Reader.bookLine()Z -/
abbrev b_Reader_bookLine : ByteArray := prog_6_method_18_code
def y_Reader_bookLine : MethodName := ⟨"NameHat$Reader", "bookLine", "()Z"⟩
abbrev rm_Reader_bookLine : Room := { frames := 13, cells := 0, slots := 0, locals := 468 }
theorem hd_Reader_bookLine : y_Reader_bookLine.cls ≠ "java/lang/invoke/MethodHandle" ∧ y_Reader_bookLine.cls ≠ "java/lang/invoke/VarHandle" ∧ (parseMethodDescriptor y_Reader_bookLine.desc).map (fun d => d.parameters.length) = some 0 := by decide +kernel
theorem d_Reader_bookLine_0 : decode b_Reader_bookLine 0 = .ok (.aload_n 0, 1) := by decide +kernel
theorem d_Reader_bookLine_1 : decode b_Reader_bookLine 1 = .ok (.getfield 12, 3) := by decide +kernel
theorem d_Reader_bookLine_4 : decode b_Reader_bookLine 4 = .ok (.getfield 78, 3) := by decide +kernel
theorem d_Reader_bookLine_7 : decode b_Reader_bookLine 7 = .ok (.istore_n 1, 1) := by decide +kernel
theorem d_Reader_bookLine_8 : decode b_Reader_bookLine 8 = .ok (.iload_n 1, 1) := by decide +kernel
theorem d_Reader_bookLine_9 : decode b_Reader_bookLine 9 = .ok (.bipush 8, 2) := by decide +kernel
theorem d_Reader_bookLine_11 : decode b_Reader_bookLine 11 = .ok (.if_icmp .eq 21, 3) := by decide +kernel
theorem d_Reader_bookLine_14 : decode b_Reader_bookLine 14 = .ok (.iload_n 1, 1) := by decide +kernel
theorem d_Reader_bookLine_15 : decode b_Reader_bookLine 15 = .ok (.bipush 12, 2) := by decide +kernel
theorem d_Reader_bookLine_17 : decode b_Reader_bookLine 17 = .ok (.if_icmp .lt 9, 3) := by decide +kernel
theorem d_Reader_bookLine_20 : decode b_Reader_bookLine 20 = .ok (.iload_n 1, 1) := by decide +kernel
theorem d_Reader_bookLine_21 : decode b_Reader_bookLine 21 = .ok (.bipush 16, 2) := by decide +kernel
theorem d_Reader_bookLine_23 : decode b_Reader_bookLine 23 = .ok (.if_icmp .le 9, 3) := by decide +kernel
theorem d_Reader_bookLine_26 : decode b_Reader_bookLine 26 = .ok (.aload_n 0, 1) := by decide +kernel
theorem d_Reader_bookLine_27 : decode b_Reader_bookLine 27 = .ok (.iconst 1, 1) := by decide +kernel
theorem d_Reader_bookLine_28 : decode b_Reader_bookLine 28 = .ok (.invokevirtual 71, 3) := by decide +kernel
theorem d_Reader_bookLine_31 : decode b_Reader_bookLine 31 = .ok (.ireturn, 1) := by decide +kernel
theorem d_Reader_bookLine_32 : decode b_Reader_bookLine 32 = .ok (.aload_n 0, 1) := by decide +kernel
theorem d_Reader_bookLine_33 : decode b_Reader_bookLine 33 = .ok (.getfield 29, 3) := by decide +kernel
theorem d_Reader_bookLine_36 : decode b_Reader_bookLine 36 = .ok (.bipush 30, 2) := by decide +kernel
theorem d_Reader_bookLine_38 : decode b_Reader_bookLine 38 = .ok (.if_icmp .lt 9, 3) := by decide +kernel
theorem d_Reader_bookLine_41 : decode b_Reader_bookLine 41 = .ok (.aload_n 0, 1) := by decide +kernel
theorem d_Reader_bookLine_42 : decode b_Reader_bookLine 42 = .ok (.iconst 4, 1) := by decide +kernel
theorem d_Reader_bookLine_43 : decode b_Reader_bookLine 43 = .ok (.invokevirtual 71, 3) := by decide +kernel
theorem d_Reader_bookLine_46 : decode b_Reader_bookLine 46 = .ok (.ireturn, 1) := by decide +kernel
theorem d_Reader_bookLine_47 : decode b_Reader_bookLine 47 = .ok (.aload_n 0, 1) := by decide +kernel
theorem d_Reader_bookLine_48 : decode b_Reader_bookLine 48 = .ok (.getfield 12, 3) := by decide +kernel
theorem d_Reader_bookLine_51 : decode b_Reader_bookLine 51 = .ok (.invokevirtual 46, 3) := by decide +kernel
theorem d_Reader_bookLine_54 : decode b_Reader_bookLine 54 = .ok (.iload_n 1, 1) := by decide +kernel
theorem d_Reader_bookLine_55 : decode b_Reader_bookLine 55 = .ok (.bipush 16, 2) := by decide +kernel
theorem d_Reader_bookLine_57 : decode b_Reader_bookLine 57 = .ok (.if_icmp .eq 47, 3) := by decide +kernel
theorem d_Reader_bookLine_60 : decode b_Reader_bookLine 60 = .ok (.aload_n 0, 1) := by decide +kernel
theorem d_Reader_bookLine_61 : decode b_Reader_bookLine 61 = .ok (.aload_n 0, 1) := by decide +kernel
theorem d_Reader_bookLine_62 : decode b_Reader_bookLine 62 = .ok (.getfield 21, 3) := by decide +kernel
theorem d_Reader_bookLine_65 : decode b_Reader_bookLine 65 = .ok (.getfield 84, 3) := by decide +kernel
theorem d_Reader_bookLine_68 : decode b_Reader_bookLine 68 = .ok (.getfield 104, 3) := by decide +kernel
theorem d_Reader_bookLine_71 : decode b_Reader_bookLine 71 = .ok (.invokevirtual 161, 3) := by decide +kernel
theorem d_Reader_bookLine_74 : decode b_Reader_bookLine 74 = .ok (.ifCond .ne 5, 3) := by decide +kernel
theorem d_Reader_bookLine_77 : decode b_Reader_bookLine 77 = .ok (.iconst 0, 1) := by decide +kernel
theorem d_Reader_bookLine_78 : decode b_Reader_bookLine 78 = .ok (.ireturn, 1) := by decide +kernel
theorem d_Reader_bookLine_79 : decode b_Reader_bookLine 79 = .ok (.aload_n 0, 1) := by decide +kernel
theorem d_Reader_bookLine_80 : decode b_Reader_bookLine 80 = .ok (.getfield 21, 3) := by decide +kernel
theorem d_Reader_bookLine_83 : decode b_Reader_bookLine 83 = .ok (.getfield 213, 3) := by decide +kernel
theorem d_Reader_bookLine_86 : decode b_Reader_bookLine 86 = .ok (.aload_n 0, 1) := by decide +kernel
theorem d_Reader_bookLine_87 : decode b_Reader_bookLine 87 = .ok (.getfield 29, 3) := by decide +kernel
theorem d_Reader_bookLine_90 : decode b_Reader_bookLine 90 = .ok (.aload_n 0, 1) := by decide +kernel
theorem d_Reader_bookLine_91 : decode b_Reader_bookLine 91 = .ok (.getfield 107, 3) := by decide +kernel
theorem d_Reader_bookLine_94 : decode b_Reader_bookLine 94 = .ok (.invokevirtual 148, 3) := by decide +kernel
theorem d_Reader_bookLine_97 : decode b_Reader_bookLine 97 = .ok (.aload_n 0, 1) := by decide +kernel
theorem d_Reader_bookLine_98 : decode b_Reader_bookLine 98 = .ok (.getfield 12, 3) := by decide +kernel
theorem d_Reader_bookLine_101 : decode b_Reader_bookLine 101 = .ok (.invokevirtual 46, 3) := by decide +kernel
theorem d_Reader_bookLine_104 : decode b_Reader_bookLine 104 = .ok (.iload_n 1, 1) := by decide +kernel
theorem d_Reader_bookLine_105 : decode b_Reader_bookLine 105 = .ok (.bipush 16, 2) := by decide +kernel
theorem d_Reader_bookLine_107 : decode b_Reader_bookLine 107 = .ok (.if_icmp .eq 60, 3) := by decide +kernel
theorem d_Reader_bookLine_110 : decode b_Reader_bookLine 110 = .ok (.iload_n 1, 1) := by decide +kernel
theorem d_Reader_bookLine_111 : decode b_Reader_bookLine 111 = .ok (.bipush 14, 2) := by decide +kernel
theorem d_Reader_bookLine_113 : decode b_Reader_bookLine 113 = .ok (.if_icmp .eq 54, 3) := by decide +kernel
theorem d_Reader_bookLine_116 : decode b_Reader_bookLine 116 = .ok (.aload_n 0, 1) := by decide +kernel
theorem d_Reader_bookLine_117 : decode b_Reader_bookLine 117 = .ok (.iload_n 1, 1) := by decide +kernel
theorem d_Reader_bookLine_118 : decode b_Reader_bookLine 118 = .ok (.invokevirtual 216, 3) := by decide +kernel
theorem d_Reader_bookLine_121 : decode b_Reader_bookLine 121 = .ok (.ifCond .ne 5, 3) := by decide +kernel
theorem d_Reader_bookLine_124 : decode b_Reader_bookLine 124 = .ok (.iconst 0, 1) := by decide +kernel
theorem d_Reader_bookLine_125 : decode b_Reader_bookLine 125 = .ok (.ireturn, 1) := by decide +kernel
theorem d_Reader_bookLine_126 : decode b_Reader_bookLine 126 = .ok (.aload_n 0, 1) := by decide +kernel
theorem d_Reader_bookLine_127 : decode b_Reader_bookLine 127 = .ok (.getfield 21, 3) := by decide +kernel
theorem d_Reader_bookLine_130 : decode b_Reader_bookLine 130 = .ok (.getfield 219, 3) := by decide +kernel
theorem d_Reader_bookLine_133 : decode b_Reader_bookLine 133 = .ok (.aload_n 0, 1) := by decide +kernel
theorem d_Reader_bookLine_134 : decode b_Reader_bookLine 134 = .ok (.getfield 29, 3) := by decide +kernel
theorem d_Reader_bookLine_137 : decode b_Reader_bookLine 137 = .ok (.iload_n 1, 1) := by decide +kernel
theorem d_Reader_bookLine_138 : decode b_Reader_bookLine 138 = .ok (.bipush 8, 2) := by decide +kernel
theorem d_Reader_bookLine_140 : decode b_Reader_bookLine 140 = .ok (.if_icmp .ne 13, 3) := by decide +kernel
theorem d_Reader_bookLine_143 : decode b_Reader_bookLine 143 = .ok (.aload_n 0, 1) := by decide +kernel
theorem d_Reader_bookLine_144 : decode b_Reader_bookLine 144 = .ok (.getfield 12, 3) := by decide +kernel
theorem d_Reader_bookLine_147 : decode b_Reader_bookLine 147 = .ok (.getfield 75, 3) := by decide +kernel
theorem d_Reader_bookLine_150 : decode b_Reader_bookLine 150 = .ok (.goto 7, 3) := by decide +kernel
theorem d_Reader_bookLine_153 : decode b_Reader_bookLine 153 = .ok (.aload_n 0, 1) := by decide +kernel
theorem d_Reader_bookLine_154 : decode b_Reader_bookLine 154 = .ok (.getfield 107, 3) := by decide +kernel
theorem d_Reader_bookLine_157 : decode b_Reader_bookLine 157 = .ok (.invokevirtual 148, 3) := by decide +kernel
theorem d_Reader_bookLine_160 : decode b_Reader_bookLine 160 = .ok (.aload_n 0, 1) := by decide +kernel
theorem d_Reader_bookLine_161 : decode b_Reader_bookLine 161 = .ok (.getfield 12, 3) := by decide +kernel
theorem d_Reader_bookLine_164 : decode b_Reader_bookLine 164 = .ok (.invokevirtual 46, 3) := by decide +kernel
theorem d_Reader_bookLine_167 : decode b_Reader_bookLine 167 = .ok (.aload_n 0, 1) := by decide +kernel
theorem d_Reader_bookLine_168 : decode b_Reader_bookLine 168 = .ok (.getfield 21, 3) := by decide +kernel
theorem d_Reader_bookLine_171 : decode b_Reader_bookLine 171 = .ok (.getfield 222, 3) := by decide +kernel
theorem d_Reader_bookLine_174 : decode b_Reader_bookLine 174 = .ok (.aload_n 0, 1) := by decide +kernel
theorem d_Reader_bookLine_175 : decode b_Reader_bookLine 175 = .ok (.getfield 29, 3) := by decide +kernel
theorem d_Reader_bookLine_178 : decode b_Reader_bookLine 178 = .ok (.iload_n 1, 1) := by decide +kernel
theorem d_Reader_bookLine_179 : decode b_Reader_bookLine 179 = .ok (.invokevirtual 148, 3) := by decide +kernel
theorem d_Reader_bookLine_182 : decode b_Reader_bookLine 182 = .ok (.aload_n 0, 1) := by decide +kernel
theorem d_Reader_bookLine_183 : decode b_Reader_bookLine 183 = .ok (.getfield 21, 3) := by decide +kernel
theorem d_Reader_bookLine_186 : decode b_Reader_bookLine 186 = .ok (.aload_n 0, 1) := by decide +kernel
theorem d_Reader_bookLine_187 : decode b_Reader_bookLine 187 = .ok (.getfield 29, 3) := by decide +kernel
theorem d_Reader_bookLine_190 : decode b_Reader_bookLine 190 = .ok (.iconst 1, 1) := by decide +kernel
theorem d_Reader_bookLine_191 : decode b_Reader_bookLine 191 = .ok (.iadd, 1) := by decide +kernel
theorem d_Reader_bookLine_192 : decode b_Reader_bookLine 192 = .ok (.putfield 225, 3) := by decide +kernel
theorem d_Reader_bookLine_195 : decode b_Reader_bookLine 195 = .ok (.iconst 1, 1) := by decide +kernel
theorem d_Reader_bookLine_196 : decode b_Reader_bookLine 196 = .ok (.ireturn, 1) := by decide +kernel
noncomputable def f_Reader_bookLine_J167 (z : Nat → Nat) (o : Nat) (v1 : Int32) (m167 : Mm) : Option (Int32 × Mm) :=
  (f_Row_put z m167 (o + 33) (m167.1 o 2) v1).bind fun q179 =>
  mm_lt (kI q179 (o + 4) 7 ((q179.1 o 2) + (1 : Int32))) fun m192 =>
  some ((1 : Int32), m192)
noncomputable def f_Reader_bookLine_J157 (z : Nat → Nat) (o : Nat) (v1 : Int32) (t157_1 : Int32) (t157_2 : Int32) (m157 : Mm) : Option (Int32 × Mm) :=
  (f_Row_put z m157 (o + 37) t157_1 t157_2).bind fun q157 =>
  (f_Tokens_step z q157 (o + 1)).bind fun q164 =>
  f_Reader_bookLine_J167 z o v1 q164
noncomputable def f_Reader_bookLine_J104 (z : Nat → Nat) (o : Nat) (v1 : Int32) (m104 : Mm) : Option (Int32 × Mm) :=
  if v1 = (16 : Int32) then (
    f_Reader_bookLine_J167 z o v1 m104
  ) else (
    if v1 = (14 : Int32) then (
      f_Reader_bookLine_J167 z o v1 m104
    ) else (
      (f_Reader_isSecond z m104 o v1).bind fun q118 =>
      if q118.1 = 0 then (
        some ((0 : Int32), q118.2)
      ) else (
        if v1 = (8 : Int32) then (
          f_Reader_bookLine_J157 z o v1 (q118.2.1 o 2) (q118.2.1 (o + 1) 6) q118.2
        ) else (
          f_Reader_bookLine_J157 z o v1 (q118.2.1 o 2) (q118.2.1 o 5) q118.2
        )
      )
    )
  )
noncomputable def f_Reader_bookLine_J32 (z : Nat → Nat) (o : Nat) (v1 : Int32) (m32 : Mm) : Option (Int32 × Mm) :=
  if (m32.1 o 2) < (30 : Int32) then (
    (f_Tokens_step z m32 (o + 1)).bind fun q51 =>
    if v1 = (16 : Int32) then (
      f_Reader_bookLine_J104 z o v1 q51
    ) else (
      (f_Reader_isOneOf z q51 o (o + 8)).bind fun q71 =>
      if q71.1 = 0 then (
        some ((0 : Int32), q71.2)
      ) else (
        (f_Row_put z q71.2 (o + 35) (q71.2.1 o 2) (q71.2.1 o 5)).bind fun q94 =>
        (f_Tokens_step z q94 (o + 1)).bind fun q101 =>
        f_Reader_bookLine_J104 z o v1 q101
      )
    )
  ) else (
    (f_Reader_fail z m32 o (4 : Int32)).bind fun q43 =>
    (mm_zb q43.1).bind fun y46 =>
    some (y46, q43.2)
  )
noncomputable def f_Reader_bookLine_J26 (z : Nat → Nat) (o : Nat) (m26 : Mm) : Option (Int32 × Mm) :=
  (f_Reader_fail z m26 o (1 : Int32)).bind fun q28 =>
  (mm_zb q28.1).bind fun y31 =>
  some (y31, q28.2)
noncomputable def f_Reader_bookLine (z : Nat → Nat) (σ : Mm) (o : Nat) : Option (Int32 × Mm) :=
  mm_lt ((σ.1 (o + 1) 8)) fun x7 =>
  if x7 = (8 : Int32) then (
    f_Reader_bookLine_J32 z o x7 σ
  ) else (
    if x7 < (12 : Int32) then (
      f_Reader_bookLine_J26 z o σ
    ) else (
      if x7 ≤ (16 : Int32) then (
        f_Reader_bookLine_J32 z o x7 σ
      ) else (
        f_Reader_bookLine_J26 z o σ
      )
    )
  )
set_option maxHeartbeats 4000000 in
set_option maxRecDepth 100000 in
theorem c_Reader_bookLine (l : Launch) {L : Ly} (hg : gd_ok L) {σ : Mm} {o : Nat} (k_o_0 : ly_k L o = 9) {res : Int32 × Mm} (hf0 : f_Reader_bookLine (ly_z L) σ o = some res) : CtI l y_Reader_bookLine b_Reader_bookLine 2 (some .boolean) rm_Reader_bookLine L [.ref (ly_a L o)] σ res.1 res.2 := by
  refine ct_z hg (by decide) (Nat.le_of_ble_eq_true rfl) ?_
  intro E A Q hE C hN
  subst hE
  have k_o_4 : ly_k L (o + 4) = 4 := gd_Reader_draft hg k_o_0
  have k_o_33 : ly_k L (o + 33) = 0 := gd_State_bookWords hg k_o_4
  have k_o_37 : ly_k L (o + 37) = 0 := gd_State_bookSeconds hg k_o_4
  have k_o_1 : ly_k L (o + 1) = 8 := gd_Reader_tokens hg k_o_0
  have k_o_5 : ly_k L (o + 5) = 2 := gd_State_island hg k_o_4
  have k_o_8 : ly_k L (o + 8) = 1 := gd_Island_houses hg k_o_5
  have k_o_35 : ly_k L (o + 35) = 0 := gd_State_bookFirsts hg k_o_4
  unfold f_Reader_bookLine at hf0
  show GW E L A 2 0 0 Q σ 0 [(0, .ref (ly_a L o))] []
  have hj167 : ∀ (v1 : Int32) (m167 : Mm), f_Reader_bookLine_J167 (ly_z L) o v1 m167 = some res → GW E L A 2 0 0 Q m167 167 [(0, .ref (ly_a L o)), (1, .int v1)] [] := by
    intro v1 m167 hf0
    unfold f_Reader_bookLine_J167 at hf0
    refine gw_aload_n C 0 d_Reader_bookLine_167 rfl rfl ?_
    refine gw_getA C 1 d_Reader_bookLine_168 k_o_0 (by decide) i_Reader rfl rfl (by decide) qw_289 rfl rfl (o + 4) rfl ?_
    refine gw_getAN C 8 d_Reader_bookLine_171 k_o_4 (by decide) i_State rfl rfl (by decide) qw_256 rfl rfl (o + 33) rfl ?_
    refine gw_aload_n C 0 d_Reader_bookLine_174 rfl rfl ?_
    refine gw_getI C 2 d_Reader_bookLine_175 k_o_0 (by decide) i_Reader rfl rfl (by decide) qw_291 rfl rfl ?_
    refine gw_iload_n C 1 d_Reader_bookLine_178 rfl rfl ?_
    obtain ⟨q179, hq179, hf0⟩ := mx_bd hf0
    refine gw_callV C (c_Row_put _ hg k_o_33 hq179) d_Reader_bookLine_179 2 qw_592 qw_461 qw_462 qw_4 qw_463 k_o_33 (by decide) rfl hd_Row_put rfl rfl (Nat.le_of_ble_eq_true rfl) ⟨rfl, rfl, Nat.le_of_ble_eq_true rfl, Nat.le_of_ble_eq_true rfl⟩ ⟨Nat.zero_le _, Nat.zero_le _⟩ ?_
    refine gw_aload_n C 0 d_Reader_bookLine_182 rfl rfl ?_
    refine gw_getA C 1 d_Reader_bookLine_183 k_o_0 (by decide) i_Reader rfl rfl (by decide) qw_289 rfl rfl (o + 4) rfl ?_
    refine gw_aload_n C 0 d_Reader_bookLine_186 rfl rfl ?_
    refine gw_getI C 2 d_Reader_bookLine_187 k_o_0 (by decide) i_Reader rfl rfl (by decide) qw_291 rfl rfl ?_
    refine gw_iconst C (1 : Int32) d_Reader_bookLine_190 (by decide) ?_
    refine gw_iadd C d_Reader_bookLine_191 ?_
    obtain ⟨m192, em192, hf0⟩ := mx_lt hf0
    refine gw_putIN t_State C 7 d_Reader_bookLine_192 k_o_4 (by decide) i_State rfl rfl (by decide) qw_254 rfl rfl t_State_ok n_State rfl (t_State_ok 7 (by decide)) rfl rfl em192 ?_
    refine gw_iconst C (1 : Int32) d_Reader_bookLine_195 (by decide) ?_
    exact en_z hN (Or.inr rfl) hf0 d_Reader_bookLine_196
  have hj157 : ∀ (v1 : Int32) (t157_1 : Int32) (t157_2 : Int32) (m157 : Mm), f_Reader_bookLine_J157 (ly_z L) o v1 t157_1 t157_2 m157 = some res → GW E L A 2 0 0 Q m157 157 [(0, .ref (ly_a L o)), (1, .int v1)] [.int t157_2, .int t157_1, .ref (ly_a L (o + 37))] := by
    intro v1 t157_1 t157_2 m157 hf0
    unfold f_Reader_bookLine_J157 at hf0
    obtain ⟨q157, hq157, hf0⟩ := mx_bd hf0
    refine gw_callV C (c_Row_put _ hg k_o_37 hq157) d_Reader_bookLine_157 2 qw_592 qw_461 qw_462 qw_4 qw_463 k_o_37 (by decide) rfl hd_Row_put rfl rfl (Nat.le_of_ble_eq_true rfl) ⟨rfl, rfl, Nat.le_of_ble_eq_true rfl, Nat.le_of_ble_eq_true rfl⟩ ⟨Nat.zero_le _, Nat.zero_le _⟩ ?_
    refine gw_aload_n C 0 d_Reader_bookLine_160 rfl rfl ?_
    refine gw_getA C 0 d_Reader_bookLine_161 k_o_0 (by decide) i_Reader rfl rfl (by decide) qw_287 rfl rfl (o + 1) rfl ?_
    obtain ⟨q164, hq164, hf0⟩ := mx_bd hf0
    refine gw_callV C (c_Tokens_step _ hg k_o_1 hq164) d_Reader_bookLine_164 0 qw_481 qw_482 qw_483 qw_3 qw_484 k_o_1 (by decide) rfl hd_Tokens_step rfl rfl (Nat.le_of_ble_eq_true rfl) ⟨rfl, rfl, Nat.le_of_ble_eq_true rfl, Nat.le_of_ble_eq_true rfl⟩ ⟨Nat.zero_le _, Nat.zero_le _⟩ ?_
    exact gw_go [0, 1] (hj167 _ _ hf0) rfl
  have hj104 : ∀ (v1 : Int32) (m104 : Mm), f_Reader_bookLine_J104 (ly_z L) o v1 m104 = some res → GW E L A 2 0 0 Q m104 104 [(0, .ref (ly_a L o)), (1, .int v1)] [] := by
    intro v1 m104 hf0
    unfold f_Reader_bookLine_J104 at hf0
    refine gw_iload_n C 1 d_Reader_bookLine_104 rfl rfl ?_
    refine gw_bipush C (16 : Int32) d_Reader_bookLine_105 (by decide) ?_
    refine gw_icmp_eq C 167 d_Reader_bookLine_107 (by decide) (fun hc => ?_) (fun hc => ?_)
    · replace hf0 := mx_t hc hf0
      exact gw_go [0, 1] (hj167 _ _ hf0) rfl
    · replace hf0 := mx_f hc hf0
      refine gw_iload_n C 1 d_Reader_bookLine_110 rfl rfl ?_
      refine gw_bipush C (14 : Int32) d_Reader_bookLine_111 (by decide) ?_
      refine gw_icmp_eq C 167 d_Reader_bookLine_113 (by decide) (fun hc => ?_) (fun hc => ?_)
      · replace hf0 := mx_t hc hf0
        exact gw_go [0, 1] (hj167 _ _ hf0) rfl
      · replace hf0 := mx_f hc hf0
        refine gw_aload_n C 0 d_Reader_bookLine_116 rfl rfl ?_
        refine gw_iload_n C 1 d_Reader_bookLine_117 rfl rfl ?_
        obtain ⟨q118, hq118, hf0⟩ := mx_bd hf0
        refine gw_callI C (c_Reader_isSecond _ hg k_o_0 hq118) d_Reader_bookLine_118 1 qw_657 qw_659 qs_17 qw_2 qw_660 k_o_0 (by decide) rfl hd_Reader_isSecond rfl rfl (Nat.le_of_ble_eq_true rfl) ⟨rfl, rfl, Nat.le_of_ble_eq_true rfl, Nat.le_of_ble_eq_true rfl⟩ ⟨Nat.zero_le _, Nat.zero_le _⟩ ?_
        refine gw_if_ne C 126 d_Reader_bookLine_121 (by decide) (fun hc => ?_) (fun hc => ?_)
        · replace hf0 := mx_f hc hf0
          refine gw_aload_n C 0 d_Reader_bookLine_126 rfl rfl ?_
          refine gw_getA C 1 d_Reader_bookLine_127 k_o_0 (by decide) i_Reader rfl rfl (by decide) qw_289 rfl rfl (o + 4) rfl ?_
          refine gw_getAN C 10 d_Reader_bookLine_130 k_o_4 (by decide) i_State rfl rfl (by decide) qw_262 rfl rfl (o + 37) rfl ?_
          refine gw_aload_n C 0 d_Reader_bookLine_133 rfl rfl ?_
          refine gw_getI C 2 d_Reader_bookLine_134 k_o_0 (by decide) i_Reader rfl rfl (by decide) qw_291 rfl rfl ?_
          refine gw_iload_n C 1 d_Reader_bookLine_137 rfl rfl ?_
          refine gw_bipush C (8 : Int32) d_Reader_bookLine_138 (by decide) ?_
          refine gw_icmp_ne C 153 d_Reader_bookLine_140 (by decide) (fun hc => ?_) (fun hc => ?_)
          · replace hf0 := mx_f hc hf0
            refine gw_aload_n C 0 d_Reader_bookLine_153 rfl rfl ?_
            refine gw_getI C 5 d_Reader_bookLine_154 k_o_0 (by decide) i_Reader rfl rfl (by decide) qw_297 rfl rfl ?_
            exact gw_go [0, 1] (hj157 _ _ _ _ hf0) rfl
          · replace hf0 := mx_t hc hf0
            refine gw_aload_n C 0 d_Reader_bookLine_143 rfl rfl ?_
            refine gw_getA C 0 d_Reader_bookLine_144 k_o_0 (by decide) i_Reader rfl rfl (by decide) qw_287 rfl rfl (o + 1) rfl ?_
            refine gw_getIN C 6 d_Reader_bookLine_147 k_o_1 (by decide) i_Tokens rfl rfl (by decide) qw_65 rfl rfl ?_
            refine gw_goto C 157 d_Reader_bookLine_150 (by decide) ?_
            exact gw_go [0, 1] (hj157 _ _ _ _ hf0) rfl
        · replace hf0 := mx_t hc hf0
          refine gw_iconst C (0 : Int32) d_Reader_bookLine_124 (by decide) ?_
          exact en_z hN (Or.inl rfl) hf0 d_Reader_bookLine_125
  have hj32 : ∀ (v1 : Int32) (m32 : Mm), f_Reader_bookLine_J32 (ly_z L) o v1 m32 = some res → GW E L A 2 0 0 Q m32 32 [(0, .ref (ly_a L o)), (1, .int v1)] [] := by
    intro v1 m32 hf0
    unfold f_Reader_bookLine_J32 at hf0
    refine gw_aload_n C 0 d_Reader_bookLine_32 rfl rfl ?_
    refine gw_getI C 2 d_Reader_bookLine_33 k_o_0 (by decide) i_Reader rfl rfl (by decide) qw_291 rfl rfl ?_
    refine gw_bipush C (30 : Int32) d_Reader_bookLine_36 (by decide) ?_
    refine gw_icmp_lt C 47 d_Reader_bookLine_38 (by decide) (fun hc => ?_) (fun hc => ?_)
    · replace hf0 := mx_t hc hf0
      refine gw_aload_n C 0 d_Reader_bookLine_47 rfl rfl ?_
      refine gw_getA C 0 d_Reader_bookLine_48 k_o_0 (by decide) i_Reader rfl rfl (by decide) qw_287 rfl rfl (o + 1) rfl ?_
      obtain ⟨q51, hq51, hf0⟩ := mx_bd hf0
      refine gw_callV C (c_Tokens_step _ hg k_o_1 hq51) d_Reader_bookLine_51 0 qw_481 qw_482 qw_483 qw_3 qw_484 k_o_1 (by decide) rfl hd_Tokens_step rfl rfl (Nat.le_of_ble_eq_true rfl) ⟨rfl, rfl, Nat.le_of_ble_eq_true rfl, Nat.le_of_ble_eq_true rfl⟩ ⟨Nat.zero_le _, Nat.zero_le _⟩ ?_
      refine gw_iload_n C 1 d_Reader_bookLine_54 rfl rfl ?_
      refine gw_bipush C (16 : Int32) d_Reader_bookLine_55 (by decide) ?_
      refine gw_icmp_eq C 104 d_Reader_bookLine_57 (by decide) (fun hc => ?_) (fun hc => ?_)
      · replace hf0 := mx_t hc hf0
        exact gw_go [0, 1] (hj104 _ _ hf0) rfl
      · replace hf0 := mx_f hc hf0
        refine gw_aload_n C 0 d_Reader_bookLine_60 rfl rfl ?_
        refine gw_aload_n C 0 d_Reader_bookLine_61 rfl rfl ?_
        refine gw_getA C 1 d_Reader_bookLine_62 k_o_0 (by decide) i_Reader rfl rfl (by decide) qw_289 rfl rfl (o + 4) rfl ?_
        refine gw_getAN C 0 d_Reader_bookLine_65 k_o_4 (by decide) i_State rfl rfl (by decide) qw_236 rfl rfl (o + 5) rfl ?_
        refine gw_getAN C 1 d_Reader_bookLine_68 k_o_5 (by decide) i_Island rfl rfl (by decide) qw_135 rfl rfl (o + 8) rfl ?_
        obtain ⟨q71, hq71, hf0⟩ := mx_bd hf0
        refine gw_callI C (c_Reader_isOneOf _ hg k_o_0 k_o_8 hq71) d_Reader_bookLine_71 1 qw_601 qw_603 qs_9 qw_2 qw_604 k_o_0 (by decide) rfl hd_Reader_isOneOf rfl rfl (Nat.le_of_ble_eq_true rfl) ⟨rfl, rfl, Nat.le_of_ble_eq_true rfl, Nat.le_of_ble_eq_true rfl⟩ ⟨Nat.zero_le _, Nat.zero_le _⟩ ?_
        refine gw_if_ne C 79 d_Reader_bookLine_74 (by decide) (fun hc => ?_) (fun hc => ?_)
        · replace hf0 := mx_f hc hf0
          refine gw_aload_n C 0 d_Reader_bookLine_79 rfl rfl ?_
          refine gw_getA C 1 d_Reader_bookLine_80 k_o_0 (by decide) i_Reader rfl rfl (by decide) qw_289 rfl rfl (o + 4) rfl ?_
          refine gw_getAN C 9 d_Reader_bookLine_83 k_o_4 (by decide) i_State rfl rfl (by decide) qw_259 rfl rfl (o + 35) rfl ?_
          refine gw_aload_n C 0 d_Reader_bookLine_86 rfl rfl ?_
          refine gw_getI C 2 d_Reader_bookLine_87 k_o_0 (by decide) i_Reader rfl rfl (by decide) qw_291 rfl rfl ?_
          refine gw_aload_n C 0 d_Reader_bookLine_90 rfl rfl ?_
          refine gw_getI C 5 d_Reader_bookLine_91 k_o_0 (by decide) i_Reader rfl rfl (by decide) qw_297 rfl rfl ?_
          obtain ⟨q94, hq94, hf0⟩ := mx_bd hf0
          refine gw_callV C (c_Row_put _ hg k_o_35 hq94) d_Reader_bookLine_94 2 qw_592 qw_461 qw_462 qw_4 qw_463 k_o_35 (by decide) rfl hd_Row_put rfl rfl (Nat.le_of_ble_eq_true rfl) ⟨rfl, rfl, Nat.le_of_ble_eq_true rfl, Nat.le_of_ble_eq_true rfl⟩ ⟨Nat.zero_le _, Nat.zero_le _⟩ ?_
          refine gw_aload_n C 0 d_Reader_bookLine_97 rfl rfl ?_
          refine gw_getA C 0 d_Reader_bookLine_98 k_o_0 (by decide) i_Reader rfl rfl (by decide) qw_287 rfl rfl (o + 1) rfl ?_
          obtain ⟨q101, hq101, hf0⟩ := mx_bd hf0
          refine gw_callV C (c_Tokens_step _ hg k_o_1 hq101) d_Reader_bookLine_101 0 qw_481 qw_482 qw_483 qw_3 qw_484 k_o_1 (by decide) rfl hd_Tokens_step rfl rfl (Nat.le_of_ble_eq_true rfl) ⟨rfl, rfl, Nat.le_of_ble_eq_true rfl, Nat.le_of_ble_eq_true rfl⟩ ⟨Nat.zero_le _, Nat.zero_le _⟩ ?_
          exact gw_go [0, 1] (hj104 _ _ hf0) rfl
        · replace hf0 := mx_t hc hf0
          refine gw_iconst C (0 : Int32) d_Reader_bookLine_77 (by decide) ?_
          exact en_z hN (Or.inl rfl) hf0 d_Reader_bookLine_78
    · replace hf0 := mx_f hc hf0
      refine gw_aload_n C 0 d_Reader_bookLine_41 rfl rfl ?_
      refine gw_iconst C (4 : Int32) d_Reader_bookLine_42 (by decide) ?_
      obtain ⟨q43, hq43, hf0⟩ := mx_bd hf0
      refine gw_callI C (c_Reader_fail _ hg k_o_0 hq43) d_Reader_bookLine_43 1 qw_568 qw_570 qs_4 qw_2 qw_571 k_o_0 (by decide) rfl hd_Reader_fail rfl rfl (Nat.le_of_ble_eq_true rfl) ⟨rfl, rfl, Nat.le_of_ble_eq_true rfl, Nat.le_of_ble_eq_true rfl⟩ ⟨Nat.zero_le _, Nat.zero_le _⟩ ?_
      obtain ⟨y46, hy46, hf0⟩ := mx_bd hf0
      obtain ⟨zy46, ey46⟩ := mx_zb hy46
      refine gw_topi ey46 ?_
      exact en_z hN zy46 hf0 d_Reader_bookLine_46
  have hj26 : ∀ (m26 : Mm), f_Reader_bookLine_J26 (ly_z L) o m26 = some res → GW E L A 2 0 0 Q m26 26 [(0, .ref (ly_a L o))] [] := by
    intro m26 hf0
    unfold f_Reader_bookLine_J26 at hf0
    refine gw_aload_n C 0 d_Reader_bookLine_26 rfl rfl ?_
    refine gw_iconst C (1 : Int32) d_Reader_bookLine_27 (by decide) ?_
    obtain ⟨q28, hq28, hf0⟩ := mx_bd hf0
    refine gw_callI C (c_Reader_fail _ hg k_o_0 hq28) d_Reader_bookLine_28 1 qw_568 qw_570 qs_4 qw_2 qw_571 k_o_0 (by decide) rfl hd_Reader_fail rfl rfl (Nat.le_of_ble_eq_true rfl) ⟨rfl, rfl, Nat.le_of_ble_eq_true rfl, Nat.le_of_ble_eq_true rfl⟩ ⟨Nat.zero_le _, Nat.zero_le _⟩ ?_
    obtain ⟨y31, hy31, hf0⟩ := mx_bd hf0
    obtain ⟨zy31, ey31⟩ := mx_zb hy31
    refine gw_topi ey31 ?_
    exact en_z hN zy31 hf0 d_Reader_bookLine_31
  refine gw_aload_n C 0 d_Reader_bookLine_0 rfl rfl ?_
  refine gw_getA C 0 d_Reader_bookLine_1 k_o_0 (by decide) i_Reader rfl rfl (by decide) qw_287 rfl rfl (o + 1) rfl ?_
  refine gw_getIN C 8 d_Reader_bookLine_4 k_o_1 (by decide) i_Tokens rfl rfl (by decide) qw_69 rfl rfl ?_
  obtain ⟨x7, ex7, hf0⟩ := mx_lt hf0
  refine gw_topi ex7 ?_
  refine gw_istore_n C [(1, .int x7), (0, .ref (ly_a L o))] d_Reader_bookLine_7 rfl (by decide) rfl ?_
  refine gw_iload_n C 0 d_Reader_bookLine_8 rfl rfl ?_
  refine gw_bipush C (8 : Int32) d_Reader_bookLine_9 (by decide) ?_
  refine gw_icmp_eq C 32 d_Reader_bookLine_11 (by decide) (fun hc => ?_) (fun hc => ?_)
  · replace hf0 := mx_t hc hf0
    exact gw_go [1, 0] (hj32 _ _ hf0) rfl
  · replace hf0 := mx_f hc hf0
    refine gw_iload_n C 0 d_Reader_bookLine_14 rfl rfl ?_
    refine gw_bipush C (12 : Int32) d_Reader_bookLine_15 (by decide) ?_
    refine gw_icmp_lt C 26 d_Reader_bookLine_17 (by decide) (fun hc => ?_) (fun hc => ?_)
    · replace hf0 := mx_t hc hf0
      exact gw_go [1] (hj26 _ hf0) rfl
    · replace hf0 := mx_f hc hf0
      refine gw_iload_n C 0 d_Reader_bookLine_20 rfl rfl ?_
      refine gw_bipush C (16 : Int32) d_Reader_bookLine_21 (by decide) ?_
      refine gw_icmp_le C 32 d_Reader_bookLine_23 (by decide) (fun hc => ?_) (fun hc => ?_)
      · replace hf0 := mx_t hc hf0
        exact gw_go [1, 0] (hj32 _ _ hf0) rfl
      · replace hf0 := mx_f hc hf0
        exact gw_go [1] (hj26 _ hf0) rfl

/-! NameHat.Reader.isSemicolon()Z -/
abbrev b_Reader_isSemicolon : ByteArray := prog_6_method_4_code
def y_Reader_isSemicolon : MethodName := ⟨"NameHat$Reader", "isSemicolon", "()Z"⟩
abbrev rm_Reader_isSemicolon : Room := { frames := 1, cells := 0, slots := 0, locals := 21 }
theorem hd_Reader_isSemicolon : y_Reader_isSemicolon.cls ≠ "java/lang/invoke/MethodHandle" ∧ y_Reader_isSemicolon.cls ≠ "java/lang/invoke/VarHandle" ∧ (parseMethodDescriptor y_Reader_isSemicolon.desc).map (fun d => d.parameters.length) = some 0 := by decide +kernel
theorem d_Reader_isSemicolon_0 : decode b_Reader_isSemicolon 0 = .ok (.aload_n 0, 1) := by decide +kernel
theorem d_Reader_isSemicolon_1 : decode b_Reader_isSemicolon 1 = .ok (.getfield 12, 3) := by decide +kernel
theorem d_Reader_isSemicolon_4 : decode b_Reader_isSemicolon 4 = .ok (.getfield 49, 3) := by decide +kernel
theorem d_Reader_isSemicolon_7 : decode b_Reader_isSemicolon 7 = .ok (.iconst 3, 1) := by decide +kernel
theorem d_Reader_isSemicolon_8 : decode b_Reader_isSemicolon 8 = .ok (.if_icmp .eq 11, 3) := by decide +kernel
theorem d_Reader_isSemicolon_11 : decode b_Reader_isSemicolon 11 = .ok (.aload_n 0, 1) := by decide +kernel
theorem d_Reader_isSemicolon_12 : decode b_Reader_isSemicolon 12 = .ok (.iconst 1, 1) := by decide +kernel
theorem d_Reader_isSemicolon_13 : decode b_Reader_isSemicolon 13 = .ok (.invokevirtual 71, 3) := by decide +kernel
theorem d_Reader_isSemicolon_16 : decode b_Reader_isSemicolon 16 = .ok (.ifCond .eq 7, 3) := by decide +kernel
theorem d_Reader_isSemicolon_19 : decode b_Reader_isSemicolon 19 = .ok (.iconst 1, 1) := by decide +kernel
theorem d_Reader_isSemicolon_20 : decode b_Reader_isSemicolon 20 = .ok (.goto 4, 3) := by decide +kernel
theorem d_Reader_isSemicolon_23 : decode b_Reader_isSemicolon 23 = .ok (.iconst 0, 1) := by decide +kernel
theorem d_Reader_isSemicolon_24 : decode b_Reader_isSemicolon 24 = .ok (.ireturn, 1) := by decide +kernel
noncomputable def f_Reader_isSemicolon (z : Nat → Nat) (σ : Mm) (o : Nat) : Option (Int32 × Mm) :=
  if (σ.1 (o + 1) 4) = (3 : Int32) then (
    some ((1 : Int32), σ)
  ) else (
    (f_Reader_fail z σ o (1 : Int32)).bind fun q13 =>
    if q13.1 = 0 then (
      some ((0 : Int32), q13.2)
    ) else (
      some ((1 : Int32), q13.2)
    )
  )
set_option maxHeartbeats 4000000 in
set_option maxRecDepth 100000 in
theorem c_Reader_isSemicolon (l : Launch) {L : Ly} (hg : gd_ok L) {σ : Mm} {o : Nat} (k_o_0 : ly_k L o = 9) {res : Int32 × Mm} (hf0 : f_Reader_isSemicolon (ly_z L) σ o = some res) : CtI l y_Reader_isSemicolon b_Reader_isSemicolon 1 (some .boolean) rm_Reader_isSemicolon L [.ref (ly_a L o)] σ res.1 res.2 := by
  refine ct_z hg (by decide) (Nat.le_of_ble_eq_true rfl) ?_
  intro E A Q hE C hN
  subst hE
  have k_o_1 : ly_k L (o + 1) = 8 := gd_Reader_tokens hg k_o_0
  unfold f_Reader_isSemicolon at hf0
  show GW E L A 1 0 0 Q σ 0 [(0, .ref (ly_a L o))] []
  refine gw_aload_n C 0 d_Reader_isSemicolon_0 rfl rfl ?_
  refine gw_getA C 0 d_Reader_isSemicolon_1 k_o_0 (by decide) i_Reader rfl rfl (by decide) qw_287 rfl rfl (o + 1) rfl ?_
  refine gw_getIN C 4 d_Reader_isSemicolon_4 k_o_1 (by decide) i_Tokens rfl rfl (by decide) qw_60 rfl rfl ?_
  refine gw_iconst C (3 : Int32) d_Reader_isSemicolon_7 (by decide) ?_
  refine gw_icmp_eq C 19 d_Reader_isSemicolon_8 (by decide) (fun hc => ?_) (fun hc => ?_)
  · replace hf0 := mx_t hc hf0
    refine gw_iconst C (1 : Int32) d_Reader_isSemicolon_19 (by decide) ?_
    refine gw_goto C 24 d_Reader_isSemicolon_20 (by decide) ?_
    exact en_z hN (Or.inr rfl) hf0 d_Reader_isSemicolon_24
  · replace hf0 := mx_f hc hf0
    refine gw_aload_n C 0 d_Reader_isSemicolon_11 rfl rfl ?_
    refine gw_iconst C (1 : Int32) d_Reader_isSemicolon_12 (by decide) ?_
    obtain ⟨q13, hq13, hf0⟩ := mx_bd hf0
    refine gw_callI C (c_Reader_fail _ hg k_o_0 hq13) d_Reader_isSemicolon_13 1 qw_568 qw_570 qs_4 qw_2 qw_571 k_o_0 (by decide) rfl hd_Reader_fail rfl rfl (Nat.le_of_ble_eq_true rfl) ⟨rfl, rfl, Nat.le_of_ble_eq_true rfl, Nat.le_of_ble_eq_true rfl⟩ ⟨Nat.zero_le _, Nat.zero_le _⟩ ?_
    refine gw_if_eq C 23 d_Reader_isSemicolon_16 (by decide) (fun hc => ?_) (fun hc => ?_)
    · replace hf0 := mx_t hc hf0
      refine gw_iconst C (0 : Int32) d_Reader_isSemicolon_23 (by decide) ?_
      exact en_z hN (Or.inl rfl) hf0 d_Reader_isSemicolon_24
    · replace hf0 := mx_f hc hf0
      refine gw_iconst C (1 : Int32) d_Reader_isSemicolon_19 (by decide) ?_
      refine gw_goto C 24 d_Reader_isSemicolon_20 (by decide) ?_
      exact en_z hN (Or.inr rfl) hf0 d_Reader_isSemicolon_24

/-! NameHat.Reader.readText(III)V -/
abbrev b_Reader_readText : ByteArray := prog_6_method_2_code
def y_Reader_readText : MethodName := ⟨"NameHat$Reader", "readText", "(III)V"⟩
abbrev rm_Reader_readText : Room := { frames := 15, cells := 0, slots := 0, locals := 510 }
theorem hd_Reader_readText : y_Reader_readText.cls ≠ "java/lang/invoke/MethodHandle" ∧ y_Reader_readText.cls ≠ "java/lang/invoke/VarHandle" ∧ (parseMethodDescriptor y_Reader_readText.desc).map (fun d => d.parameters.length) = some 3 := by decide +kernel
theorem d_Reader_readText_0 : decode b_Reader_readText 0 = .ok (.aload_n 0, 1) := by decide +kernel
theorem d_Reader_readText_1 : decode b_Reader_readText 1 = .ok (.getfield 12, 3) := by decide +kernel
theorem d_Reader_readText_4 : decode b_Reader_readText 4 = .ok (.iload_n 2, 1) := by decide +kernel
theorem d_Reader_readText_5 : decode b_Reader_readText 5 = .ok (.iload_n 3, 1) := by decide +kernel
theorem d_Reader_readText_6 : decode b_Reader_readText 6 = .ok (.invokevirtual 25, 3) := by decide +kernel
theorem d_Reader_readText_9 : decode b_Reader_readText 9 = .ok (.aload_n 0, 1) := by decide +kernel
theorem d_Reader_readText_10 : decode b_Reader_readText 10 = .ok (.iconst 0, 1) := by decide +kernel
theorem d_Reader_readText_11 : decode b_Reader_readText 11 = .ok (.putfield 29, 3) := by decide +kernel
theorem d_Reader_readText_14 : decode b_Reader_readText 14 = .ok (.aload_n 0, 1) := by decide +kernel
theorem d_Reader_readText_15 : decode b_Reader_readText 15 = .ok (.iconst 0, 1) := by decide +kernel
theorem d_Reader_readText_16 : decode b_Reader_readText 16 = .ok (.putfield 33, 3) := by decide +kernel
theorem d_Reader_readText_19 : decode b_Reader_readText 19 = .ok (.aload_n 0, 1) := by decide +kernel
theorem d_Reader_readText_20 : decode b_Reader_readText 20 = .ok (.iconst 0, 1) := by decide +kernel
theorem d_Reader_readText_21 : decode b_Reader_readText 21 = .ok (.putfield 36, 3) := by decide +kernel
theorem d_Reader_readText_24 : decode b_Reader_readText 24 = .ok (.aload_n 0, 1) := by decide +kernel
theorem d_Reader_readText_25 : decode b_Reader_readText 25 = .ok (.iconst 0, 1) := by decide +kernel
theorem d_Reader_readText_26 : decode b_Reader_readText 26 = .ok (.putfield 40, 3) := by decide +kernel
theorem d_Reader_readText_29 : decode b_Reader_readText 29 = .ok (.aload_n 0, 1) := by decide +kernel
theorem d_Reader_readText_30 : decode b_Reader_readText 30 = .ok (.iconst 0, 1) := by decide +kernel
theorem d_Reader_readText_31 : decode b_Reader_readText 31 = .ok (.putfield 43, 3) := by decide +kernel
theorem d_Reader_readText_34 : decode b_Reader_readText 34 = .ok (.iconst 0, 1) := by decide +kernel
theorem d_Reader_readText_35 : decode b_Reader_readText 35 = .ok (.istore 4, 2) := by decide +kernel
theorem d_Reader_readText_37 : decode b_Reader_readText 37 = .ok (.iload 4, 2) := by decide +kernel
theorem d_Reader_readText_39 : decode b_Reader_readText 39 = .ok (.sipush 940, 3) := by decide +kernel
theorem d_Reader_readText_42 : decode b_Reader_readText 42 = .ok (.if_icmp .gt 79, 3) := by decide +kernel
theorem d_Reader_readText_45 : decode b_Reader_readText 45 = .ok (.aload_n 0, 1) := by decide +kernel
theorem d_Reader_readText_46 : decode b_Reader_readText 46 = .ok (.getfield 12, 3) := by decide +kernel
theorem d_Reader_readText_49 : decode b_Reader_readText 49 = .ok (.invokevirtual 46, 3) := by decide +kernel
theorem d_Reader_readText_52 : decode b_Reader_readText 52 = .ok (.aload_n 0, 1) := by decide +kernel
theorem d_Reader_readText_53 : decode b_Reader_readText 53 = .ok (.getfield 12, 3) := by decide +kernel
theorem d_Reader_readText_56 : decode b_Reader_readText 56 = .ok (.getfield 49, 3) := by decide +kernel
theorem d_Reader_readText_59 : decode b_Reader_readText 59 = .ok (.ifCond .ne 4, 3) := by decide +kernel
theorem d_Reader_readText_62 : decode b_Reader_readText 62 = .ok (.return_, 1) := by decide +kernel
theorem d_Reader_readText_63 : decode b_Reader_readText 63 = .ok (.iload_n 1, 1) := by decide +kernel
theorem d_Reader_readText_64 : decode b_Reader_readText 64 = .ok (.ifCond .ne 10, 3) := by decide +kernel
theorem d_Reader_readText_67 : decode b_Reader_readText 67 = .ok (.aload_n 0, 1) := by decide +kernel
theorem d_Reader_readText_68 : decode b_Reader_readText 68 = .ok (.invokevirtual 52, 3) := by decide +kernel
theorem d_Reader_readText_71 : decode b_Reader_readText 71 = .ok (.goto 19, 3) := by decide +kernel
theorem d_Reader_readText_74 : decode b_Reader_readText 74 = .ok (.iload_n 1, 1) := by decide +kernel
theorem d_Reader_readText_75 : decode b_Reader_readText 75 = .ok (.iconst 1, 1) := by decide +kernel
theorem d_Reader_readText_76 : decode b_Reader_readText 76 = .ok (.if_icmp .ne 10, 3) := by decide +kernel
theorem d_Reader_readText_79 : decode b_Reader_readText 79 = .ok (.aload_n 0, 1) := by decide +kernel
theorem d_Reader_readText_80 : decode b_Reader_readText 80 = .ok (.invokevirtual 56, 3) := by decide +kernel
theorem d_Reader_readText_83 : decode b_Reader_readText 83 = .ok (.goto 7, 3) := by decide +kernel
theorem d_Reader_readText_86 : decode b_Reader_readText 86 = .ok (.aload_n 0, 1) := by decide +kernel
theorem d_Reader_readText_87 : decode b_Reader_readText 87 = .ok (.invokevirtual 59, 3) := by decide +kernel
theorem d_Reader_readText_90 : decode b_Reader_readText 90 = .ok (.istore 5, 2) := by decide +kernel
theorem d_Reader_readText_92 : decode b_Reader_readText 92 = .ok (.iload 5, 2) := by decide +kernel
theorem d_Reader_readText_94 : decode b_Reader_readText 94 = .ok (.ifCond .eq 10, 3) := by decide +kernel
theorem d_Reader_readText_97 : decode b_Reader_readText 97 = .ok (.aload_n 0, 1) := by decide +kernel
theorem d_Reader_readText_98 : decode b_Reader_readText 98 = .ok (.invokevirtual 62, 3) := by decide +kernel
theorem d_Reader_readText_101 : decode b_Reader_readText 101 = .ok (.ifCond .ne 4, 3) := by decide +kernel
theorem d_Reader_readText_104 : decode b_Reader_readText 104 = .ok (.return_, 1) := by decide +kernel
theorem d_Reader_readText_105 : decode b_Reader_readText 105 = .ok (.aload_n 0, 1) := by decide +kernel
theorem d_Reader_readText_106 : decode b_Reader_readText 106 = .ok (.dup, 1) := by decide +kernel
theorem d_Reader_readText_107 : decode b_Reader_readText 107 = .ok (.getfield 29, 3) := by decide +kernel
theorem d_Reader_readText_110 : decode b_Reader_readText 110 = .ok (.iconst 1, 1) := by decide +kernel
theorem d_Reader_readText_111 : decode b_Reader_readText 111 = .ok (.iadd, 1) := by decide +kernel
theorem d_Reader_readText_112 : decode b_Reader_readText 112 = .ok (.putfield 29, 3) := by decide +kernel
theorem d_Reader_readText_115 : decode b_Reader_readText 115 = .ok (.iinc 4 1, 3) := by decide +kernel
theorem d_Reader_readText_118 : decode b_Reader_readText 118 = .ok (.goto (-81), 3) := by decide +kernel
theorem d_Reader_readText_121 : decode b_Reader_readText 121 = .ok (.return_, 1) := by decide +kernel
noncomputable def f_Reader_readText_J90 (z : Nat → Nat) (o : Nat) (v1 : Int32) (v4 : Int32) (t90_0 : Int32) (m90 : Mm) : Option ((Int32 × Mm) ⊕ ((Mm) ⊕ (Mm))) :=
  if t90_0 = 0 then (
    some (.inr (.inl m90))
  ) else (
    (f_Reader_isSemicolon z m90 o).bind fun q98 =>
    if q98.1 = 0 then (
      some (.inr (.inl q98.2))
    ) else (
      mm_lt (kI q98.2 o 2 ((q98.2.1 o 2) + (1 : Int32))) fun m112 =>
      mm_lt (v4 + (1 : Int32)) fun x115 =>
      some (.inl (x115, m112))
    )
  )
noncomputable def f_Reader_readText_L37 (z : Nat → Nat) (o : Nat) (v1 : Int32) (s37 : Int32 × Mm) : Option ((Int32 × Mm) ⊕ ((Mm) ⊕ (Mm))) :=
  if (940 : Int32) < s37.1 then (
    some (.inr (.inr s37.2))
  ) else (
    (f_Tokens_step z s37.2 (o + 1)).bind fun q49 =>
    if (q49.1 (o + 1) 4) = 0 then (
      some (.inr (.inl q49))
    ) else (
      if v1 = 0 then (
        (f_Reader_islandLine z q49 o).bind fun q68 =>
        f_Reader_readText_J90 z o v1 s37.1 q68.1 q68.2
      ) else (
        if v1 = (1 : Int32) then (
          (f_Reader_rollLine z q49 o).bind fun q80 =>
          f_Reader_readText_J90 z o v1 s37.1 q80.1 q80.2
        ) else (
          (f_Reader_bookLine z q49 o).bind fun q87 =>
          f_Reader_readText_J90 z o v1 s37.1 q87.1 q87.2
        )
      )
    )
  )
noncomputable def f_Reader_readText (z : Nat → Nat) (σ : Mm) (o : Nat) (p1 : Int32) (p2 : Int32) (p3 : Int32) : Option (Mm) :=
  (f_Tokens_start z σ (o + 1) p2 p3).bind fun q6 =>
  mm_lt (kI q6 o 2 (0 : Int32)) fun m11 =>
  mm_lt (kI m11 o 3 (0 : Int32)) fun m16 =>
  mm_lt (kI m16 o 6 (0 : Int32)) fun m21 =>
  mm_lt (kI m21 o 7 (0 : Int32)) fun m26 =>
  mm_lt (kI m26 o 8 (0 : Int32)) fun m31 =>
  (mm_lp (f_Reader_readText_L37 z o p1) ((0 : Int32), m31)).bind (Sum.elim (fun r9 => some r9) (fun x37_ =>
    some x37_))
set_option maxHeartbeats 4000000 in
set_option maxRecDepth 100000 in
theorem c_Reader_readText (l : Launch) {L : Ly} (hg : gd_ok L) {σ : Mm} {o : Nat} {p1 : Int32} {p2 : Int32} {p3 : Int32} (k_o_0 : ly_k L o = 9) {res : Mm} (hf0 : f_Reader_readText (ly_z L) σ o p1 p2 p3 = some res) : CtV l y_Reader_readText b_Reader_readText 6 (none) rm_Reader_readText L [.ref (ly_a L o), .int p1, .int p2, .int p3] σ res := by
  refine ct_v hg (by decide) (Nat.le_of_ble_eq_true rfl) ?_
  intro E A Q hE C hN
  subst hE
  have k_o_1 : ly_k L (o + 1) = 8 := gd_Reader_tokens hg k_o_0
  unfold f_Reader_readText at hf0
  show GW E L A 6 0 0 Q σ 0 [(0, .ref (ly_a L o)), (1, .int p1), (2, .int p2), (3, .int p3)] []
  refine gw_aload_n C 0 d_Reader_readText_0 rfl rfl ?_
  refine gw_getA C 0 d_Reader_readText_1 k_o_0 (by decide) i_Reader rfl rfl (by decide) qw_287 rfl rfl (o + 1) rfl ?_
  refine gw_iload_n C 2 d_Reader_readText_4 rfl rfl ?_
  refine gw_iload_n C 3 d_Reader_readText_5 rfl rfl ?_
  obtain ⟨q6, hq6, hf0⟩ := mx_bd hf0
  refine gw_callV C (c_Tokens_start _ hg k_o_1 hq6) d_Reader_readText_6 2 qw_477 qw_478 qw_479 qw_3 qw_480 k_o_1 (by decide) rfl hd_Tokens_start rfl rfl (Nat.le_of_ble_eq_true rfl) ⟨rfl, rfl, Nat.le_of_ble_eq_true rfl, Nat.le_of_ble_eq_true rfl⟩ ⟨Nat.zero_le _, Nat.zero_le _⟩ ?_
  refine gw_aload_n C 0 d_Reader_readText_9 rfl rfl ?_
  refine gw_iconst C (0 : Int32) d_Reader_readText_10 (by decide) ?_
  obtain ⟨m11, em11, hf0⟩ := mx_lt hf0
  refine gw_putI t_Reader C 2 d_Reader_readText_11 k_o_0 (by decide) i_Reader rfl rfl (by decide) qw_291 rfl rfl t_Reader_ok n_Reader rfl (t_Reader_ok 2 (by decide)) rfl rfl em11 ?_
  refine gw_aload_n C 0 d_Reader_readText_14 rfl rfl ?_
  refine gw_iconst C (0 : Int32) d_Reader_readText_15 (by decide) ?_
  obtain ⟨m16, em16, hf0⟩ := mx_lt hf0
  refine gw_putI t_Reader C 3 d_Reader_readText_16 k_o_0 (by decide) i_Reader rfl rfl (by decide) qw_293 rfl rfl t_Reader_ok n_Reader rfl (t_Reader_ok 3 (by decide)) rfl rfl em16 ?_
  refine gw_aload_n C 0 d_Reader_readText_19 rfl rfl ?_
  refine gw_iconst C (0 : Int32) d_Reader_readText_20 (by decide) ?_
  obtain ⟨m21, em21, hf0⟩ := mx_lt hf0
  refine gw_putI t_Reader C 6 d_Reader_readText_21 k_o_0 (by decide) i_Reader rfl rfl (by decide) qw_298 rfl rfl t_Reader_ok n_Reader rfl (t_Reader_ok 6 (by decide)) rfl rfl em21 ?_
  refine gw_aload_n C 0 d_Reader_readText_24 rfl rfl ?_
  refine gw_iconst C (0 : Int32) d_Reader_readText_25 (by decide) ?_
  obtain ⟨m26, em26, hf0⟩ := mx_lt hf0
  refine gw_putI t_Reader C 7 d_Reader_readText_26 k_o_0 (by decide) i_Reader rfl rfl (by decide) qw_299 rfl rfl t_Reader_ok n_Reader rfl (t_Reader_ok 7 (by decide)) rfl rfl em26 ?_
  refine gw_aload_n C 0 d_Reader_readText_29 rfl rfl ?_
  refine gw_iconst C (0 : Int32) d_Reader_readText_30 (by decide) ?_
  obtain ⟨m31, em31, hf0⟩ := mx_lt hf0
  refine gw_putI t_Reader C 8 d_Reader_readText_31 k_o_0 (by decide) i_Reader rfl rfl (by decide) qw_300 rfl rfl t_Reader_ok n_Reader rfl (t_Reader_ok 8 (by decide)) rfl rfl em31 ?_
  refine gw_iconst C (0 : Int32) d_Reader_readText_34 (by decide) ?_
  refine gw_istore C [(4, .int (0 : Int32)), (0, .ref (ly_a L o)), (1, .int p1), (2, .int p2), (3, .int p3)] d_Reader_readText_35 (by decide) rfl ?_
  obtain ⟨q37, hq37, hf0⟩ := mx_bd hf0
  have hk37 : ∀ x37_, q37 = .inr x37_ → GW E L A 6 0 0 Q x37_ 121 [] [] := by
    intro x37_ hx9
    subst hx9
    replace hf0 := mx_sr hf0
    exact en_v hN hf0 d_Reader_readText_121
  refine gw_sub [1, 2, 0] (lv' := [(0, .ref (ly_a L o)), (1, .int p1), (4, .int (0 : Int32))]) rfl ?_
  refine mm_rule hq37 (P := fun (s37 : Int32 × Mm) => GW E L A 6 0 0 Q s37.2 37 [(0, .ref (ly_a L o)), (1, .int p1), (4, .int s37.1)] []) ?_
  intro s37 ih37 hx37 ⟨w37, hb37⟩
  have hj90 : ∀ (v4 : Int32) (t90_0 : Int32) (m90 : Mm), f_Reader_readText_J90 (ly_z L) o p1 v4 t90_0 m90 = some w37 → GW E L A 6 0 0 Q m90 90 [(0, .ref (ly_a L o)), (1, .int p1), (4, .int v4)] [.int t90_0] := by
    intro v4 t90_0 m90 hf1
    unfold f_Reader_readText_J90 at hf1
    refine gw_istore C [(5, .int t90_0), (0, .ref (ly_a L o)), (1, .int p1), (4, .int v4)] d_Reader_readText_90 (by decide) rfl ?_
    refine gw_iload C 0 d_Reader_readText_92 rfl ?_
    refine gw_if_eq C 104 d_Reader_readText_94 (by decide) (fun hc => ?_) (fun hc => ?_)
    · replace hf1 := mx_t hc hf1
      have hr37 := hx37 _ (hb37.trans hf1.symm)
      subst hr37
      replace hf0 := mx_sl hf0
      exact en_v hN hf0 d_Reader_readText_104
    · replace hf1 := mx_f hc hf1
      refine gw_aload_n C 1 d_Reader_readText_97 rfl rfl ?_
      obtain ⟨q98, hq98, hf1⟩ := mx_bd hf1
      refine gw_callI C (c_Reader_isSemicolon _ hg k_o_0 hq98) d_Reader_readText_98 0 qw_661 qw_663 qs_18 qw_2 qw_664 k_o_0 (by decide) rfl hd_Reader_isSemicolon rfl rfl (Nat.le_of_ble_eq_true rfl) ⟨rfl, rfl, Nat.le_of_ble_eq_true rfl, Nat.le_of_ble_eq_true rfl⟩ ⟨Nat.zero_le _, Nat.zero_le _⟩ ?_
      refine gw_if_ne C 105 d_Reader_readText_101 (by decide) (fun hc => ?_) (fun hc => ?_)
      · replace hf1 := mx_f hc hf1
        refine gw_aload_n C 1 d_Reader_readText_105 rfl rfl ?_
        refine gw_dup C d_Reader_readText_106 rfl ?_
        refine gw_getI C 2 d_Reader_readText_107 k_o_0 (by decide) i_Reader rfl rfl (by decide) qw_291 rfl rfl ?_
        refine gw_iconst C (1 : Int32) d_Reader_readText_110 (by decide) ?_
        refine gw_iadd C d_Reader_readText_111 ?_
        obtain ⟨m112, em112, hf1⟩ := mx_lt hf1
        refine gw_putI t_Reader C 2 d_Reader_readText_112 k_o_0 (by decide) i_Reader rfl rfl (by decide) qw_291 rfl rfl t_Reader_ok n_Reader rfl (t_Reader_ok 2 (by decide)) rfl rfl em112 ?_
        obtain ⟨x115, ex115, hf1⟩ := mx_lt hf1
        refine gw_iinc C 3 [(4, .int x115), (5, .int t90_0), (0, .ref (ly_a L o)), (1, .int p1)] d_Reader_readText_115 rfl (by rw [ex115]; rfl) (by decide) rfl ?_
        refine gw_goto C 37 d_Reader_readText_118 (by decide) ?_
        exact gw_go [2, 3, 0] (ih37 (x115, m112) (hb37.trans hf1.symm)) rfl
      · replace hf1 := mx_t hc hf1
        have hr37 := hx37 _ (hb37.trans hf1.symm)
        subst hr37
        replace hf0 := mx_sl hf0
        exact en_v hN hf0 d_Reader_readText_104
  have hf1 := hb37
  unfold f_Reader_readText_L37 at hf1
  refine gw_iload C 2 d_Reader_readText_37 rfl ?_
  refine gw_sipush C (940 : Int32) d_Reader_readText_39 (by decide) ?_
  refine gw_icmp_gt C 121 d_Reader_readText_42 (by decide) (fun hc => ?_) (fun hc => ?_)
  · replace hf1 := mx_t hc hf1
    exact gw_go [] (hk37 s37.2 (hx37 _ (hb37.trans hf1.symm)).symm) rfl
  · replace hf1 := mx_f hc hf1
    refine gw_aload_n C 0 d_Reader_readText_45 rfl rfl ?_
    refine gw_getA C 0 d_Reader_readText_46 k_o_0 (by decide) i_Reader rfl rfl (by decide) qw_287 rfl rfl (o + 1) rfl ?_
    obtain ⟨q49, hq49, hf1⟩ := mx_bd hf1
    refine gw_callV C (c_Tokens_step _ hg k_o_1 hq49) d_Reader_readText_49 0 qw_481 qw_482 qw_483 qw_3 qw_484 k_o_1 (by decide) rfl hd_Tokens_step rfl rfl (Nat.le_of_ble_eq_true rfl) ⟨rfl, rfl, Nat.le_of_ble_eq_true rfl, Nat.le_of_ble_eq_true rfl⟩ ⟨Nat.zero_le _, Nat.zero_le _⟩ ?_
    refine gw_aload_n C 0 d_Reader_readText_52 rfl rfl ?_
    refine gw_getA C 0 d_Reader_readText_53 k_o_0 (by decide) i_Reader rfl rfl (by decide) qw_287 rfl rfl (o + 1) rfl ?_
    refine gw_getIN C 4 d_Reader_readText_56 k_o_1 (by decide) i_Tokens rfl rfl (by decide) qw_60 rfl rfl ?_
    refine gw_if_ne C 63 d_Reader_readText_59 (by decide) (fun hc => ?_) (fun hc => ?_)
    · replace hf1 := mx_f hc hf1
      refine gw_iload_n C 1 d_Reader_readText_63 rfl rfl ?_
      refine gw_if_ne C 74 d_Reader_readText_64 (by decide) (fun hc => ?_) (fun hc => ?_)
      · replace hf1 := mx_f hc hf1
        refine gw_iload_n C 1 d_Reader_readText_74 rfl rfl ?_
        refine gw_iconst C (1 : Int32) d_Reader_readText_75 (by decide) ?_
        refine gw_icmp_ne C 86 d_Reader_readText_76 (by decide) (fun hc => ?_) (fun hc => ?_)
        · replace hf1 := mx_f hc hf1
          refine gw_aload_n C 0 d_Reader_readText_86 rfl rfl ?_
          obtain ⟨q87, hq87, hf1⟩ := mx_bd hf1
          refine gw_callI C (c_Reader_bookLine _ hg k_o_0 hq87) d_Reader_readText_87 0 qw_653 qw_655 qs_16 qw_2 qw_656 k_o_0 (by decide) rfl hd_Reader_bookLine rfl rfl (Nat.le_of_ble_eq_true rfl) ⟨rfl, rfl, Nat.le_of_ble_eq_true rfl, Nat.le_of_ble_eq_true rfl⟩ ⟨Nat.zero_le _, Nat.zero_le _⟩ ?_
          exact gw_go [0, 1, 2] (hj90 _ _ _ hf1) rfl
        · replace hf1 := mx_t hc hf1
          refine gw_aload_n C 0 d_Reader_readText_79 rfl rfl ?_
          obtain ⟨q80, hq80, hf1⟩ := mx_bd hf1
          refine gw_callI C (c_Reader_rollLine _ hg k_o_0 hq80) d_Reader_readText_80 0 qw_648 qw_650 qs_15 qw_2 qw_651 k_o_0 (by decide) rfl hd_Reader_rollLine rfl rfl (Nat.le_of_ble_eq_true rfl) ⟨rfl, rfl, Nat.le_of_ble_eq_true rfl, Nat.le_of_ble_eq_true rfl⟩ ⟨Nat.zero_le _, Nat.zero_le _⟩ ?_
          refine gw_goto C 90 d_Reader_readText_83 (by decide) ?_
          exact gw_go [0, 1, 2] (hj90 _ _ _ hf1) rfl
      · replace hf1 := mx_t hc hf1
        refine gw_aload_n C 0 d_Reader_readText_67 rfl rfl ?_
        obtain ⟨q68, hq68, hf1⟩ := mx_bd hf1
        refine gw_callI C (c_Reader_islandLine _ hg k_o_0 hq68) d_Reader_readText_68 0 qw_556 qw_558 qs_2 qw_2 qw_559 k_o_0 (by decide) rfl hd_Reader_islandLine rfl rfl (Nat.le_of_ble_eq_true rfl) ⟨rfl, rfl, Nat.le_of_ble_eq_true rfl, Nat.le_of_ble_eq_true rfl⟩ ⟨Nat.zero_le _, Nat.zero_le _⟩ ?_
        refine gw_goto C 90 d_Reader_readText_71 (by decide) ?_
        exact gw_go [0, 1, 2] (hj90 _ _ _ hf1) rfl
    · replace hf1 := mx_t hc hf1
      have hr37 := hx37 _ (hb37.trans hf1.symm)
      subst hr37
      replace hf0 := mx_sl hf0
      exact en_v hN hf0 d_Reader_readText_62

/-! NameHat.Names.copyFrom(LNameHat.Names;)V -/
abbrev b_Names_copyFrom : ByteArray := prog_5_method_8_code
def y_Names_copyFrom : MethodName := ⟨"NameHat$Names", "copyFrom", "(LNameHat$Names;)V"⟩
abbrev rm_Names_copyFrom : Room := { frames := 0, cells := 0, slots := 0, locals := 0 }
theorem hd_Names_copyFrom : y_Names_copyFrom.cls ≠ "java/lang/invoke/MethodHandle" ∧ y_Names_copyFrom.cls ≠ "java/lang/invoke/VarHandle" ∧ (parseMethodDescriptor y_Names_copyFrom.desc).map (fun d => d.parameters.length) = some 1 := by decide +kernel
theorem d_Names_copyFrom_0 : decode b_Names_copyFrom 0 = .ok (.iconst 0, 1) := by decide +kernel
theorem d_Names_copyFrom_1 : decode b_Names_copyFrom 1 = .ok (.istore_n 2, 1) := by decide +kernel
theorem d_Names_copyFrom_2 : decode b_Names_copyFrom 2 = .ok (.iload_n 2, 1) := by decide +kernel
theorem d_Names_copyFrom_3 : decode b_Names_copyFrom 3 = .ok (.aload_n 0, 1) := by decide +kernel
theorem d_Names_copyFrom_4 : decode b_Names_copyFrom 4 = .ok (.getfield 9, 3) := by decide +kernel
theorem d_Names_copyFrom_7 : decode b_Names_copyFrom 7 = .ok (.arraylength, 1) := by decide +kernel
theorem d_Names_copyFrom_8 : decode b_Names_copyFrom 8 = .ok (.if_icmp .ge 30, 3) := by decide +kernel
theorem d_Names_copyFrom_11 : decode b_Names_copyFrom 11 = .ok (.iload_n 2, 1) := by decide +kernel
theorem d_Names_copyFrom_12 : decode b_Names_copyFrom 12 = .ok (.aload_n 1, 1) := by decide +kernel
theorem d_Names_copyFrom_13 : decode b_Names_copyFrom 13 = .ok (.getfield 9, 3) := by decide +kernel
theorem d_Names_copyFrom_16 : decode b_Names_copyFrom 16 = .ok (.arraylength, 1) := by decide +kernel
theorem d_Names_copyFrom_17 : decode b_Names_copyFrom 17 = .ok (.if_icmp .ge 21, 3) := by decide +kernel
theorem d_Names_copyFrom_20 : decode b_Names_copyFrom 20 = .ok (.aload_n 0, 1) := by decide +kernel
theorem d_Names_copyFrom_21 : decode b_Names_copyFrom 21 = .ok (.getfield 9, 3) := by decide +kernel
theorem d_Names_copyFrom_24 : decode b_Names_copyFrom 24 = .ok (.iload_n 2, 1) := by decide +kernel
theorem d_Names_copyFrom_25 : decode b_Names_copyFrom 25 = .ok (.aload_n 1, 1) := by decide +kernel
theorem d_Names_copyFrom_26 : decode b_Names_copyFrom 26 = .ok (.getfield 9, 3) := by decide +kernel
theorem d_Names_copyFrom_29 : decode b_Names_copyFrom 29 = .ok (.iload_n 2, 1) := by decide +kernel
theorem d_Names_copyFrom_30 : decode b_Names_copyFrom 30 = .ok (.laload, 1) := by decide +kernel
theorem d_Names_copyFrom_31 : decode b_Names_copyFrom 31 = .ok (.lastore, 1) := by decide +kernel
theorem d_Names_copyFrom_32 : decode b_Names_copyFrom 32 = .ok (.iinc 2 1, 3) := by decide +kernel
theorem d_Names_copyFrom_35 : decode b_Names_copyFrom 35 = .ok (.goto (-33), 3) := by decide +kernel
theorem d_Names_copyFrom_38 : decode b_Names_copyFrom 38 = .ok (.aload_n 0, 1) := by decide +kernel
theorem d_Names_copyFrom_39 : decode b_Names_copyFrom 39 = .ok (.aload_n 1, 1) := by decide +kernel
theorem d_Names_copyFrom_40 : decode b_Names_copyFrom 40 = .ok (.getfield 15, 3) := by decide +kernel
theorem d_Names_copyFrom_43 : decode b_Names_copyFrom 43 = .ok (.putfield 15, 3) := by decide +kernel
theorem d_Names_copyFrom_46 : decode b_Names_copyFrom 46 = .ok (.return_, 1) := by decide +kernel
noncomputable def f_Names_copyFrom_L2 (z : Nat → Nat) (o : Nat) (o1 : Nat) (s2 : Int32 × Mm) : Option ((Int32 × Mm) ⊕ (Mm)) :=
  if (nI (z (o + 1))) ≤ s2.1 then (
    some (.inr s2.2)
  ) else (
    if (nI (z (o1 + 1))) ≤ s2.1 then (
      some (.inr s2.2)
    ) else (
      (mm_ldL (s2.2.2 (o1 + 1)) (z (o1 + 1)) s2.1).bind fun x30 =>
      (mm_stL s2.2 (o + 1) (z (o + 1)) s2.1 x30).bind fun m31 =>
      mm_lt (s2.1 + (1 : Int32)) fun x32 =>
      some (.inl (x32, m31))
    )
  )
noncomputable def f_Names_copyFrom (z : Nat → Nat) (σ : Mm) (o : Nat) (o1 : Nat) : Option (Mm) :=
  (mm_lp (f_Names_copyFrom_L2 z o o1) ((0 : Int32), σ)).bind (fun q2 =>
    mm_lt (kI q2 o 1 (q2.1 o1 1)) fun m43 =>
    some m43)
set_option maxHeartbeats 4000000 in
set_option maxRecDepth 100000 in
theorem c_Names_copyFrom (l : Launch) {L : Ly} (hg : gd_ok L) {σ : Mm} {o : Nat} {o1 : Nat} (k_o_0 : ly_k L o = 1) (k_o1_0 : ly_k L o1 = 1) {res : Mm} (hf0 : f_Names_copyFrom (ly_z L) σ o o1 = some res) : CtV l y_Names_copyFrom b_Names_copyFrom 3 (none) rm_Names_copyFrom L [.ref (ly_a L o), .ref (ly_a L o1)] σ res := by
  refine ct_v hg (by decide) (Nat.le_of_ble_eq_true rfl) ?_
  intro E A Q hE C hN
  subst hE
  have k_o_1 : ly_k L (o + 1) = 21 := gd_Names_letters hg k_o_0
  have k_o1_1 : ly_k L (o1 + 1) = 21 := gd_Names_letters hg k_o1_0
  unfold f_Names_copyFrom at hf0
  show GW E L A 3 0 0 Q σ 0 [(0, .ref (ly_a L o)), (1, .ref (ly_a L o1))] []
  refine gw_iconst C (0 : Int32) d_Names_copyFrom_0 (by decide) ?_
  refine gw_istore_n C [(2, .int (0 : Int32)), (0, .ref (ly_a L o)), (1, .ref (ly_a L o1))] d_Names_copyFrom_1 rfl (by decide) rfl ?_
  obtain ⟨q2, hq2, hf0⟩ := mx_bd hf0
  have hk2 : ∀ x9, q2 = x9 → GW E L A 3 0 0 Q x9 38 [(0, .ref (ly_a L o)), (1, .ref (ly_a L o1))] [] := by
    intro x9 hx9
    subst hx9
    refine gw_aload_n C 0 d_Names_copyFrom_38 rfl rfl ?_
    refine gw_aload_n C 1 d_Names_copyFrom_39 rfl rfl ?_
    refine gw_getI C 1 d_Names_copyFrom_40 k_o1_0 (by decide) i_Names rfl rfl (by decide) qw_109 rfl rfl ?_
    obtain ⟨m43, em43, hf0⟩ := mx_lt hf0
    refine gw_putI t_Names C 1 d_Names_copyFrom_43 k_o_0 (by decide) i_Names rfl rfl (by decide) qw_109 rfl rfl t_Names_ok n_Names rfl (t_Names_ok 1 (by decide)) rfl rfl em43 ?_
    exact en_v hN hf0 d_Names_copyFrom_46
  refine gw_sub [1, 2, 0] (lv' := [(0, .ref (ly_a L o)), (1, .ref (ly_a L o1)), (2, .int (0 : Int32))]) rfl ?_
  refine mm_rule hq2 (P := fun (s2 : Int32 × Mm) => GW E L A 3 0 0 Q s2.2 2 [(0, .ref (ly_a L o)), (1, .ref (ly_a L o1)), (2, .int s2.1)] []) ?_
  intro s2 ih2 hx2 ⟨w2, hb2⟩
  have hf1 := hb2
  unfold f_Names_copyFrom_L2 at hf1
  refine gw_iload_n C 2 d_Names_copyFrom_2 rfl rfl ?_
  refine gw_aload_n C 0 d_Names_copyFrom_3 rfl rfl ?_
  refine gw_getA C 0 d_Names_copyFrom_4 k_o_0 (by decide) i_Names rfl rfl (by decide) qw_107 rfl rfl (o + 1) rfl ?_
  refine gw_alen21 C d_Names_copyFrom_7 k_o_1 ?_
  refine gw_icmp_ge C 38 d_Names_copyFrom_8 (by decide) (fun hc => ?_) (fun hc => ?_)
  · replace hf1 := mx_t hc hf1
    exact gw_go [0, 1] (hk2 s2.2 (hx2 _ (hb2.trans hf1.symm)).symm) rfl
  · replace hf1 := mx_f hc hf1
    refine gw_iload_n C 2 d_Names_copyFrom_11 rfl rfl ?_
    refine gw_aload_n C 1 d_Names_copyFrom_12 rfl rfl ?_
    refine gw_getA C 0 d_Names_copyFrom_13 k_o1_0 (by decide) i_Names rfl rfl (by decide) qw_107 rfl rfl (o1 + 1) rfl ?_
    refine gw_alen21 C d_Names_copyFrom_16 k_o1_1 ?_
    refine gw_icmp_ge C 38 d_Names_copyFrom_17 (by decide) (fun hc => ?_) (fun hc => ?_)
    · replace hf1 := mx_t hc hf1
      exact gw_go [0, 1] (hk2 s2.2 (hx2 _ (hb2.trans hf1.symm)).symm) rfl
    · replace hf1 := mx_f hc hf1
      refine gw_aload_n C 0 d_Names_copyFrom_20 rfl rfl ?_
      refine gw_getA C 0 d_Names_copyFrom_21 k_o_0 (by decide) i_Names rfl rfl (by decide) qw_107 rfl rfl (o + 1) rfl ?_
      refine gw_iload_n C 2 d_Names_copyFrom_24 rfl rfl ?_
      refine gw_aload_n C 1 d_Names_copyFrom_25 rfl rfl ?_
      refine gw_getA C 0 d_Names_copyFrom_26 k_o1_0 (by decide) i_Names rfl rfl (by decide) qw_107 rfl rfl (o1 + 1) rfl ?_
      refine gw_iload_n C 2 d_Names_copyFrom_29 rfl rfl ?_
      obtain ⟨x30, hx30, hf1⟩ := mx_bd hf1
      obtain ⟨gx30, ex30⟩ := mx_ldL hx30
      refine gw_lald C d_Names_copyFrom_30 k_o1_1 gx30 ex30 ?_
      obtain ⟨m31, hm31, hf1⟩ := mx_bd hf1
      obtain ⟨gm31, em31⟩ := mx_stL hm31
      refine gw_last C d_Names_copyFrom_31 k_o_1 gm31 em31 ?_
      obtain ⟨x32, ex32, hf1⟩ := mx_lt hf1
      refine gw_iinc C 2 [(2, .int x32), (0, .ref (ly_a L o)), (1, .ref (ly_a L o1))] d_Names_copyFrom_32 rfl (by rw [ex32]; rfl) (by decide) rfl ?_
      refine gw_goto C 2 d_Names_copyFrom_35 (by decide) ?_
      exact gw_go [1, 2, 0] (ih2 (x32, m31) (hb2.trans hf1.symm)) rfl

/-! NameHat.Row.copyFrom(LNameHat.Row;)V -/
abbrev b_Row_copyFrom : ByteArray := prog_8_method_5_code
def y_Row_copyFrom : MethodName := ⟨"NameHat$Row", "copyFrom", "(LNameHat$Row;)V"⟩
abbrev rm_Row_copyFrom : Room := { frames := 0, cells := 0, slots := 0, locals := 0 }
theorem hd_Row_copyFrom : y_Row_copyFrom.cls ≠ "java/lang/invoke/MethodHandle" ∧ y_Row_copyFrom.cls ≠ "java/lang/invoke/VarHandle" ∧ (parseMethodDescriptor y_Row_copyFrom.desc).map (fun d => d.parameters.length) = some 1 := by decide +kernel
theorem d_Row_copyFrom_0 : decode b_Row_copyFrom 0 = .ok (.iconst 0, 1) := by decide +kernel
theorem d_Row_copyFrom_1 : decode b_Row_copyFrom 1 = .ok (.istore_n 2, 1) := by decide +kernel
theorem d_Row_copyFrom_2 : decode b_Row_copyFrom 2 = .ok (.iload_n 2, 1) := by decide +kernel
theorem d_Row_copyFrom_3 : decode b_Row_copyFrom 3 = .ok (.aload_n 0, 1) := by decide +kernel
theorem d_Row_copyFrom_4 : decode b_Row_copyFrom 4 = .ok (.getfield 9, 3) := by decide +kernel
theorem d_Row_copyFrom_7 : decode b_Row_copyFrom 7 = .ok (.arraylength, 1) := by decide +kernel
theorem d_Row_copyFrom_8 : decode b_Row_copyFrom 8 = .ok (.if_icmp .ge 30, 3) := by decide +kernel
theorem d_Row_copyFrom_11 : decode b_Row_copyFrom 11 = .ok (.iload_n 2, 1) := by decide +kernel
theorem d_Row_copyFrom_12 : decode b_Row_copyFrom 12 = .ok (.aload_n 1, 1) := by decide +kernel
theorem d_Row_copyFrom_13 : decode b_Row_copyFrom 13 = .ok (.getfield 9, 3) := by decide +kernel
theorem d_Row_copyFrom_16 : decode b_Row_copyFrom 16 = .ok (.arraylength, 1) := by decide +kernel
theorem d_Row_copyFrom_17 : decode b_Row_copyFrom 17 = .ok (.if_icmp .ge 21, 3) := by decide +kernel
theorem d_Row_copyFrom_20 : decode b_Row_copyFrom 20 = .ok (.aload_n 0, 1) := by decide +kernel
theorem d_Row_copyFrom_21 : decode b_Row_copyFrom 21 = .ok (.getfield 9, 3) := by decide +kernel
theorem d_Row_copyFrom_24 : decode b_Row_copyFrom 24 = .ok (.iload_n 2, 1) := by decide +kernel
theorem d_Row_copyFrom_25 : decode b_Row_copyFrom 25 = .ok (.aload_n 1, 1) := by decide +kernel
theorem d_Row_copyFrom_26 : decode b_Row_copyFrom 26 = .ok (.getfield 9, 3) := by decide +kernel
theorem d_Row_copyFrom_29 : decode b_Row_copyFrom 29 = .ok (.iload_n 2, 1) := by decide +kernel
theorem d_Row_copyFrom_30 : decode b_Row_copyFrom 30 = .ok (.iaload, 1) := by decide +kernel
theorem d_Row_copyFrom_31 : decode b_Row_copyFrom 31 = .ok (.iastore, 1) := by decide +kernel
theorem d_Row_copyFrom_32 : decode b_Row_copyFrom 32 = .ok (.iinc 2 1, 3) := by decide +kernel
theorem d_Row_copyFrom_35 : decode b_Row_copyFrom 35 = .ok (.goto (-33), 3) := by decide +kernel
theorem d_Row_copyFrom_38 : decode b_Row_copyFrom 38 = .ok (.return_, 1) := by decide +kernel
noncomputable def f_Row_copyFrom_L2 (z : Nat → Nat) (o : Nat) (o1 : Nat) (s2 : Int32 × Mm) : Option ((Int32 × Mm) ⊕ (Mm)) :=
  if (nI (z (o + 1))) ≤ s2.1 then (
    some (.inr s2.2)
  ) else (
    if (nI (z (o1 + 1))) ≤ s2.1 then (
      some (.inr s2.2)
    ) else (
      (mm_ldI (s2.2.1 (o1 + 1)) (z (o1 + 1)) s2.1).bind fun x30 =>
      (mm_stI s2.2 (o + 1) (z (o + 1)) s2.1 x30).bind fun m31 =>
      mm_lt (s2.1 + (1 : Int32)) fun x32 =>
      some (.inl (x32, m31))
    )
  )
noncomputable def f_Row_copyFrom (z : Nat → Nat) (σ : Mm) (o : Nat) (o1 : Nat) : Option (Mm) :=
  (mm_lp (f_Row_copyFrom_L2 z o o1) ((0 : Int32), σ)).bind (fun q2 =>
    some q2)
set_option maxHeartbeats 4000000 in
set_option maxRecDepth 100000 in
theorem c_Row_copyFrom (l : Launch) {L : Ly} (hg : gd_ok L) {σ : Mm} {o : Nat} {o1 : Nat} (k_o_0 : ly_k L o = 0) (k_o1_0 : ly_k L o1 = 0) {res : Mm} (hf0 : f_Row_copyFrom (ly_z L) σ o o1 = some res) : CtV l y_Row_copyFrom b_Row_copyFrom 3 (none) rm_Row_copyFrom L [.ref (ly_a L o), .ref (ly_a L o1)] σ res := by
  refine ct_v hg (by decide) (Nat.le_of_ble_eq_true rfl) ?_
  intro E A Q hE C hN
  subst hE
  have k_o_1 : ly_k L (o + 1) = 20 := gd_Row_cells hg k_o_0
  have k_o1_1 : ly_k L (o1 + 1) = 20 := gd_Row_cells hg k_o1_0
  unfold f_Row_copyFrom at hf0
  show GW E L A 3 0 0 Q σ 0 [(0, .ref (ly_a L o)), (1, .ref (ly_a L o1))] []
  refine gw_iconst C (0 : Int32) d_Row_copyFrom_0 (by decide) ?_
  refine gw_istore_n C [(2, .int (0 : Int32)), (0, .ref (ly_a L o)), (1, .ref (ly_a L o1))] d_Row_copyFrom_1 rfl (by decide) rfl ?_
  obtain ⟨q2, hq2, hf0⟩ := mx_bd hf0
  have hk2 : ∀ x9, q2 = x9 → GW E L A 3 0 0 Q x9 38 [] [] := by
    intro x9 hx9
    subst hx9
    exact en_v hN hf0 d_Row_copyFrom_38
  refine gw_sub [1, 2, 0] (lv' := [(0, .ref (ly_a L o)), (1, .ref (ly_a L o1)), (2, .int (0 : Int32))]) rfl ?_
  refine mm_rule hq2 (P := fun (s2 : Int32 × Mm) => GW E L A 3 0 0 Q s2.2 2 [(0, .ref (ly_a L o)), (1, .ref (ly_a L o1)), (2, .int s2.1)] []) ?_
  intro s2 ih2 hx2 ⟨w2, hb2⟩
  have hf1 := hb2
  unfold f_Row_copyFrom_L2 at hf1
  refine gw_iload_n C 2 d_Row_copyFrom_2 rfl rfl ?_
  refine gw_aload_n C 0 d_Row_copyFrom_3 rfl rfl ?_
  refine gw_getA C 0 d_Row_copyFrom_4 k_o_0 (by decide) i_Row rfl rfl (by decide) qw_50 rfl rfl (o + 1) rfl ?_
  refine gw_alen20 C d_Row_copyFrom_7 k_o_1 ?_
  refine gw_icmp_ge C 38 d_Row_copyFrom_8 (by decide) (fun hc => ?_) (fun hc => ?_)
  · replace hf1 := mx_t hc hf1
    exact gw_go [] (hk2 s2.2 (hx2 _ (hb2.trans hf1.symm)).symm) rfl
  · replace hf1 := mx_f hc hf1
    refine gw_iload_n C 2 d_Row_copyFrom_11 rfl rfl ?_
    refine gw_aload_n C 1 d_Row_copyFrom_12 rfl rfl ?_
    refine gw_getA C 0 d_Row_copyFrom_13 k_o1_0 (by decide) i_Row rfl rfl (by decide) qw_50 rfl rfl (o1 + 1) rfl ?_
    refine gw_alen20 C d_Row_copyFrom_16 k_o1_1 ?_
    refine gw_icmp_ge C 38 d_Row_copyFrom_17 (by decide) (fun hc => ?_) (fun hc => ?_)
    · replace hf1 := mx_t hc hf1
      exact gw_go [] (hk2 s2.2 (hx2 _ (hb2.trans hf1.symm)).symm) rfl
    · replace hf1 := mx_f hc hf1
      refine gw_aload_n C 0 d_Row_copyFrom_20 rfl rfl ?_
      refine gw_getA C 0 d_Row_copyFrom_21 k_o_0 (by decide) i_Row rfl rfl (by decide) qw_50 rfl rfl (o + 1) rfl ?_
      refine gw_iload_n C 2 d_Row_copyFrom_24 rfl rfl ?_
      refine gw_aload_n C 1 d_Row_copyFrom_25 rfl rfl ?_
      refine gw_getA C 0 d_Row_copyFrom_26 k_o1_0 (by decide) i_Row rfl rfl (by decide) qw_50 rfl rfl (o1 + 1) rfl ?_
      refine gw_iload_n C 2 d_Row_copyFrom_29 rfl rfl ?_
      obtain ⟨x30, hx30, hf1⟩ := mx_bd hf1
      obtain ⟨gx30, ex30⟩ := mx_ldI hx30
      refine gw_iald C d_Row_copyFrom_30 k_o1_1 gx30 ex30 ?_
      obtain ⟨m31, hm31, hf1⟩ := mx_bd hf1
      obtain ⟨gm31, em31⟩ := mx_stI hm31
      refine gw_iast C d_Row_copyFrom_31 k_o_1 gm31 em31 ?_
      obtain ⟨x32, ex32, hf1⟩ := mx_lt hf1
      refine gw_iinc C 2 [(2, .int x32), (0, .ref (ly_a L o)), (1, .ref (ly_a L o1))] d_Row_copyFrom_32 rfl (by rw [ex32]; rfl) (by decide) rfl ?_
      refine gw_goto C 2 d_Row_copyFrom_35 (by decide) ?_
      exact gw_go [1, 2, 0] (ih2 (x32, m31) (hb2.trans hf1.symm)) rfl

/-! NameHat.Island.copyFrom(LNameHat.Island;)V -/
abbrev b_Island_copyFrom : ByteArray := prog_4_method_3_code
def y_Island_copyFrom : MethodName := ⟨"NameHat$Island", "copyFrom", "(LNameHat$Island;)V"⟩
abbrev rm_Island_copyFrom : Room := { frames := 1, cells := 0, slots := 0, locals := 22 }
theorem hd_Island_copyFrom : y_Island_copyFrom.cls ≠ "java/lang/invoke/MethodHandle" ∧ y_Island_copyFrom.cls ≠ "java/lang/invoke/VarHandle" ∧ (parseMethodDescriptor y_Island_copyFrom.desc).map (fun d => d.parameters.length) = some 1 := by decide +kernel
theorem d_Island_copyFrom_0 : decode b_Island_copyFrom 0 = .ok (.aload_n 0, 1) := by decide +kernel
theorem d_Island_copyFrom_1 : decode b_Island_copyFrom 1 = .ok (.getfield 14, 3) := by decide +kernel
theorem d_Island_copyFrom_4 : decode b_Island_copyFrom 4 = .ok (.aload_n 1, 1) := by decide +kernel
theorem d_Island_copyFrom_5 : decode b_Island_copyFrom 5 = .ok (.getfield 14, 3) := by decide +kernel
theorem d_Island_copyFrom_8 : decode b_Island_copyFrom 8 = .ok (.invokevirtual 55, 3) := by decide +kernel
theorem d_Island_copyFrom_11 : decode b_Island_copyFrom 11 = .ok (.aload_n 0, 1) := by decide +kernel
theorem d_Island_copyFrom_12 : decode b_Island_copyFrom 12 = .ok (.getfield 20, 3) := by decide +kernel
theorem d_Island_copyFrom_15 : decode b_Island_copyFrom 15 = .ok (.aload_n 1, 1) := by decide +kernel
theorem d_Island_copyFrom_16 : decode b_Island_copyFrom 16 = .ok (.getfield 20, 3) := by decide +kernel
theorem d_Island_copyFrom_19 : decode b_Island_copyFrom 19 = .ok (.invokevirtual 55, 3) := by decide +kernel
theorem d_Island_copyFrom_22 : decode b_Island_copyFrom 22 = .ok (.aload_n 0, 1) := by decide +kernel
theorem d_Island_copyFrom_23 : decode b_Island_copyFrom 23 = .ok (.getfield 26, 3) := by decide +kernel
theorem d_Island_copyFrom_26 : decode b_Island_copyFrom 26 = .ok (.aload_n 1, 1) := by decide +kernel
theorem d_Island_copyFrom_27 : decode b_Island_copyFrom 27 = .ok (.getfield 26, 3) := by decide +kernel
theorem d_Island_copyFrom_30 : decode b_Island_copyFrom 30 = .ok (.invokevirtual 59, 3) := by decide +kernel
theorem d_Island_copyFrom_33 : decode b_Island_copyFrom 33 = .ok (.aload_n 0, 1) := by decide +kernel
theorem d_Island_copyFrom_34 : decode b_Island_copyFrom 34 = .ok (.getfield 30, 3) := by decide +kernel
theorem d_Island_copyFrom_37 : decode b_Island_copyFrom 37 = .ok (.aload_n 1, 1) := by decide +kernel
theorem d_Island_copyFrom_38 : decode b_Island_copyFrom 38 = .ok (.getfield 30, 3) := by decide +kernel
theorem d_Island_copyFrom_41 : decode b_Island_copyFrom 41 = .ok (.invokevirtual 59, 3) := by decide +kernel
theorem d_Island_copyFrom_44 : decode b_Island_copyFrom 44 = .ok (.aload_n 0, 1) := by decide +kernel
theorem d_Island_copyFrom_45 : decode b_Island_copyFrom 45 = .ok (.getfield 33, 3) := by decide +kernel
theorem d_Island_copyFrom_48 : decode b_Island_copyFrom 48 = .ok (.aload_n 1, 1) := by decide +kernel
theorem d_Island_copyFrom_49 : decode b_Island_copyFrom 49 = .ok (.getfield 33, 3) := by decide +kernel
theorem d_Island_copyFrom_52 : decode b_Island_copyFrom 52 = .ok (.invokevirtual 59, 3) := by decide +kernel
theorem d_Island_copyFrom_55 : decode b_Island_copyFrom 55 = .ok (.aload_n 0, 1) := by decide +kernel
theorem d_Island_copyFrom_56 : decode b_Island_copyFrom 56 = .ok (.getfield 36, 3) := by decide +kernel
theorem d_Island_copyFrom_59 : decode b_Island_copyFrom 59 = .ok (.aload_n 1, 1) := by decide +kernel
theorem d_Island_copyFrom_60 : decode b_Island_copyFrom 60 = .ok (.getfield 36, 3) := by decide +kernel
theorem d_Island_copyFrom_63 : decode b_Island_copyFrom 63 = .ok (.invokevirtual 59, 3) := by decide +kernel
theorem d_Island_copyFrom_66 : decode b_Island_copyFrom 66 = .ok (.aload_n 0, 1) := by decide +kernel
theorem d_Island_copyFrom_67 : decode b_Island_copyFrom 67 = .ok (.aload_n 1, 1) := by decide +kernel
theorem d_Island_copyFrom_68 : decode b_Island_copyFrom 68 = .ok (.getfield 45, 3) := by decide +kernel
theorem d_Island_copyFrom_71 : decode b_Island_copyFrom 71 = .ok (.putfield 45, 3) := by decide +kernel
theorem d_Island_copyFrom_74 : decode b_Island_copyFrom 74 = .ok (.aload_n 0, 1) := by decide +kernel
theorem d_Island_copyFrom_75 : decode b_Island_copyFrom 75 = .ok (.aload_n 1, 1) := by decide +kernel
theorem d_Island_copyFrom_76 : decode b_Island_copyFrom 76 = .ok (.getfield 49, 3) := by decide +kernel
theorem d_Island_copyFrom_79 : decode b_Island_copyFrom 79 = .ok (.putfield 49, 3) := by decide +kernel
theorem d_Island_copyFrom_82 : decode b_Island_copyFrom 82 = .ok (.aload_n 0, 1) := by decide +kernel
theorem d_Island_copyFrom_83 : decode b_Island_copyFrom 83 = .ok (.aload_n 1, 1) := by decide +kernel
theorem d_Island_copyFrom_84 : decode b_Island_copyFrom 84 = .ok (.getfield 52, 3) := by decide +kernel
theorem d_Island_copyFrom_87 : decode b_Island_copyFrom 87 = .ok (.putfield 52, 3) := by decide +kernel
theorem d_Island_copyFrom_90 : decode b_Island_copyFrom 90 = .ok (.return_, 1) := by decide +kernel
noncomputable def f_Island_copyFrom (z : Nat → Nat) (σ : Mm) (o : Nat) (o1 : Nat) : Option (Mm) :=
  (f_Names_copyFrom z σ (o + 1) (o1 + 1)).bind fun q8 =>
  (f_Names_copyFrom z q8 (o + 3) (o1 + 3)).bind fun q19 =>
  (f_Row_copyFrom z q19 (o + 5) (o1 + 5)).bind fun q30 =>
  (f_Row_copyFrom z q30 (o + 7) (o1 + 7)).bind fun q41 =>
  (f_Row_copyFrom z q41 (o + 9) (o1 + 9)).bind fun q52 =>
  (f_Row_copyFrom z q52 (o + 11) (o1 + 11)).bind fun q63 =>
  mm_lt (kI q63 o 6 (q63.1 o1 6)) fun m71 =>
  mm_lt (kI m71 o 7 (m71.1 o1 7)) fun m79 =>
  mm_lt (kI m79 o 8 (m79.1 o1 8)) fun m87 =>
  some m87
set_option maxHeartbeats 4000000 in
set_option maxRecDepth 100000 in
theorem c_Island_copyFrom (l : Launch) {L : Ly} (hg : gd_ok L) {σ : Mm} {o : Nat} {o1 : Nat} (k_o_0 : ly_k L o = 2) (k_o1_0 : ly_k L o1 = 2) {res : Mm} (hf0 : f_Island_copyFrom (ly_z L) σ o o1 = some res) : CtV l y_Island_copyFrom b_Island_copyFrom 2 (none) rm_Island_copyFrom L [.ref (ly_a L o), .ref (ly_a L o1)] σ res := by
  refine ct_v hg (by decide) (Nat.le_of_ble_eq_true rfl) ?_
  intro E A Q hE C hN
  subst hE
  have k_o_1 : ly_k L (o + 1) = 1 := gd_Island_surnames hg k_o_0
  have k_o1_1 : ly_k L (o1 + 1) = 1 := gd_Island_surnames hg k_o1_0
  have k_o_3 : ly_k L (o + 3) = 1 := gd_Island_houses hg k_o_0
  have k_o1_3 : ly_k L (o1 + 3) = 1 := gd_Island_houses hg k_o1_0
  have k_o_5 : ly_k L (o + 5) = 0 := gd_Island_worths hg k_o_0
  have k_o1_5 : ly_k L (o1 + 5) = 0 := gd_Island_worths hg k_o1_0
  have k_o_7 : ly_k L (o + 7) = 0 := gd_Island_kinds hg k_o_0
  have k_o1_7 : ly_k L (o1 + 7) = 0 := gd_Island_kinds hg k_o1_0
  have k_o_9 : ly_k L (o + 9) = 0 := gd_Island_feuds hg k_o_0
  have k_o1_9 : ly_k L (o1 + 9) = 0 := gd_Island_feuds hg k_o1_0
  have k_o_11 : ly_k L (o + 11) = 0 := gd_Island_wants hg k_o_0
  have k_o1_11 : ly_k L (o1 + 11) = 0 := gd_Island_wants hg k_o1_0
  unfold f_Island_copyFrom at hf0
  show GW E L A 2 0 0 Q σ 0 [(0, .ref (ly_a L o)), (1, .ref (ly_a L o1))] []
  refine gw_aload_n C 0 d_Island_copyFrom_0 rfl rfl ?_
  refine gw_getA C 0 d_Island_copyFrom_1 k_o_0 (by decide) i_Island rfl rfl (by decide) qw_124 rfl rfl (o + 1) rfl ?_
  refine gw_aload_n C 1 d_Island_copyFrom_4 rfl rfl ?_
  refine gw_getA C 0 d_Island_copyFrom_5 k_o1_0 (by decide) i_Island rfl rfl (by decide) qw_124 rfl rfl (o1 + 1) rfl ?_
  obtain ⟨q8, hq8, hf0⟩ := mx_bd hf0
  refine gw_callV C (c_Names_copyFrom _ hg k_o_1 k_o1_1 hq8) d_Island_copyFrom_8 1 qw_677 qw_678 qw_679 qw_7 qw_680 k_o_1 (by decide) rfl hd_Names_copyFrom rfl rfl (Nat.le_of_ble_eq_true rfl) ⟨rfl, rfl, Nat.le_of_ble_eq_true rfl, Nat.le_of_ble_eq_true rfl⟩ ⟨Nat.zero_le _, Nat.zero_le _⟩ ?_
  refine gw_aload_n C 0 d_Island_copyFrom_11 rfl rfl ?_
  refine gw_getA C 1 d_Island_copyFrom_12 k_o_0 (by decide) i_Island rfl rfl (by decide) qw_129 rfl rfl (o + 3) rfl ?_
  refine gw_aload_n C 1 d_Island_copyFrom_15 rfl rfl ?_
  refine gw_getA C 1 d_Island_copyFrom_16 k_o1_0 (by decide) i_Island rfl rfl (by decide) qw_129 rfl rfl (o1 + 3) rfl ?_
  obtain ⟨q19, hq19, hf0⟩ := mx_bd hf0
  refine gw_callV C (c_Names_copyFrom _ hg k_o_3 k_o1_3 hq19) d_Island_copyFrom_19 1 qw_677 qw_678 qw_679 qw_7 qw_680 k_o_3 (by decide) rfl hd_Names_copyFrom rfl rfl (Nat.le_of_ble_eq_true rfl) ⟨rfl, rfl, Nat.le_of_ble_eq_true rfl, Nat.le_of_ble_eq_true rfl⟩ ⟨Nat.zero_le _, Nat.zero_le _⟩ ?_
  refine gw_aload_n C 0 d_Island_copyFrom_22 rfl rfl ?_
  refine gw_getA C 2 d_Island_copyFrom_23 k_o_0 (by decide) i_Island rfl rfl (by decide) qw_137 rfl rfl (o + 5) rfl ?_
  refine gw_aload_n C 1 d_Island_copyFrom_26 rfl rfl ?_
  refine gw_getA C 2 d_Island_copyFrom_27 k_o1_0 (by decide) i_Island rfl rfl (by decide) qw_137 rfl rfl (o1 + 5) rfl ?_
  obtain ⟨q30, hq30, hf0⟩ := mx_bd hf0
  refine gw_callV C (c_Row_copyFrom _ hg k_o_5 k_o1_5 hq30) d_Island_copyFrom_30 1 qw_681 qw_682 qw_683 qw_4 qw_684 k_o_5 (by decide) rfl hd_Row_copyFrom rfl rfl (Nat.le_of_ble_eq_true rfl) ⟨rfl, rfl, Nat.le_of_ble_eq_true rfl, Nat.le_of_ble_eq_true rfl⟩ ⟨Nat.zero_le _, Nat.zero_le _⟩ ?_
  refine gw_aload_n C 0 d_Island_copyFrom_33 rfl rfl ?_
  refine gw_getA C 3 d_Island_copyFrom_34 k_o_0 (by decide) i_Island rfl rfl (by decide) qw_141 rfl rfl (o + 7) rfl ?_
  refine gw_aload_n C 1 d_Island_copyFrom_37 rfl rfl ?_
  refine gw_getA C 3 d_Island_copyFrom_38 k_o1_0 (by decide) i_Island rfl rfl (by decide) qw_141 rfl rfl (o1 + 7) rfl ?_
  obtain ⟨q41, hq41, hf0⟩ := mx_bd hf0
  refine gw_callV C (c_Row_copyFrom _ hg k_o_7 k_o1_7 hq41) d_Island_copyFrom_41 1 qw_681 qw_682 qw_683 qw_4 qw_684 k_o_7 (by decide) rfl hd_Row_copyFrom rfl rfl (Nat.le_of_ble_eq_true rfl) ⟨rfl, rfl, Nat.le_of_ble_eq_true rfl, Nat.le_of_ble_eq_true rfl⟩ ⟨Nat.zero_le _, Nat.zero_le _⟩ ?_
  refine gw_aload_n C 0 d_Island_copyFrom_44 rfl rfl ?_
  refine gw_getA C 4 d_Island_copyFrom_45 k_o_0 (by decide) i_Island rfl rfl (by decide) qw_144 rfl rfl (o + 9) rfl ?_
  refine gw_aload_n C 1 d_Island_copyFrom_48 rfl rfl ?_
  refine gw_getA C 4 d_Island_copyFrom_49 k_o1_0 (by decide) i_Island rfl rfl (by decide) qw_144 rfl rfl (o1 + 9) rfl ?_
  obtain ⟨q52, hq52, hf0⟩ := mx_bd hf0
  refine gw_callV C (c_Row_copyFrom _ hg k_o_9 k_o1_9 hq52) d_Island_copyFrom_52 1 qw_681 qw_682 qw_683 qw_4 qw_684 k_o_9 (by decide) rfl hd_Row_copyFrom rfl rfl (Nat.le_of_ble_eq_true rfl) ⟨rfl, rfl, Nat.le_of_ble_eq_true rfl, Nat.le_of_ble_eq_true rfl⟩ ⟨Nat.zero_le _, Nat.zero_le _⟩ ?_
  refine gw_aload_n C 0 d_Island_copyFrom_55 rfl rfl ?_
  refine gw_getA C 5 d_Island_copyFrom_56 k_o_0 (by decide) i_Island rfl rfl (by decide) qw_146 rfl rfl (o + 11) rfl ?_
  refine gw_aload_n C 1 d_Island_copyFrom_59 rfl rfl ?_
  refine gw_getA C 5 d_Island_copyFrom_60 k_o1_0 (by decide) i_Island rfl rfl (by decide) qw_146 rfl rfl (o1 + 11) rfl ?_
  obtain ⟨q63, hq63, hf0⟩ := mx_bd hf0
  refine gw_callV C (c_Row_copyFrom _ hg k_o_11 k_o1_11 hq63) d_Island_copyFrom_63 1 qw_681 qw_682 qw_683 qw_4 qw_684 k_o_11 (by decide) rfl hd_Row_copyFrom rfl rfl (Nat.le_of_ble_eq_true rfl) ⟨rfl, rfl, Nat.le_of_ble_eq_true rfl, Nat.le_of_ble_eq_true rfl⟩ ⟨Nat.zero_le _, Nat.zero_le _⟩ ?_
  refine gw_aload_n C 0 d_Island_copyFrom_66 rfl rfl ?_
  refine gw_aload_n C 1 d_Island_copyFrom_67 rfl rfl ?_
  refine gw_getI C 6 d_Island_copyFrom_68 k_o1_0 (by decide) i_Island rfl rfl (by decide) qw_148 rfl rfl ?_
  obtain ⟨m71, em71, hf0⟩ := mx_lt hf0
  refine gw_putI t_Island C 6 d_Island_copyFrom_71 k_o_0 (by decide) i_Island rfl rfl (by decide) qw_148 rfl rfl t_Island_ok n_Island rfl (t_Island_ok 6 (by decide)) rfl rfl em71 ?_
  refine gw_aload_n C 0 d_Island_copyFrom_74 rfl rfl ?_
  refine gw_aload_n C 1 d_Island_copyFrom_75 rfl rfl ?_
  refine gw_getI C 7 d_Island_copyFrom_76 k_o1_0 (by decide) i_Island rfl rfl (by decide) qw_152 rfl rfl ?_
  obtain ⟨m79, em79, hf0⟩ := mx_lt hf0
  refine gw_putI t_Island C 7 d_Island_copyFrom_79 k_o_0 (by decide) i_Island rfl rfl (by decide) qw_152 rfl rfl t_Island_ok n_Island rfl (t_Island_ok 7 (by decide)) rfl rfl em79 ?_
  refine gw_aload_n C 0 d_Island_copyFrom_82 rfl rfl ?_
  refine gw_aload_n C 1 d_Island_copyFrom_83 rfl rfl ?_
  refine gw_getI C 8 d_Island_copyFrom_84 k_o1_0 (by decide) i_Island rfl rfl (by decide) qw_156 rfl rfl ?_
  obtain ⟨m87, em87, hf0⟩ := mx_lt hf0
  refine gw_putI t_Island C 8 d_Island_copyFrom_87 k_o_0 (by decide) i_Island rfl rfl (by decide) qw_156 rfl rfl t_Island_ok n_Island rfl (t_Island_ok 8 (by decide)) rfl rfl em87 ?_
  exact en_v hN hf0 d_Island_copyFrom_90

/-! NameHat.Hands.copyFrom(LNameHat.Hands;)V -/
abbrev b_Hands_copyFrom : ByteArray := prog_3_method_3_code
def y_Hands_copyFrom : MethodName := ⟨"NameHat$Hands", "copyFrom", "(LNameHat$Hands;)V"⟩
abbrev rm_Hands_copyFrom : Room := { frames := 1, cells := 0, slots := 0, locals := 22 }
theorem hd_Hands_copyFrom : y_Hands_copyFrom.cls ≠ "java/lang/invoke/MethodHandle" ∧ y_Hands_copyFrom.cls ≠ "java/lang/invoke/VarHandle" ∧ (parseMethodDescriptor y_Hands_copyFrom.desc).map (fun d => d.parameters.length) = some 1 := by decide +kernel
theorem d_Hands_copyFrom_0 : decode b_Hands_copyFrom 0 = .ok (.aload_n 0, 1) := by decide +kernel
theorem d_Hands_copyFrom_1 : decode b_Hands_copyFrom 1 = .ok (.getfield 14, 3) := by decide +kernel
theorem d_Hands_copyFrom_4 : decode b_Hands_copyFrom 4 = .ok (.aload_n 1, 1) := by decide +kernel
theorem d_Hands_copyFrom_5 : decode b_Hands_copyFrom 5 = .ok (.getfield 14, 3) := by decide +kernel
theorem d_Hands_copyFrom_8 : decode b_Hands_copyFrom 8 = .ok (.invokevirtual 32, 3) := by decide +kernel
theorem d_Hands_copyFrom_11 : decode b_Hands_copyFrom 11 = .ok (.aload_n 0, 1) := by decide +kernel
theorem d_Hands_copyFrom_12 : decode b_Hands_copyFrom 12 = .ok (.getfield 20, 3) := by decide +kernel
theorem d_Hands_copyFrom_15 : decode b_Hands_copyFrom 15 = .ok (.aload_n 1, 1) := by decide +kernel
theorem d_Hands_copyFrom_16 : decode b_Hands_copyFrom 16 = .ok (.getfield 20, 3) := by decide +kernel
theorem d_Hands_copyFrom_19 : decode b_Hands_copyFrom 19 = .ok (.invokevirtual 32, 3) := by decide +kernel
theorem d_Hands_copyFrom_22 : decode b_Hands_copyFrom 22 = .ok (.return_, 1) := by decide +kernel
noncomputable def f_Hands_copyFrom (z : Nat → Nat) (σ : Mm) (o : Nat) (o1 : Nat) : Option (Mm) :=
  (f_Row_copyFrom z σ (o + 1) (o1 + 1)).bind fun q8 =>
  (f_Row_copyFrom z q8 (o + 3) (o1 + 3)).bind fun q19 =>
  some q19
set_option maxHeartbeats 4000000 in
set_option maxRecDepth 100000 in
theorem c_Hands_copyFrom (l : Launch) {L : Ly} (hg : gd_ok L) {σ : Mm} {o : Nat} {o1 : Nat} (k_o_0 : ly_k L o = 3) (k_o1_0 : ly_k L o1 = 3) {res : Mm} (hf0 : f_Hands_copyFrom (ly_z L) σ o o1 = some res) : CtV l y_Hands_copyFrom b_Hands_copyFrom 2 (none) rm_Hands_copyFrom L [.ref (ly_a L o), .ref (ly_a L o1)] σ res := by
  refine ct_v hg (by decide) (Nat.le_of_ble_eq_true rfl) ?_
  intro E A Q hE C hN
  subst hE
  have k_o_1 : ly_k L (o + 1) = 0 := gd_Hands_held hg k_o_0
  have k_o1_1 : ly_k L (o1 + 1) = 0 := gd_Hands_held hg k_o1_0
  have k_o_3 : ly_k L (o + 3) = 0 := gd_Hands_sits hg k_o_0
  have k_o1_3 : ly_k L (o1 + 3) = 0 := gd_Hands_sits hg k_o1_0
  unfold f_Hands_copyFrom at hf0
  show GW E L A 2 0 0 Q σ 0 [(0, .ref (ly_a L o)), (1, .ref (ly_a L o1))] []
  refine gw_aload_n C 0 d_Hands_copyFrom_0 rfl rfl ?_
  refine gw_getA C 0 d_Hands_copyFrom_1 k_o_0 (by decide) i_Hands rfl rfl (by decide) qw_186 rfl rfl (o + 1) rfl ?_
  refine gw_aload_n C 1 d_Hands_copyFrom_4 rfl rfl ?_
  refine gw_getA C 0 d_Hands_copyFrom_5 k_o1_0 (by decide) i_Hands rfl rfl (by decide) qw_186 rfl rfl (o1 + 1) rfl ?_
  obtain ⟨q8, hq8, hf0⟩ := mx_bd hf0
  refine gw_callV C (c_Row_copyFrom _ hg k_o_1 k_o1_1 hq8) d_Hands_copyFrom_8 1 qw_689 qw_682 qw_683 qw_4 qw_684 k_o_1 (by decide) rfl hd_Row_copyFrom rfl rfl (Nat.le_of_ble_eq_true rfl) ⟨rfl, rfl, Nat.le_of_ble_eq_true rfl, Nat.le_of_ble_eq_true rfl⟩ ⟨Nat.zero_le _, Nat.zero_le _⟩ ?_
  refine gw_aload_n C 0 d_Hands_copyFrom_11 rfl rfl ?_
  refine gw_getA C 1 d_Hands_copyFrom_12 k_o_0 (by decide) i_Hands rfl rfl (by decide) qw_191 rfl rfl (o + 3) rfl ?_
  refine gw_aload_n C 1 d_Hands_copyFrom_15 rfl rfl ?_
  refine gw_getA C 1 d_Hands_copyFrom_16 k_o1_0 (by decide) i_Hands rfl rfl (by decide) qw_191 rfl rfl (o1 + 3) rfl ?_
  obtain ⟨q19, hq19, hf0⟩ := mx_bd hf0
  refine gw_callV C (c_Row_copyFrom _ hg k_o_3 k_o1_3 hq19) d_Hands_copyFrom_19 1 qw_689 qw_682 qw_683 qw_4 qw_684 k_o_3 (by decide) rfl hd_Row_copyFrom rfl rfl (Nat.le_of_ble_eq_true rfl) ⟨rfl, rfl, Nat.le_of_ble_eq_true rfl, Nat.le_of_ble_eq_true rfl⟩ ⟨Nat.zero_le _, Nat.zero_le _⟩ ?_
  exact en_v hN hf0 d_Hands_copyFrom_22

/-! NameHat.State.copyFrom(LNameHat.State;)V -/
abbrev b_State_copyFrom : ByteArray := prog_10_method_4_code
def y_State_copyFrom : MethodName := ⟨"NameHat$State", "copyFrom", "(LNameHat$State;)V"⟩
abbrev rm_State_copyFrom : Room := { frames := 2, cells := 0, slots := 0, locals := 43 }
theorem hd_State_copyFrom : y_State_copyFrom.cls ≠ "java/lang/invoke/MethodHandle" ∧ y_State_copyFrom.cls ≠ "java/lang/invoke/VarHandle" ∧ (parseMethodDescriptor y_State_copyFrom.desc).map (fun d => d.parameters.length) = some 1 := by decide +kernel
theorem d_State_copyFrom_0 : decode b_State_copyFrom 0 = .ok (.aload_n 0, 1) := by decide +kernel
theorem d_State_copyFrom_1 : decode b_State_copyFrom 1 = .ok (.getfield 12, 3) := by decide +kernel
theorem d_State_copyFrom_4 : decode b_State_copyFrom 4 = .ok (.aload_n 1, 1) := by decide +kernel
theorem d_State_copyFrom_5 : decode b_State_copyFrom 5 = .ok (.getfield 12, 3) := by decide +kernel
theorem d_State_copyFrom_8 : decode b_State_copyFrom 8 = .ok (.invokevirtual 70, 3) := by decide +kernel
theorem d_State_copyFrom_11 : decode b_State_copyFrom 11 = .ok (.aload_n 0, 1) := by decide +kernel
theorem d_State_copyFrom_12 : decode b_State_copyFrom 12 = .ok (.getfield 21, 3) := by decide +kernel
theorem d_State_copyFrom_15 : decode b_State_copyFrom 15 = .ok (.aload_n 1, 1) := by decide +kernel
theorem d_State_copyFrom_16 : decode b_State_copyFrom 16 = .ok (.getfield 21, 3) := by decide +kernel
theorem d_State_copyFrom_19 : decode b_State_copyFrom 19 = .ok (.invokevirtual 74, 3) := by decide +kernel
theorem d_State_copyFrom_22 : decode b_State_copyFrom 22 = .ok (.aload_n 0, 1) := by decide +kernel
theorem d_State_copyFrom_23 : decode b_State_copyFrom 23 = .ok (.aload_n 1, 1) := by decide +kernel
theorem d_State_copyFrom_24 : decode b_State_copyFrom 24 = .ok (.getfield 54, 3) := by decide +kernel
theorem d_State_copyFrom_27 : decode b_State_copyFrom 27 = .ok (.putfield 54, 3) := by decide +kernel
theorem d_State_copyFrom_30 : decode b_State_copyFrom 30 = .ok (.aload_n 0, 1) := by decide +kernel
theorem d_State_copyFrom_31 : decode b_State_copyFrom 31 = .ok (.getfield 30, 3) := by decide +kernel
theorem d_State_copyFrom_34 : decode b_State_copyFrom 34 = .ok (.aload_n 1, 1) := by decide +kernel
theorem d_State_copyFrom_35 : decode b_State_copyFrom 35 = .ok (.getfield 30, 3) := by decide +kernel
theorem d_State_copyFrom_38 : decode b_State_copyFrom 38 = .ok (.invokevirtual 77, 3) := by decide +kernel
theorem d_State_copyFrom_41 : decode b_State_copyFrom 41 = .ok (.aload_n 0, 1) := by decide +kernel
theorem d_State_copyFrom_42 : decode b_State_copyFrom 42 = .ok (.getfield 34, 3) := by decide +kernel
theorem d_State_copyFrom_45 : decode b_State_copyFrom 45 = .ok (.aload_n 1, 1) := by decide +kernel
theorem d_State_copyFrom_46 : decode b_State_copyFrom 46 = .ok (.getfield 34, 3) := by decide +kernel
theorem d_State_copyFrom_49 : decode b_State_copyFrom 49 = .ok (.invokevirtual 77, 3) := by decide +kernel
theorem d_State_copyFrom_52 : decode b_State_copyFrom 52 = .ok (.aload_n 0, 1) := by decide +kernel
theorem d_State_copyFrom_53 : decode b_State_copyFrom 53 = .ok (.aload_n 1, 1) := by decide +kernel
theorem d_State_copyFrom_54 : decode b_State_copyFrom 54 = .ok (.getfield 67, 3) := by decide +kernel
theorem d_State_copyFrom_57 : decode b_State_copyFrom 57 = .ok (.putfield 67, 3) := by decide +kernel
theorem d_State_copyFrom_60 : decode b_State_copyFrom 60 = .ok (.aload_n 0, 1) := by decide +kernel
theorem d_State_copyFrom_61 : decode b_State_copyFrom 61 = .ok (.getfield 37, 3) := by decide +kernel
theorem d_State_copyFrom_64 : decode b_State_copyFrom 64 = .ok (.aload_n 1, 1) := by decide +kernel
theorem d_State_copyFrom_65 : decode b_State_copyFrom 65 = .ok (.getfield 37, 3) := by decide +kernel
theorem d_State_copyFrom_68 : decode b_State_copyFrom 68 = .ok (.invokevirtual 77, 3) := by decide +kernel
theorem d_State_copyFrom_71 : decode b_State_copyFrom 71 = .ok (.aload_n 0, 1) := by decide +kernel
theorem d_State_copyFrom_72 : decode b_State_copyFrom 72 = .ok (.aload_n 1, 1) := by decide +kernel
theorem d_State_copyFrom_73 : decode b_State_copyFrom 73 = .ok (.getfield 64, 3) := by decide +kernel
theorem d_State_copyFrom_76 : decode b_State_copyFrom 76 = .ok (.putfield 64, 3) := by decide +kernel
theorem d_State_copyFrom_79 : decode b_State_copyFrom 79 = .ok (.aload_n 0, 1) := by decide +kernel
theorem d_State_copyFrom_80 : decode b_State_copyFrom 80 = .ok (.getfield 40, 3) := by decide +kernel
theorem d_State_copyFrom_83 : decode b_State_copyFrom 83 = .ok (.aload_n 1, 1) := by decide +kernel
theorem d_State_copyFrom_84 : decode b_State_copyFrom 84 = .ok (.getfield 40, 3) := by decide +kernel
theorem d_State_copyFrom_87 : decode b_State_copyFrom 87 = .ok (.invokevirtual 77, 3) := by decide +kernel
theorem d_State_copyFrom_90 : decode b_State_copyFrom 90 = .ok (.aload_n 0, 1) := by decide +kernel
theorem d_State_copyFrom_91 : decode b_State_copyFrom 91 = .ok (.getfield 43, 3) := by decide +kernel
theorem d_State_copyFrom_94 : decode b_State_copyFrom 94 = .ok (.aload_n 1, 1) := by decide +kernel
theorem d_State_copyFrom_95 : decode b_State_copyFrom 95 = .ok (.getfield 43, 3) := by decide +kernel
theorem d_State_copyFrom_98 : decode b_State_copyFrom 98 = .ok (.invokevirtual 77, 3) := by decide +kernel
theorem d_State_copyFrom_101 : decode b_State_copyFrom 101 = .ok (.aload_n 0, 1) := by decide +kernel
theorem d_State_copyFrom_102 : decode b_State_copyFrom 102 = .ok (.getfield 46, 3) := by decide +kernel
theorem d_State_copyFrom_105 : decode b_State_copyFrom 105 = .ok (.aload_n 1, 1) := by decide +kernel
theorem d_State_copyFrom_106 : decode b_State_copyFrom 106 = .ok (.getfield 46, 3) := by decide +kernel
theorem d_State_copyFrom_109 : decode b_State_copyFrom 109 = .ok (.invokevirtual 77, 3) := by decide +kernel
theorem d_State_copyFrom_112 : decode b_State_copyFrom 112 = .ok (.return_, 1) := by decide +kernel
noncomputable def f_State_copyFrom (z : Nat → Nat) (σ : Mm) (o : Nat) (o1 : Nat) : Option (Mm) :=
  (f_Island_copyFrom z σ (o + 1) (o1 + 1)).bind fun q8 =>
  (f_Hands_copyFrom z q8 (o + 14) (o1 + 14)).bind fun q19 =>
  mm_lt (kI q19 o 2 (q19.1 o1 2)) fun m27 =>
  (f_Row_copyFrom z m27 (o + 23) (o1 + 23)).bind fun q38 =>
  (f_Row_copyFrom z q38 (o + 25) (o1 + 25)).bind fun q49 =>
  mm_lt (kI q49 o 5 (q49.1 o1 5)) fun m57 =>
  (f_Row_copyFrom z m57 (o + 27) (o1 + 27)).bind fun q68 =>
  mm_lt (kI q68 o 7 (q68.1 o1 7)) fun m76 =>
  (f_Row_copyFrom z m76 (o + 29) (o1 + 29)).bind fun q87 =>
  (f_Row_copyFrom z q87 (o + 31) (o1 + 31)).bind fun q98 =>
  (f_Row_copyFrom z q98 (o + 33) (o1 + 33)).bind fun q109 =>
  some q109
set_option maxHeartbeats 4000000 in
set_option maxRecDepth 100000 in
theorem c_State_copyFrom (l : Launch) {L : Ly} (hg : gd_ok L) {σ : Mm} {o : Nat} {o1 : Nat} (k_o_0 : ly_k L o = 4) (k_o1_0 : ly_k L o1 = 4) {res : Mm} (hf0 : f_State_copyFrom (ly_z L) σ o o1 = some res) : CtV l y_State_copyFrom b_State_copyFrom 2 (none) rm_State_copyFrom L [.ref (ly_a L o), .ref (ly_a L o1)] σ res := by
  refine ct_v hg (by decide) (Nat.le_of_ble_eq_true rfl) ?_
  intro E A Q hE C hN
  subst hE
  have k_o_1 : ly_k L (o + 1) = 2 := gd_State_island hg k_o_0
  have k_o1_1 : ly_k L (o1 + 1) = 2 := gd_State_island hg k_o1_0
  have k_o_14 : ly_k L (o + 14) = 3 := gd_State_hands hg k_o_0
  have k_o1_14 : ly_k L (o1 + 14) = 3 := gd_State_hands hg k_o1_0
  have k_o_23 : ly_k L (o + 23) = 0 := gd_State_ended hg k_o_0
  have k_o1_23 : ly_k L (o1 + 23) = 0 := gd_State_ended hg k_o1_0
  have k_o_25 : ly_k L (o + 25) = 0 := gd_State_drawn hg k_o_0
  have k_o1_25 : ly_k L (o1 + 25) = 0 := gd_State_drawn hg k_o1_0
  have k_o_27 : ly_k L (o + 27) = 0 := gd_State_fits hg k_o_0
  have k_o1_27 : ly_k L (o1 + 27) = 0 := gd_State_fits hg k_o1_0
  have k_o_29 : ly_k L (o + 29) = 0 := gd_State_bookWords hg k_o_0
  have k_o1_29 : ly_k L (o1 + 29) = 0 := gd_State_bookWords hg k_o1_0
  have k_o_31 : ly_k L (o + 31) = 0 := gd_State_bookFirsts hg k_o_0
  have k_o1_31 : ly_k L (o1 + 31) = 0 := gd_State_bookFirsts hg k_o1_0
  have k_o_33 : ly_k L (o + 33) = 0 := gd_State_bookSeconds hg k_o_0
  have k_o1_33 : ly_k L (o1 + 33) = 0 := gd_State_bookSeconds hg k_o1_0
  unfold f_State_copyFrom at hf0
  show GW E L A 2 0 0 Q σ 0 [(0, .ref (ly_a L o)), (1, .ref (ly_a L o1))] []
  refine gw_aload_n C 0 d_State_copyFrom_0 rfl rfl ?_
  refine gw_getA C 0 d_State_copyFrom_1 k_o_0 (by decide) i_State rfl rfl (by decide) qw_234 rfl rfl (o + 1) rfl ?_
  refine gw_aload_n C 1 d_State_copyFrom_4 rfl rfl ?_
  refine gw_getA C 0 d_State_copyFrom_5 k_o1_0 (by decide) i_State rfl rfl (by decide) qw_234 rfl rfl (o1 + 1) rfl ?_
  obtain ⟨q8, hq8, hf0⟩ := mx_bd hf0
  refine gw_callV C (c_Island_copyFrom _ hg k_o_1 k_o1_1 hq8) d_State_copyFrom_8 1 qw_673 qw_674 qw_675 qw_6 qw_676 k_o_1 (by decide) rfl hd_Island_copyFrom rfl rfl (Nat.le_of_ble_eq_true rfl) ⟨rfl, rfl, Nat.le_of_ble_eq_true rfl, Nat.le_of_ble_eq_true rfl⟩ ⟨Nat.zero_le _, Nat.zero_le _⟩ ?_
  refine gw_aload_n C 0 d_State_copyFrom_11 rfl rfl ?_
  refine gw_getA C 1 d_State_copyFrom_12 k_o_0 (by decide) i_State rfl rfl (by decide) qw_238 rfl rfl (o + 14) rfl ?_
  refine gw_aload_n C 1 d_State_copyFrom_15 rfl rfl ?_
  refine gw_getA C 1 d_State_copyFrom_16 k_o1_0 (by decide) i_State rfl rfl (by decide) qw_238 rfl rfl (o1 + 14) rfl ?_
  obtain ⟨q19, hq19, hf0⟩ := mx_bd hf0
  refine gw_callV C (c_Hands_copyFrom _ hg k_o_14 k_o1_14 hq19) d_State_copyFrom_19 1 qw_685 qw_686 qw_687 qw_8 qw_688 k_o_14 (by decide) rfl hd_Hands_copyFrom rfl rfl (Nat.le_of_ble_eq_true rfl) ⟨rfl, rfl, Nat.le_of_ble_eq_true rfl, Nat.le_of_ble_eq_true rfl⟩ ⟨Nat.zero_le _, Nat.zero_le _⟩ ?_
  refine gw_aload_n C 0 d_State_copyFrom_22 rfl rfl ?_
  refine gw_aload_n C 1 d_State_copyFrom_23 rfl rfl ?_
  refine gw_getI C 2 d_State_copyFrom_24 k_o1_0 (by decide) i_State rfl rfl (by decide) qw_241 rfl rfl ?_
  obtain ⟨m27, em27, hf0⟩ := mx_lt hf0
  refine gw_putI t_State C 2 d_State_copyFrom_27 k_o_0 (by decide) i_State rfl rfl (by decide) qw_241 rfl rfl t_State_ok n_State rfl (t_State_ok 2 (by decide)) rfl rfl em27 ?_
  refine gw_aload_n C 0 d_State_copyFrom_30 rfl rfl ?_
  refine gw_getA C 3 d_State_copyFrom_31 k_o_0 (by decide) i_State rfl rfl (by decide) qw_243 rfl rfl (o + 23) rfl ?_
  refine gw_aload_n C 1 d_State_copyFrom_34 rfl rfl ?_
  refine gw_getA C 3 d_State_copyFrom_35 k_o1_0 (by decide) i_State rfl rfl (by decide) qw_243 rfl rfl (o1 + 23) rfl ?_
  obtain ⟨q38, hq38, hf0⟩ := mx_bd hf0
  refine gw_callV C (c_Row_copyFrom _ hg k_o_23 k_o1_23 hq38) d_State_copyFrom_38 1 qw_690 qw_682 qw_683 qw_4 qw_684 k_o_23 (by decide) rfl hd_Row_copyFrom rfl rfl (Nat.le_of_ble_eq_true rfl) ⟨rfl, rfl, Nat.le_of_ble_eq_true rfl, Nat.le_of_ble_eq_true rfl⟩ ⟨Nat.zero_le _, Nat.zero_le _⟩ ?_
  refine gw_aload_n C 0 d_State_copyFrom_41 rfl rfl ?_
  refine gw_getA C 4 d_State_copyFrom_42 k_o_0 (by decide) i_State rfl rfl (by decide) qw_244 rfl rfl (o + 25) rfl ?_
  refine gw_aload_n C 1 d_State_copyFrom_45 rfl rfl ?_
  refine gw_getA C 4 d_State_copyFrom_46 k_o1_0 (by decide) i_State rfl rfl (by decide) qw_244 rfl rfl (o1 + 25) rfl ?_
  obtain ⟨q49, hq49, hf0⟩ := mx_bd hf0
  refine gw_callV C (c_Row_copyFrom _ hg k_o_25 k_o1_25 hq49) d_State_copyFrom_49 1 qw_690 qw_682 qw_683 qw_4 qw_684 k_o_25 (by decide) rfl hd_Row_copyFrom rfl rfl (Nat.le_of_ble_eq_true rfl) ⟨rfl, rfl, Nat.le_of_ble_eq_true rfl, Nat.le_of_ble_eq_true rfl⟩ ⟨Nat.zero_le _, Nat.zero_le _⟩ ?_
  refine gw_aload_n C 0 d_State_copyFrom_52 rfl rfl ?_
  refine gw_aload_n C 1 d_State_copyFrom_53 rfl rfl ?_
  refine gw_getI C 5 d_State_copyFrom_54 k_o1_0 (by decide) i_State rfl rfl (by decide) qw_245 rfl rfl ?_
  obtain ⟨m57, em57, hf0⟩ := mx_lt hf0
  refine gw_putI t_State C 5 d_State_copyFrom_57 k_o_0 (by decide) i_State rfl rfl (by decide) qw_245 rfl rfl t_State_ok n_State rfl (t_State_ok 5 (by decide)) rfl rfl em57 ?_
  refine gw_aload_n C 0 d_State_copyFrom_60 rfl rfl ?_
  refine gw_getA C 6 d_State_copyFrom_61 k_o_0 (by decide) i_State rfl rfl (by decide) qw_248 rfl rfl (o + 27) rfl ?_
  refine gw_aload_n C 1 d_State_copyFrom_64 rfl rfl ?_
  refine gw_getA C 6 d_State_copyFrom_65 k_o1_0 (by decide) i_State rfl rfl (by decide) qw_248 rfl rfl (o1 + 27) rfl ?_
  obtain ⟨q68, hq68, hf0⟩ := mx_bd hf0
  refine gw_callV C (c_Row_copyFrom _ hg k_o_27 k_o1_27 hq68) d_State_copyFrom_68 1 qw_690 qw_682 qw_683 qw_4 qw_684 k_o_27 (by decide) rfl hd_Row_copyFrom rfl rfl (Nat.le_of_ble_eq_true rfl) ⟨rfl, rfl, Nat.le_of_ble_eq_true rfl, Nat.le_of_ble_eq_true rfl⟩ ⟨Nat.zero_le _, Nat.zero_le _⟩ ?_
  refine gw_aload_n C 0 d_State_copyFrom_71 rfl rfl ?_
  refine gw_aload_n C 1 d_State_copyFrom_72 rfl rfl ?_
  refine gw_getI C 7 d_State_copyFrom_73 k_o1_0 (by decide) i_State rfl rfl (by decide) qw_252 rfl rfl ?_
  obtain ⟨m76, em76, hf0⟩ := mx_lt hf0
  refine gw_putI t_State C 7 d_State_copyFrom_76 k_o_0 (by decide) i_State rfl rfl (by decide) qw_252 rfl rfl t_State_ok n_State rfl (t_State_ok 7 (by decide)) rfl rfl em76 ?_
  refine gw_aload_n C 0 d_State_copyFrom_79 rfl rfl ?_
  refine gw_getA C 8 d_State_copyFrom_80 k_o_0 (by decide) i_State rfl rfl (by decide) qw_255 rfl rfl (o + 29) rfl ?_
  refine gw_aload_n C 1 d_State_copyFrom_83 rfl rfl ?_
  refine gw_getA C 8 d_State_copyFrom_84 k_o1_0 (by decide) i_State rfl rfl (by decide) qw_255 rfl rfl (o1 + 29) rfl ?_
  obtain ⟨q87, hq87, hf0⟩ := mx_bd hf0
  refine gw_callV C (c_Row_copyFrom _ hg k_o_29 k_o1_29 hq87) d_State_copyFrom_87 1 qw_690 qw_682 qw_683 qw_4 qw_684 k_o_29 (by decide) rfl hd_Row_copyFrom rfl rfl (Nat.le_of_ble_eq_true rfl) ⟨rfl, rfl, Nat.le_of_ble_eq_true rfl, Nat.le_of_ble_eq_true rfl⟩ ⟨Nat.zero_le _, Nat.zero_le _⟩ ?_
  refine gw_aload_n C 0 d_State_copyFrom_90 rfl rfl ?_
  refine gw_getA C 9 d_State_copyFrom_91 k_o_0 (by decide) i_State rfl rfl (by decide) qw_258 rfl rfl (o + 31) rfl ?_
  refine gw_aload_n C 1 d_State_copyFrom_94 rfl rfl ?_
  refine gw_getA C 9 d_State_copyFrom_95 k_o1_0 (by decide) i_State rfl rfl (by decide) qw_258 rfl rfl (o1 + 31) rfl ?_
  obtain ⟨q98, hq98, hf0⟩ := mx_bd hf0
  refine gw_callV C (c_Row_copyFrom _ hg k_o_31 k_o1_31 hq98) d_State_copyFrom_98 1 qw_690 qw_682 qw_683 qw_4 qw_684 k_o_31 (by decide) rfl hd_Row_copyFrom rfl rfl (Nat.le_of_ble_eq_true rfl) ⟨rfl, rfl, Nat.le_of_ble_eq_true rfl, Nat.le_of_ble_eq_true rfl⟩ ⟨Nat.zero_le _, Nat.zero_le _⟩ ?_
  refine gw_aload_n C 0 d_State_copyFrom_101 rfl rfl ?_
  refine gw_getA C 10 d_State_copyFrom_102 k_o_0 (by decide) i_State rfl rfl (by decide) qw_261 rfl rfl (o + 33) rfl ?_
  refine gw_aload_n C 1 d_State_copyFrom_105 rfl rfl ?_
  refine gw_getA C 10 d_State_copyFrom_106 k_o1_0 (by decide) i_State rfl rfl (by decide) qw_261 rfl rfl (o1 + 33) rfl ?_
  obtain ⟨q109, hq109, hf0⟩ := mx_bd hf0
  refine gw_callV C (c_Row_copyFrom _ hg k_o_33 k_o1_33 hq109) d_State_copyFrom_109 1 qw_690 qw_682 qw_683 qw_4 qw_684 k_o_33 (by decide) rfl hd_Row_copyFrom rfl rfl (Nat.le_of_ble_eq_true rfl) ⟨rfl, rfl, Nat.le_of_ble_eq_true rfl, Nat.le_of_ble_eq_true rfl⟩ ⟨Nat.zero_le _, Nat.zero_le _⟩ ?_
  exact en_v hN hf0 d_State_copyFrom_112
