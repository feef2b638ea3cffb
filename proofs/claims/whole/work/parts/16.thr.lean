/-! Hat_surname, which may throw -/
abbrev b_Hat_surname : ByteArray := prog_1_method_10_code
def y_Hat_surname : MethodName := ⟨"NameHat", "surname", "(II)I"⟩
abbrev rm_Hat_surname : Room := { frames := 6, cells := 1, slots := 6, locals := 82 }
theorem hd_Hat_surname : y_Hat_surname.cls ≠ "java/lang/invoke/MethodHandle" ∧ y_Hat_surname.cls ≠ "java/lang/invoke/VarHandle" ∧ (parseMethodDescriptor y_Hat_surname.desc).map (fun d => d.parameters.length) = some 2 := by decide +kernel
theorem d_Hat_surname_0 : decode b_Hat_surname 0 = .ok (.aload_n 0, 1) := by decide +kernel
theorem d_Hat_surname_1 : decode b_Hat_surname 1 = .ok (.getfield 57, 3) := by decide +kernel
theorem d_Hat_surname_4 : decode b_Hat_surname 4 = .ok (.getfield 121, 3) := by decide +kernel
theorem d_Hat_surname_7 : decode b_Hat_surname 7 = .ok (.getfield 125, 3) := by decide +kernel
theorem d_Hat_surname_10 : decode b_Hat_surname 10 = .ok (.iload_n 1, 1) := by decide +kernel
theorem d_Hat_surname_11 : decode b_Hat_surname 11 = .ok (.invokevirtual 131, 3) := by decide +kernel
theorem d_Hat_surname_14 : decode b_Hat_surname 14 = .ok (.ifCond .eq 12, 3) := by decide +kernel
theorem d_Hat_surname_17 : decode b_Hat_surname 17 = .ok (.iload_n 2, 1) := by decide +kernel
theorem d_Hat_surname_18 : decode b_Hat_surname 18 = .ok (.ifCond .lt 8, 3) := by decide +kernel
theorem d_Hat_surname_21 : decode b_Hat_surname 21 = .ok (.iload_n 2, 1) := by decide +kernel
theorem d_Hat_surname_22 : decode b_Hat_surname 22 = .ok (.iconst 3, 1) := by decide +kernel
theorem d_Hat_surname_23 : decode b_Hat_surname 23 = .ok (.if_icmp .le 13, 3) := by decide +kernel
theorem d_Hat_surname_26 : decode b_Hat_surname 26 = .ok (.new 137, 3) := by decide +kernel
theorem d_Hat_surname_29 : decode b_Hat_surname 29 = .ok (.dup, 1) := by decide +kernel
theorem d_Hat_surname_30 : decode b_Hat_surname 30 = .ok (.ldc 139, 2) := by decide +kernel
theorem d_Hat_surname_32 : decode b_Hat_surname 32 = .ok (.invokespecial 141, 3) := by decide +kernel
theorem d_Hat_surname_35 : decode b_Hat_surname 35 = .ok (.athrow, 1) := by decide +kernel
theorem d_Hat_surname_36 : decode b_Hat_surname 36 = .ok (.iload_n 2, 1) := by decide +kernel
theorem d_Hat_surname_37 : decode b_Hat_surname 37 = .ok (.ifCond .ne 18, 3) := by decide +kernel
theorem d_Hat_surname_40 : decode b_Hat_surname 40 = .ok (.aload_n 0, 1) := by decide +kernel
theorem d_Hat_surname_41 : decode b_Hat_surname 41 = .ok (.getfield 57, 3) := by decide +kernel
theorem d_Hat_surname_44 : decode b_Hat_surname 44 = .ok (.getfield 121, 3) := by decide +kernel
theorem d_Hat_surname_47 : decode b_Hat_surname 47 = .ok (.getfield 144, 3) := by decide +kernel
theorem d_Hat_surname_50 : decode b_Hat_surname 50 = .ok (.iload_n 1, 1) := by decide +kernel
theorem d_Hat_surname_51 : decode b_Hat_surname 51 = .ok (.invokevirtual 147, 3) := by decide +kernel
theorem d_Hat_surname_54 : decode b_Hat_surname 54 = .ok (.ireturn, 1) := by decide +kernel
theorem d_Hat_surname_55 : decode b_Hat_surname 55 = .ok (.iload_n 2, 1) := by decide +kernel
theorem d_Hat_surname_56 : decode b_Hat_surname 56 = .ok (.iconst 1, 1) := by decide +kernel
theorem d_Hat_surname_57 : decode b_Hat_surname 57 = .ok (.if_icmp .ne 18, 3) := by decide +kernel
theorem d_Hat_surname_60 : decode b_Hat_surname 60 = .ok (.aload_n 0, 1) := by decide +kernel
theorem d_Hat_surname_61 : decode b_Hat_surname 61 = .ok (.getfield 57, 3) := by decide +kernel
theorem d_Hat_surname_64 : decode b_Hat_surname 64 = .ok (.getfield 121, 3) := by decide +kernel
theorem d_Hat_surname_67 : decode b_Hat_surname 67 = .ok (.getfield 151, 3) := by decide +kernel
theorem d_Hat_surname_70 : decode b_Hat_surname 70 = .ok (.iload_n 1, 1) := by decide +kernel
theorem d_Hat_surname_71 : decode b_Hat_surname 71 = .ok (.invokevirtual 147, 3) := by decide +kernel
theorem d_Hat_surname_74 : decode b_Hat_surname 74 = .ok (.ireturn, 1) := by decide +kernel
theorem d_Hat_surname_75 : decode b_Hat_surname 75 = .ok (.iload_n 2, 1) := by decide +kernel
theorem d_Hat_surname_76 : decode b_Hat_surname 76 = .ok (.iconst 2, 1) := by decide +kernel
theorem d_Hat_surname_77 : decode b_Hat_surname 77 = .ok (.if_icmp .ne 17, 3) := by decide +kernel
theorem d_Hat_surname_80 : decode b_Hat_surname 80 = .ok (.aload_n 0, 1) := by decide +kernel
theorem d_Hat_surname_81 : decode b_Hat_surname 81 = .ok (.getfield 57, 3) := by decide +kernel
theorem d_Hat_surname_84 : decode b_Hat_surname 84 = .ok (.getfield 154, 3) := by decide +kernel
theorem d_Hat_surname_87 : decode b_Hat_surname 87 = .ok (.iload_n 1, 1) := by decide +kernel
theorem d_Hat_surname_88 : decode b_Hat_surname 88 = .ok (.invokevirtual 158, 3) := by decide +kernel
theorem d_Hat_surname_91 : decode b_Hat_surname 91 = .ok (.goto 17, 3) := by decide +kernel
theorem d_Hat_surname_94 : decode b_Hat_surname 94 = .ok (.aload_n 0, 1) := by decide +kernel
theorem d_Hat_surname_95 : decode b_Hat_surname 95 = .ok (.getfield 57, 3) := by decide +kernel
theorem d_Hat_surname_98 : decode b_Hat_surname 98 = .ok (.getfield 121, 3) := by decide +kernel
theorem d_Hat_surname_101 : decode b_Hat_surname 101 = .ok (.getfield 163, 3) := by decide +kernel
theorem d_Hat_surname_104 : decode b_Hat_surname 104 = .ok (.iload_n 1, 1) := by decide +kernel
theorem d_Hat_surname_105 : decode b_Hat_surname 105 = .ok (.invokevirtual 147, 3) := by decide +kernel
theorem d_Hat_surname_108 : decode b_Hat_surname 108 = .ok (.ireturn, 1) := by decide +kernel
noncomputable def f_Hat_surname (z : Nat → Nat) (σ : Mm) (o : Nat) (p1 : Int32) (p2 : Int32) : Option (Option (Int32 × Mm)) :=
  (f_Names_has z σ (o + 62) p1).bind fun q11 =>
  if q11 = 0 then (
    some none
  ) else (
    if p2 < 0 then (
      some none
    ) else (
      if p2 ≤ (3 : Int32) then (
        if p2 = 0 then (
          (f_Row_at z σ (o + 66) p1).bind fun q51 =>
          some (some (q51, σ))
        ) else (
          if p2 = (1 : Int32) then (
            (f_Row_at z σ (o + 68) p1).bind fun q71 =>
            some (some (q71, σ))
          ) else (
            if p2 = (2 : Int32) then (
              (f_Hands_holderOf z σ (o + 74) p1).bind fun q88 =>
              some (some (q88, σ))
            ) else (
              (f_Row_at z σ (o + 70) p1).bind fun q105 =>
              some (some (q105, σ))
            )
          )
        )
      ) else (
        some none
      )
    )
  )
set_option maxHeartbeats 4000000 in
set_option maxRecDepth 100000 in
theorem c_Hat_surname (l : Launch) (hl : l.stackTraces = false) {L : Ly} (hg : gd_ok L) {σ : Mm} {o : Nat} {p1 : Int32} {p2 : Int32} (k_o_0 : ly_k L o = 10) {res : Option (Int32 × Mm)} (hf0 : f_Hat_surname (ly_z L) σ o p1 p2 = some res) : CxI l y_Hat_surname b_Hat_surname 3 rm_Hat_surname L [.ref (ly_a L o), .int p1, .int p2] σ res := by
  refine ct_xi hl hg (by decide) rfl (Nat.le_of_ble_eq_true rfl) ⟨rfl, rfl, Nat.le_of_ble_eq_true rfl, Nat.le_of_ble_eq_true rfl⟩ ?_
  intro E A Q hE C hN hX
  subst hE
  have k_o_60 : ly_k L (o + 60) = 4 := gd_Hat_now hg k_o_0
  have k_o_61 : ly_k L (o + 61) = 2 := gd_State_island hg k_o_60
  have k_o_62 : ly_k L (o + 62) = 1 := gd_Island_surnames hg k_o_61
  have k_o_70 : ly_k L (o + 70) = 0 := gd_Island_feuds hg k_o_61
  have k_o_74 : ly_k L (o + 74) = 3 := gd_State_hands hg k_o_60
  have k_o_68 : ly_k L (o + 68) = 0 := gd_Island_kinds hg k_o_61
  have k_o_66 : ly_k L (o + 66) = 0 := gd_Island_worths hg k_o_61
  unfold f_Hat_surname at hf0
  show GW E L A 3 0 0 Q σ 0 [(0, .ref (ly_a L o)), (1, .int p1), (2, .int p2)] []
  refine gw_aload_n C 0 d_Hat_surname_0 rfl rfl ?_
  refine gw_getA C 7 d_Hat_surname_1 k_o_0 (by decide) i_Hat rfl rfl (by decide) qw_410 rfl rfl (o + 60) rfl ?_
  refine gw_getAN C 0 d_Hat_surname_4 k_o_60 (by decide) i_State rfl rfl (by decide) qw_237 rfl rfl (o + 61) rfl ?_
  refine gw_getAN C 0 d_Hat_surname_7 k_o_61 (by decide) i_Island rfl rfl (by decide) qw_128 rfl rfl (o + 62) rfl ?_
  refine gw_iload_n C 1 d_Hat_surname_10 rfl rfl ?_
  obtain ⟨q11, hq11, hf0⟩ := mx_bd hf0
  refine gw_callI C (c_Names_has _ hg k_o_62 hq11) d_Hat_surname_11 1 qw_754 qw_738 qw_739 qw_7 qw_740 k_o_62 (by decide) rfl hd_Names_has rfl rfl (Nat.le_of_ble_eq_true rfl) ⟨rfl, rfl, Nat.le_of_ble_eq_true rfl, Nat.le_of_ble_eq_true rfl⟩ ⟨Nat.zero_le _, Nat.zero_le _⟩ ?_
  refine gw_if_eq C 26 d_Hat_surname_14 (by decide) (fun hc => ?_) (fun hc => ?_)
  · replace hf0 := mx_t hc hf0
    have hr9 : res = none := (Option.some.inj hf0).symm
    exact hX hr9 26 _ 139 _ (List.mem_of_getElem? (i := 0) rfl) d_Hat_surname_26 d_Hat_surname_29 (Or.inl ⟨d_Hat_surname_30, d_Hat_surname_32, d_Hat_surname_35⟩)
  · replace hf0 := mx_f hc hf0
    refine gw_iload_n C 2 d_Hat_surname_17 rfl rfl ?_
    refine gw_if_lt C 26 d_Hat_surname_18 (by decide) (fun hc => ?_) (fun hc => ?_)
    · replace hf0 := mx_t hc hf0
      have hr9 : res = none := (Option.some.inj hf0).symm
      exact hX hr9 26 _ 139 _ (List.mem_of_getElem? (i := 0) rfl) d_Hat_surname_26 d_Hat_surname_29 (Or.inl ⟨d_Hat_surname_30, d_Hat_surname_32, d_Hat_surname_35⟩)
    · replace hf0 := mx_f hc hf0
      refine gw_iload_n C 2 d_Hat_surname_21 rfl rfl ?_
      refine gw_iconst C (3 : Int32) d_Hat_surname_22 (by decide) ?_
      refine gw_icmp_le C 36 d_Hat_surname_23 (by decide) (fun hc => ?_) (fun hc => ?_)
      · replace hf0 := mx_t hc hf0
        refine gw_iload_n C 2 d_Hat_surname_36 rfl rfl ?_
        refine gw_if_ne C 55 d_Hat_surname_37 (by decide) (fun hc => ?_) (fun hc => ?_)
        · replace hf0 := mx_f hc hf0
          refine gw_iload_n C 2 d_Hat_surname_55 rfl rfl ?_
          refine gw_iconst C (1 : Int32) d_Hat_surname_56 (by decide) ?_
          refine gw_icmp_ne C 75 d_Hat_surname_57 (by decide) (fun hc => ?_) (fun hc => ?_)
          · replace hf0 := mx_f hc hf0
            refine gw_iload_n C 2 d_Hat_surname_75 rfl rfl ?_
            refine gw_iconst C (2 : Int32) d_Hat_surname_76 (by decide) ?_
            refine gw_icmp_ne C 94 d_Hat_surname_77 (by decide) (fun hc => ?_) (fun hc => ?_)
            · replace hf0 := mx_f hc hf0
              refine gw_aload_n C 0 d_Hat_surname_94 rfl rfl ?_
              refine gw_getA C 7 d_Hat_surname_95 k_o_0 (by decide) i_Hat rfl rfl (by decide) qw_410 rfl rfl (o + 60) rfl ?_
              refine gw_getAN C 0 d_Hat_surname_98 k_o_60 (by decide) i_State rfl rfl (by decide) qw_237 rfl rfl (o + 61) rfl ?_
              refine gw_getAN C 4 d_Hat_surname_101 k_o_61 (by decide) i_Island rfl rfl (by decide) qw_145 rfl rfl (o + 70) rfl ?_
              refine gw_iload_n C 1 d_Hat_surname_104 rfl rfl ?_
              obtain ⟨q105, hq105, hf0⟩ := mx_bd hf0
              refine gw_callI C (c_Row_at _ hg k_o_70 hq105) d_Hat_surname_105 1 qw_755 qw_489 qw_490 qw_4 qw_491 k_o_70 (by decide) rfl hd_Row_at rfl rfl (Nat.le_of_ble_eq_true rfl) ⟨rfl, rfl, Nat.le_of_ble_eq_true rfl, Nat.le_of_ble_eq_true rfl⟩ ⟨Nat.zero_le _, Nat.zero_le _⟩ ?_
              exact hN _ _ _ _ (Option.some.inj hf0).symm d_Hat_surname_108
            · replace hf0 := mx_t hc hf0
              refine gw_aload_n C 0 d_Hat_surname_80 rfl rfl ?_
              refine gw_getA C 7 d_Hat_surname_81 k_o_0 (by decide) i_Hat rfl rfl (by decide) qw_410 rfl rfl (o + 60) rfl ?_
              refine gw_getAN C 1 d_Hat_surname_84 k_o_60 (by decide) i_State rfl rfl (by decide) qw_239 rfl rfl (o + 74) rfl ?_
              refine gw_iload_n C 1 d_Hat_surname_87 rfl rfl ?_
              obtain ⟨q88, hq88, hf0⟩ := mx_bd hf0
              refine gw_callI C (c_Hands_holderOf _ hg k_o_74 hq88) d_Hat_surname_88 1 qw_1062 qw_606 qw_607 qw_8 qw_608 k_o_74 (by decide) rfl hd_Hands_holderOf rfl rfl (Nat.le_of_ble_eq_true rfl) ⟨rfl, rfl, Nat.le_of_ble_eq_true rfl, Nat.le_of_ble_eq_true rfl⟩ ⟨Nat.zero_le _, Nat.zero_le _⟩ ?_
              refine gw_goto C 108 d_Hat_surname_91 (by decide) ?_
              exact hN _ _ _ _ (Option.some.inj hf0).symm d_Hat_surname_108
          · replace hf0 := mx_t hc hf0
            refine gw_aload_n C 0 d_Hat_surname_60 rfl rfl ?_
            refine gw_getA C 7 d_Hat_surname_61 k_o_0 (by decide) i_Hat rfl rfl (by decide) qw_410 rfl rfl (o + 60) rfl ?_
            refine gw_getAN C 0 d_Hat_surname_64 k_o_60 (by decide) i_State rfl rfl (by decide) qw_237 rfl rfl (o + 61) rfl ?_
            refine gw_getAN C 3 d_Hat_surname_67 k_o_61 (by decide) i_Island rfl rfl (by decide) qw_142 rfl rfl (o + 68) rfl ?_
            refine gw_iload_n C 1 d_Hat_surname_70 rfl rfl ?_
            obtain ⟨q71, hq71, hf0⟩ := mx_bd hf0
            refine gw_callI C (c_Row_at _ hg k_o_68 hq71) d_Hat_surname_71 1 qw_755 qw_489 qw_490 qw_4 qw_491 k_o_68 (by decide) rfl hd_Row_at rfl rfl (Nat.le_of_ble_eq_true rfl) ⟨rfl, rfl, Nat.le_of_ble_eq_true rfl, Nat.le_of_ble_eq_true rfl⟩ ⟨Nat.zero_le _, Nat.zero_le _⟩ ?_
            exact hN _ _ _ _ (Option.some.inj hf0).symm d_Hat_surname_74
        · replace hf0 := mx_t hc hf0
          refine gw_aload_n C 0 d_Hat_surname_40 rfl rfl ?_
          refine gw_getA C 7 d_Hat_surname_41 k_o_0 (by decide) i_Hat rfl rfl (by decide) qw_410 rfl rfl (o + 60) rfl ?_
          refine gw_getAN C 0 d_Hat_surname_44 k_o_60 (by decide) i_State rfl rfl (by decide) qw_237 rfl rfl (o + 61) rfl ?_
          refine gw_getAN C 2 d_Hat_surname_47 k_o_61 (by decide) i_Island rfl rfl (by decide) qw_139 rfl rfl (o + 66) rfl ?_
          refine gw_iload_n C 1 d_Hat_surname_50 rfl rfl ?_
          obtain ⟨q51, hq51, hf0⟩ := mx_bd hf0
          refine gw_callI C (c_Row_at _ hg k_o_66 hq51) d_Hat_surname_51 1 qw_755 qw_489 qw_490 qw_4 qw_491 k_o_66 (by decide) rfl hd_Row_at rfl rfl (Nat.le_of_ble_eq_true rfl) ⟨rfl, rfl, Nat.le_of_ble_eq_true rfl, Nat.le_of_ble_eq_true rfl⟩ ⟨Nat.zero_le _, Nat.zero_le _⟩ ?_
          exact hN _ _ _ _ (Option.some.inj hf0).symm d_Hat_surname_54
      · replace hf0 := mx_f hc hf0
        have hr9 : res = none := (Option.some.inj hf0).symm
        exact hX hr9 26 _ 139 _ (List.mem_of_getElem? (i := 0) rfl) d_Hat_surname_26 d_Hat_surname_29 (Or.inl ⟨d_Hat_surname_30, d_Hat_surname_32, d_Hat_surname_35⟩)

/-! Hat_house, which may throw -/
abbrev b_Hat_house : ByteArray := prog_1_method_11_code
def y_Hat_house : MethodName := ⟨"NameHat", "house", "(II)I"⟩
abbrev rm_Hat_house : Room := { frames := 6, cells := 1, slots := 6, locals := 82 }
theorem hd_Hat_house : y_Hat_house.cls ≠ "java/lang/invoke/MethodHandle" ∧ y_Hat_house.cls ≠ "java/lang/invoke/VarHandle" ∧ (parseMethodDescriptor y_Hat_house.desc).map (fun d => d.parameters.length) = some 2 := by decide +kernel
theorem d_Hat_house_0 : decode b_Hat_house 0 = .ok (.aload_n 0, 1) := by decide +kernel
theorem d_Hat_house_1 : decode b_Hat_house 1 = .ok (.getfield 57, 3) := by decide +kernel
theorem d_Hat_house_4 : decode b_Hat_house 4 = .ok (.getfield 121, 3) := by decide +kernel
theorem d_Hat_house_7 : decode b_Hat_house 7 = .ok (.getfield 166, 3) := by decide +kernel
theorem d_Hat_house_10 : decode b_Hat_house 10 = .ok (.iload_n 1, 1) := by decide +kernel
theorem d_Hat_house_11 : decode b_Hat_house 11 = .ok (.invokevirtual 131, 3) := by decide +kernel
theorem d_Hat_house_14 : decode b_Hat_house 14 = .ok (.ifCond .eq 12, 3) := by decide +kernel
theorem d_Hat_house_17 : decode b_Hat_house 17 = .ok (.iload_n 2, 1) := by decide +kernel
theorem d_Hat_house_18 : decode b_Hat_house 18 = .ok (.ifCond .lt 8, 3) := by decide +kernel
theorem d_Hat_house_21 : decode b_Hat_house 21 = .ok (.iload_n 2, 1) := by decide +kernel
theorem d_Hat_house_22 : decode b_Hat_house 22 = .ok (.iconst 1, 1) := by decide +kernel
theorem d_Hat_house_23 : decode b_Hat_house 23 = .ok (.if_icmp .le 13, 3) := by decide +kernel
theorem d_Hat_house_26 : decode b_Hat_house 26 = .ok (.new 137, 3) := by decide +kernel
theorem d_Hat_house_29 : decode b_Hat_house 29 = .ok (.dup, 1) := by decide +kernel
theorem d_Hat_house_30 : decode b_Hat_house 30 = .ok (.ldc 169, 2) := by decide +kernel
theorem d_Hat_house_32 : decode b_Hat_house 32 = .ok (.invokespecial 141, 3) := by decide +kernel
theorem d_Hat_house_35 : decode b_Hat_house 35 = .ok (.athrow, 1) := by decide +kernel
theorem d_Hat_house_36 : decode b_Hat_house 36 = .ok (.iload_n 2, 1) := by decide +kernel
theorem d_Hat_house_37 : decode b_Hat_house 37 = .ok (.ifCond .ne 20, 3) := by decide +kernel
theorem d_Hat_house_40 : decode b_Hat_house 40 = .ok (.aload_n 0, 1) := by decide +kernel
theorem d_Hat_house_41 : decode b_Hat_house 41 = .ok (.getfield 57, 3) := by decide +kernel
theorem d_Hat_house_44 : decode b_Hat_house 44 = .ok (.getfield 154, 3) := by decide +kernel
theorem d_Hat_house_47 : decode b_Hat_house 47 = .ok (.getfield 171, 3) := by decide +kernel
theorem d_Hat_house_50 : decode b_Hat_house 50 = .ok (.iload_n 1, 1) := by decide +kernel
theorem d_Hat_house_51 : decode b_Hat_house 51 = .ok (.invokevirtual 147, 3) := by decide +kernel
theorem d_Hat_house_54 : decode b_Hat_house 54 = .ok (.goto 17, 3) := by decide +kernel
theorem d_Hat_house_57 : decode b_Hat_house 57 = .ok (.aload_n 0, 1) := by decide +kernel
theorem d_Hat_house_58 : decode b_Hat_house 58 = .ok (.getfield 57, 3) := by decide +kernel
theorem d_Hat_house_61 : decode b_Hat_house 61 = .ok (.getfield 154, 3) := by decide +kernel
theorem d_Hat_house_64 : decode b_Hat_house 64 = .ok (.getfield 174, 3) := by decide +kernel
theorem d_Hat_house_67 : decode b_Hat_house 67 = .ok (.iload_n 1, 1) := by decide +kernel
theorem d_Hat_house_68 : decode b_Hat_house 68 = .ok (.invokevirtual 147, 3) := by decide +kernel
theorem d_Hat_house_71 : decode b_Hat_house 71 = .ok (.ireturn, 1) := by decide +kernel
noncomputable def f_Hat_house (z : Nat → Nat) (σ : Mm) (o : Nat) (p1 : Int32) (p2 : Int32) : Option (Option (Int32 × Mm)) :=
  (f_Names_has z σ (o + 64) p1).bind fun q11 =>
  if q11 = 0 then (
    some none
  ) else (
    if p2 < 0 then (
      some none
    ) else (
      if p2 ≤ (1 : Int32) then (
        if p2 = 0 then (
          (f_Row_at z σ (o + 75) p1).bind fun q51 =>
          some (some (q51, σ))
        ) else (
          (f_Row_at z σ (o + 77) p1).bind fun q68 =>
          some (some (q68, σ))
        )
      ) else (
        some none
      )
    )
  )
set_option maxHeartbeats 4000000 in
set_option maxRecDepth 100000 in
theorem c_Hat_house (l : Launch) (hl : l.stackTraces = false) {L : Ly} (hg : gd_ok L) {σ : Mm} {o : Nat} {p1 : Int32} {p2 : Int32} (k_o_0 : ly_k L o = 10) {res : Option (Int32 × Mm)} (hf0 : f_Hat_house (ly_z L) σ o p1 p2 = some res) : CxI l y_Hat_house b_Hat_house 3 rm_Hat_house L [.ref (ly_a L o), .int p1, .int p2] σ res := by
  refine ct_xi hl hg (by decide) rfl (Nat.le_of_ble_eq_true rfl) ⟨rfl, rfl, Nat.le_of_ble_eq_true rfl, Nat.le_of_ble_eq_true rfl⟩ ?_
  intro E A Q hE C hN hX
  subst hE
  have k_o_60 : ly_k L (o + 60) = 4 := gd_Hat_now hg k_o_0
  have k_o_61 : ly_k L (o + 61) = 2 := gd_State_island hg k_o_60
  have k_o_64 : ly_k L (o + 64) = 1 := gd_Island_houses hg k_o_61
  have k_o_74 : ly_k L (o + 74) = 3 := gd_State_hands hg k_o_60
  have k_o_77 : ly_k L (o + 77) = 0 := gd_Hands_sits hg k_o_74
  have k_o_75 : ly_k L (o + 75) = 0 := gd_Hands_held hg k_o_74
  unfold f_Hat_house at hf0
  show GW E L A 3 0 0 Q σ 0 [(0, .ref (ly_a L o)), (1, .int p1), (2, .int p2)] []
  refine gw_aload_n C 0 d_Hat_house_0 rfl rfl ?_
  refine gw_getA C 7 d_Hat_house_1 k_o_0 (by decide) i_Hat rfl rfl (by decide) qw_410 rfl rfl (o + 60) rfl ?_
  refine gw_getAN C 0 d_Hat_house_4 k_o_60 (by decide) i_State rfl rfl (by decide) qw_237 rfl rfl (o + 61) rfl ?_
  refine gw_getAN C 1 d_Hat_house_7 k_o_61 (by decide) i_Island rfl rfl (by decide) qw_136 rfl rfl (o + 64) rfl ?_
  refine gw_iload_n C 1 d_Hat_house_10 rfl rfl ?_
  obtain ⟨q11, hq11, hf0⟩ := mx_bd hf0
  refine gw_callI C (c_Names_has _ hg k_o_64 hq11) d_Hat_house_11 1 qw_754 qw_738 qw_739 qw_7 qw_740 k_o_64 (by decide) rfl hd_Names_has rfl rfl (Nat.le_of_ble_eq_true rfl) ⟨rfl, rfl, Nat.le_of_ble_eq_true rfl, Nat.le_of_ble_eq_true rfl⟩ ⟨Nat.zero_le _, Nat.zero_le _⟩ ?_
  refine gw_if_eq C 26 d_Hat_house_14 (by decide) (fun hc => ?_) (fun hc => ?_)
  · replace hf0 := mx_t hc hf0
    have hr9 : res = none := (Option.some.inj hf0).symm
    exact hX hr9 26 _ 169 _ (List.mem_of_getElem? (i := 1) rfl) d_Hat_house_26 d_Hat_house_29 (Or.inl ⟨d_Hat_house_30, d_Hat_house_32, d_Hat_house_35⟩)
  · replace hf0 := mx_f hc hf0
    refine gw_iload_n C 2 d_Hat_house_17 rfl rfl ?_
    refine gw_if_lt C 26 d_Hat_house_18 (by decide) (fun hc => ?_) (fun hc => ?_)
    · replace hf0 := mx_t hc hf0
      have hr9 : res = none := (Option.some.inj hf0).symm
      exact hX hr9 26 _ 169 _ (List.mem_of_getElem? (i := 1) rfl) d_Hat_house_26 d_Hat_house_29 (Or.inl ⟨d_Hat_house_30, d_Hat_house_32, d_Hat_house_35⟩)
    · replace hf0 := mx_f hc hf0
      refine gw_iload_n C 2 d_Hat_house_21 rfl rfl ?_
      refine gw_iconst C (1 : Int32) d_Hat_house_22 (by decide) ?_
      refine gw_icmp_le C 36 d_Hat_house_23 (by decide) (fun hc => ?_) (fun hc => ?_)
      · replace hf0 := mx_t hc hf0
        refine gw_iload_n C 2 d_Hat_house_36 rfl rfl ?_
        refine gw_if_ne C 57 d_Hat_house_37 (by decide) (fun hc => ?_) (fun hc => ?_)
        · replace hf0 := mx_f hc hf0
          refine gw_aload_n C 0 d_Hat_house_57 rfl rfl ?_
          refine gw_getA C 7 d_Hat_house_58 k_o_0 (by decide) i_Hat rfl rfl (by decide) qw_410 rfl rfl (o + 60) rfl ?_
          refine gw_getAN C 1 d_Hat_house_61 k_o_60 (by decide) i_State rfl rfl (by decide) qw_239 rfl rfl (o + 74) rfl ?_
          refine gw_getAN C 1 d_Hat_house_64 k_o_74 (by decide) i_Hands rfl rfl (by decide) qw_193 rfl rfl (o + 77) rfl ?_
          refine gw_iload_n C 1 d_Hat_house_67 rfl rfl ?_
          obtain ⟨q68, hq68, hf0⟩ := mx_bd hf0
          refine gw_callI C (c_Row_at _ hg k_o_77 hq68) d_Hat_house_68 1 qw_755 qw_489 qw_490 qw_4 qw_491 k_o_77 (by decide) rfl hd_Row_at rfl rfl (Nat.le_of_ble_eq_true rfl) ⟨rfl, rfl, Nat.le_of_ble_eq_true rfl, Nat.le_of_ble_eq_true rfl⟩ ⟨Nat.zero_le _, Nat.zero_le _⟩ ?_
          exact hN _ _ _ _ (Option.some.inj hf0).symm d_Hat_house_71
        · replace hf0 := mx_t hc hf0
          refine gw_aload_n C 0 d_Hat_house_40 rfl rfl ?_
          refine gw_getA C 7 d_Hat_house_41 k_o_0 (by decide) i_Hat rfl rfl (by decide) qw_410 rfl rfl (o + 60) rfl ?_
          refine gw_getAN C 1 d_Hat_house_44 k_o_60 (by decide) i_State rfl rfl (by decide) qw_239 rfl rfl (o + 74) rfl ?_
          refine gw_getAN C 0 d_Hat_house_47 k_o_74 (by decide) i_Hands rfl rfl (by decide) qw_189 rfl rfl (o + 75) rfl ?_
          refine gw_iload_n C 1 d_Hat_house_50 rfl rfl ?_
          obtain ⟨q51, hq51, hf0⟩ := mx_bd hf0
          refine gw_callI C (c_Row_at _ hg k_o_75 hq51) d_Hat_house_51 1 qw_755 qw_489 qw_490 qw_4 qw_491 k_o_75 (by decide) rfl hd_Row_at rfl rfl (Nat.le_of_ble_eq_true rfl) ⟨rfl, rfl, Nat.le_of_ble_eq_true rfl, Nat.le_of_ble_eq_true rfl⟩ ⟨Nat.zero_le _, Nat.zero_le _⟩ ?_
          refine gw_goto C 71 d_Hat_house_54 (by decide) ?_
          exact hN _ _ _ _ (Option.some.inj hf0).symm d_Hat_house_71
      · replace hf0 := mx_f hc hf0
        have hr9 : res = none := (Option.some.inj hf0).symm
        exact hX hr9 26 _ 169 _ (List.mem_of_getElem? (i := 1) rfl) d_Hat_house_26 d_Hat_house_29 (Or.inl ⟨d_Hat_house_30, d_Hat_house_32, d_Hat_house_35⟩)

/-! Hat_value, which may throw -/
abbrev b_Hat_value : ByteArray := prog_1_method_12_code
def y_Hat_value : MethodName := ⟨"NameHat", "value", "(II)I"⟩
abbrev rm_Hat_value : Room := { frames := 6, cells := 1, slots := 6, locals := 82 }
theorem hd_Hat_value : y_Hat_value.cls ≠ "java/lang/invoke/MethodHandle" ∧ y_Hat_value.cls ≠ "java/lang/invoke/VarHandle" ∧ (parseMethodDescriptor y_Hat_value.desc).map (fun d => d.parameters.length) = some 2 := by decide +kernel
theorem d_Hat_value_0 : decode b_Hat_value 0 = .ok (.aload_n 0, 1) := by decide +kernel
theorem d_Hat_value_1 : decode b_Hat_value 1 = .ok (.getfield 57, 3) := by decide +kernel
theorem d_Hat_value_4 : decode b_Hat_value 4 = .ok (.getfield 121, 3) := by decide +kernel
theorem d_Hat_value_7 : decode b_Hat_value 7 = .ok (.getfield 166, 3) := by decide +kernel
theorem d_Hat_value_10 : decode b_Hat_value 10 = .ok (.iload_n 1, 1) := by decide +kernel
theorem d_Hat_value_11 : decode b_Hat_value 11 = .ok (.invokevirtual 131, 3) := by decide +kernel
theorem d_Hat_value_14 : decode b_Hat_value 14 = .ok (.ifCond .eq 20, 3) := by decide +kernel
theorem d_Hat_value_17 : decode b_Hat_value 17 = .ok (.aload_n 0, 1) := by decide +kernel
theorem d_Hat_value_18 : decode b_Hat_value 18 = .ok (.getfield 57, 3) := by decide +kernel
theorem d_Hat_value_21 : decode b_Hat_value 21 = .ok (.getfield 121, 3) := by decide +kernel
theorem d_Hat_value_24 : decode b_Hat_value 24 = .ok (.getfield 125, 3) := by decide +kernel
theorem d_Hat_value_27 : decode b_Hat_value 27 = .ok (.iload_n 2, 1) := by decide +kernel
theorem d_Hat_value_28 : decode b_Hat_value 28 = .ok (.invokevirtual 131, 3) := by decide +kernel
theorem d_Hat_value_31 : decode b_Hat_value 31 = .ok (.ifCond .ne 13, 3) := by decide +kernel
theorem d_Hat_value_34 : decode b_Hat_value 34 = .ok (.new 137, 3) := by decide +kernel
theorem d_Hat_value_37 : decode b_Hat_value 37 = .ok (.dup, 1) := by decide +kernel
theorem d_Hat_value_38 : decode b_Hat_value 38 = .ok (.ldc 177, 2) := by decide +kernel
theorem d_Hat_value_40 : decode b_Hat_value 40 = .ok (.invokespecial 141, 3) := by decide +kernel
theorem d_Hat_value_43 : decode b_Hat_value 43 = .ok (.athrow, 1) := by decide +kernel
theorem d_Hat_value_44 : decode b_Hat_value 44 = .ok (.aload_n 0, 1) := by decide +kernel
theorem d_Hat_value_45 : decode b_Hat_value 45 = .ok (.getfield 57, 3) := by decide +kernel
theorem d_Hat_value_48 : decode b_Hat_value 48 = .ok (.getfield 121, 3) := by decide +kernel
theorem d_Hat_value_51 : decode b_Hat_value 51 = .ok (.iload_n 1, 1) := by decide +kernel
theorem d_Hat_value_52 : decode b_Hat_value 52 = .ok (.iload_n 2, 1) := by decide +kernel
theorem d_Hat_value_53 : decode b_Hat_value 53 = .ok (.invokevirtual 179, 3) := by decide +kernel
theorem d_Hat_value_56 : decode b_Hat_value 56 = .ok (.ireturn, 1) := by decide +kernel
noncomputable def f_Hat_value (z : Nat → Nat) (σ : Mm) (o : Nat) (p1 : Int32) (p2 : Int32) : Option (Option (Int32 × Mm)) :=
  (f_Names_has z σ (o + 64) p1).bind fun q11 =>
  if q11 = 0 then (
    some none
  ) else (
    (f_Names_has z σ (o + 62) p2).bind fun q28 =>
    if q28 = 0 then (
      some none
    ) else (
      (f_Island_valueFor z σ (o + 61) p1 p2).bind fun q53 =>
      some (some (q53, σ))
    )
  )
set_option maxHeartbeats 4000000 in
set_option maxRecDepth 100000 in
theorem c_Hat_value (l : Launch) (hl : l.stackTraces = false) {L : Ly} (hg : gd_ok L) {σ : Mm} {o : Nat} {p1 : Int32} {p2 : Int32} (k_o_0 : ly_k L o = 10) {res : Option (Int32 × Mm)} (hf0 : f_Hat_value (ly_z L) σ o p1 p2 = some res) : CxI l y_Hat_value b_Hat_value 3 rm_Hat_value L [.ref (ly_a L o), .int p1, .int p2] σ res := by
  refine ct_xi hl hg (by decide) rfl (Nat.le_of_ble_eq_true rfl) ⟨rfl, rfl, Nat.le_of_ble_eq_true rfl, Nat.le_of_ble_eq_true rfl⟩ ?_
  intro E A Q hE C hN hX
  subst hE
  have k_o_60 : ly_k L (o + 60) = 4 := gd_Hat_now hg k_o_0
  have k_o_61 : ly_k L (o + 61) = 2 := gd_State_island hg k_o_60
  have k_o_64 : ly_k L (o + 64) = 1 := gd_Island_houses hg k_o_61
  have k_o_62 : ly_k L (o + 62) = 1 := gd_Island_surnames hg k_o_61
  unfold f_Hat_value at hf0
  show GW E L A 3 0 0 Q σ 0 [(0, .ref (ly_a L o)), (1, .int p1), (2, .int p2)] []
  refine gw_aload_n C 0 d_Hat_value_0 rfl rfl ?_
  refine gw_getA C 7 d_Hat_value_1 k_o_0 (by decide) i_Hat rfl rfl (by decide) qw_410 rfl rfl (o + 60) rfl ?_
  refine gw_getAN C 0 d_Hat_value_4 k_o_60 (by decide) i_State rfl rfl (by decide) qw_237 rfl rfl (o + 61) rfl ?_
  refine gw_getAN C 1 d_Hat_value_7 k_o_61 (by decide) i_Island rfl rfl (by decide) qw_136 rfl rfl (o + 64) rfl ?_
  refine gw_iload_n C 1 d_Hat_value_10 rfl rfl ?_
  obtain ⟨q11, hq11, hf0⟩ := mx_bd hf0
  refine gw_callI C (c_Names_has _ hg k_o_64 hq11) d_Hat_value_11 1 qw_754 qw_738 qw_739 qw_7 qw_740 k_o_64 (by decide) rfl hd_Names_has rfl rfl (Nat.le_of_ble_eq_true rfl) ⟨rfl, rfl, Nat.le_of_ble_eq_true rfl, Nat.le_of_ble_eq_true rfl⟩ ⟨Nat.zero_le _, Nat.zero_le _⟩ ?_
  refine gw_if_eq C 34 d_Hat_value_14 (by decide) (fun hc => ?_) (fun hc => ?_)
  · replace hf0 := mx_t hc hf0
    have hr9 : res = none := (Option.some.inj hf0).symm
    exact hX hr9 34 _ 177 _ (List.mem_of_getElem? (i := 2) rfl) d_Hat_value_34 d_Hat_value_37 (Or.inl ⟨d_Hat_value_38, d_Hat_value_40, d_Hat_value_43⟩)
  · replace hf0 := mx_f hc hf0
    refine gw_aload_n C 0 d_Hat_value_17 rfl rfl ?_
    refine gw_getA C 7 d_Hat_value_18 k_o_0 (by decide) i_Hat rfl rfl (by decide) qw_410 rfl rfl (o + 60) rfl ?_
    refine gw_getAN C 0 d_Hat_value_21 k_o_60 (by decide) i_State rfl rfl (by decide) qw_237 rfl rfl (o + 61) rfl ?_
    refine gw_getAN C 0 d_Hat_value_24 k_o_61 (by decide) i_Island rfl rfl (by decide) qw_128 rfl rfl (o + 62) rfl ?_
    refine gw_iload_n C 2 d_Hat_value_27 rfl rfl ?_
    obtain ⟨q28, hq28, hf0⟩ := mx_bd hf0
    refine gw_callI C (c_Names_has _ hg k_o_62 hq28) d_Hat_value_28 1 qw_754 qw_738 qw_739 qw_7 qw_740 k_o_62 (by decide) rfl hd_Names_has rfl rfl (Nat.le_of_ble_eq_true rfl) ⟨rfl, rfl, Nat.le_of_ble_eq_true rfl, Nat.le_of_ble_eq_true rfl⟩ ⟨Nat.zero_le _, Nat.zero_le _⟩ ?_
    refine gw_if_ne C 44 d_Hat_value_31 (by decide) (fun hc => ?_) (fun hc => ?_)
    · replace hf0 := mx_f hc hf0
      refine gw_aload_n C 0 d_Hat_value_44 rfl rfl ?_
      refine gw_getA C 7 d_Hat_value_45 k_o_0 (by decide) i_Hat rfl rfl (by decide) qw_410 rfl rfl (o + 60) rfl ?_
      refine gw_getAN C 0 d_Hat_value_48 k_o_60 (by decide) i_State rfl rfl (by decide) qw_237 rfl rfl (o + 61) rfl ?_
      refine gw_iload_n C 1 d_Hat_value_51 rfl rfl ?_
      refine gw_iload_n C 2 d_Hat_value_52 rfl rfl ?_
      obtain ⟨q53, hq53, hf0⟩ := mx_bd hf0
      refine gw_callI C (c_Island_valueFor _ hg k_o_61 hq53) d_Hat_value_53 2 qw_756 qw_757 qw_758 qw_6 qw_759 k_o_61 (by decide) rfl hd_Island_valueFor rfl rfl (Nat.le_of_ble_eq_true rfl) ⟨rfl, rfl, Nat.le_of_ble_eq_true rfl, Nat.le_of_ble_eq_true rfl⟩ ⟨Nat.zero_le _, Nat.zero_le _⟩ ?_
      exact hN _ _ _ _ (Option.some.inj hf0).symm d_Hat_value_56
    · replace hf0 := mx_t hc hf0
      have hr9 : res = none := (Option.some.inj hf0).symm
      exact hX hr9 34 _ 177 _ (List.mem_of_getElem? (i := 2) rfl) d_Hat_value_34 d_Hat_value_37 (Or.inl ⟨d_Hat_value_38, d_Hat_value_40, d_Hat_value_43⟩)

/-! Hat_waiting, which may throw -/
abbrev b_Hat_waiting : ByteArray := prog_1_method_24_code
def y_Hat_waiting : MethodName := ⟨"NameHat", "waiting", "(II)I"⟩
abbrev rm_Hat_waiting : Room := { frames := 6, cells := 1, slots := 6, locals := 82 }
theorem hd_Hat_waiting : y_Hat_waiting.cls ≠ "java/lang/invoke/MethodHandle" ∧ y_Hat_waiting.cls ≠ "java/lang/invoke/VarHandle" ∧ (parseMethodDescriptor y_Hat_waiting.desc).map (fun d => d.parameters.length) = some 2 := by decide +kernel
theorem d_Hat_waiting_0 : decode b_Hat_waiting 0 = .ok (.aload_n 0, 1) := by decide +kernel
theorem d_Hat_waiting_1 : decode b_Hat_waiting 1 = .ok (.getfield 57, 3) := by decide +kernel
theorem d_Hat_waiting_4 : decode b_Hat_waiting 4 = .ok (.getfield 121, 3) := by decide +kernel
theorem d_Hat_waiting_7 : decode b_Hat_waiting 7 = .ok (.getfield 125, 3) := by decide +kernel
theorem d_Hat_waiting_10 : decode b_Hat_waiting 10 = .ok (.getfield 186, 3) := by decide +kernel
theorem d_Hat_waiting_13 : decode b_Hat_waiting 13 = .ok (.istore_n 3, 1) := by decide +kernel
theorem d_Hat_waiting_14 : decode b_Hat_waiting 14 = .ok (.aload_n 0, 1) := by decide +kernel
theorem d_Hat_waiting_15 : decode b_Hat_waiting 15 = .ok (.getfield 57, 3) := by decide +kernel
theorem d_Hat_waiting_18 : decode b_Hat_waiting 18 = .ok (.getfield 121, 3) := by decide +kernel
theorem d_Hat_waiting_21 : decode b_Hat_waiting 21 = .ok (.getfield 166, 3) := by decide +kernel
theorem d_Hat_waiting_24 : decode b_Hat_waiting 24 = .ok (.iload_n 1, 1) := by decide +kernel
theorem d_Hat_waiting_25 : decode b_Hat_waiting 25 = .ok (.invokevirtual 131, 3) := by decide +kernel
theorem d_Hat_waiting_28 : decode b_Hat_waiting 28 = .ok (.ifCond .eq 16, 3) := by decide +kernel
theorem d_Hat_waiting_31 : decode b_Hat_waiting 31 = .ok (.iload_n 2, 1) := by decide +kernel
theorem d_Hat_waiting_32 : decode b_Hat_waiting 32 = .ok (.ifCond .lt 12, 3) := by decide +kernel
theorem d_Hat_waiting_35 : decode b_Hat_waiting 35 = .ok (.iload_n 2, 1) := by decide +kernel
theorem d_Hat_waiting_36 : decode b_Hat_waiting 36 = .ok (.iconst 1, 1) := by decide +kernel
theorem d_Hat_waiting_37 : decode b_Hat_waiting 37 = .ok (.if_icmp .gt 7, 3) := by decide +kernel
theorem d_Hat_waiting_40 : decode b_Hat_waiting 40 = .ok (.iload_n 3, 1) := by decide +kernel
theorem d_Hat_waiting_41 : decode b_Hat_waiting 41 = .ok (.ifCond .ne 13, 3) := by decide +kernel
theorem d_Hat_waiting_44 : decode b_Hat_waiting 44 = .ok (.new 137, 3) := by decide +kernel
theorem d_Hat_waiting_47 : decode b_Hat_waiting 47 = .ok (.dup, 1) := by decide +kernel
theorem d_Hat_waiting_48 : decode b_Hat_waiting 48 = .ok (.ldc 249, 2) := by decide +kernel
theorem d_Hat_waiting_50 : decode b_Hat_waiting 50 = .ok (.invokespecial 141, 3) := by decide +kernel
theorem d_Hat_waiting_53 : decode b_Hat_waiting 53 = .ok (.athrow, 1) := by decide +kernel
theorem d_Hat_waiting_54 : decode b_Hat_waiting 54 = .ok (.iconst 0, 1) := by decide +kernel
theorem d_Hat_waiting_55 : decode b_Hat_waiting 55 = .ok (.istore 4, 2) := by decide +kernel
theorem d_Hat_waiting_57 : decode b_Hat_waiting 57 = .ok (.iconst 0, 1) := by decide +kernel
theorem d_Hat_waiting_58 : decode b_Hat_waiting 58 = .ok (.istore 5, 2) := by decide +kernel
theorem d_Hat_waiting_60 : decode b_Hat_waiting 60 = .ok (.iload 5, 2) := by decide +kernel
theorem d_Hat_waiting_62 : decode b_Hat_waiting 62 = .ok (.iload_n 3, 1) := by decide +kernel
theorem d_Hat_waiting_63 : decode b_Hat_waiting 63 = .ok (.if_icmp .ge 27, 3) := by decide +kernel
theorem d_Hat_waiting_66 : decode b_Hat_waiting 66 = .ok (.iload 4, 2) := by decide +kernel
theorem d_Hat_waiting_68 : decode b_Hat_waiting 68 = .ok (.aload_n 0, 1) := by decide +kernel
theorem d_Hat_waiting_69 : decode b_Hat_waiting 69 = .ok (.getfield 57, 3) := by decide +kernel
theorem d_Hat_waiting_72 : decode b_Hat_waiting 72 = .ok (.getfield 121, 3) := by decide +kernel
theorem d_Hat_waiting_75 : decode b_Hat_waiting 75 = .ok (.iload_n 1, 1) := by decide +kernel
theorem d_Hat_waiting_76 : decode b_Hat_waiting 76 = .ok (.iload 5, 2) := by decide +kernel
theorem d_Hat_waiting_78 : decode b_Hat_waiting 78 = .ok (.invokevirtual 179, 3) := by decide +kernel
theorem d_Hat_waiting_81 : decode b_Hat_waiting 81 = .ok (.iadd, 1) := by decide +kernel
theorem d_Hat_waiting_82 : decode b_Hat_waiting 82 = .ok (.istore 4, 2) := by decide +kernel
theorem d_Hat_waiting_84 : decode b_Hat_waiting 84 = .ok (.iinc 5 1, 3) := by decide +kernel
theorem d_Hat_waiting_87 : decode b_Hat_waiting 87 = .ok (.goto (-27), 3) := by decide +kernel
theorem d_Hat_waiting_90 : decode b_Hat_waiting 90 = .ok (.iload_n 2, 1) := by decide +kernel
theorem d_Hat_waiting_91 : decode b_Hat_waiting 91 = .ok (.ifCond .ne 9, 3) := by decide +kernel
theorem d_Hat_waiting_94 : decode b_Hat_waiting 94 = .ok (.iload 4, 2) := by decide +kernel
theorem d_Hat_waiting_96 : decode b_Hat_waiting 96 = .ok (.i2l, 1) := by decide +kernel
theorem d_Hat_waiting_97 : decode b_Hat_waiting 97 = .ok (.goto 5, 3) := by decide +kernel
theorem d_Hat_waiting_100 : decode b_Hat_waiting 100 = .ok (.iload_n 3, 1) := by decide +kernel
theorem d_Hat_waiting_101 : decode b_Hat_waiting 101 = .ok (.i2l, 1) := by decide +kernel
theorem d_Hat_waiting_102 : decode b_Hat_waiting 102 = .ok (.iload 4, 2) := by decide +kernel
theorem d_Hat_waiting_104 : decode b_Hat_waiting 104 = .ok (.i2l, 1) := by decide +kernel
theorem d_Hat_waiting_105 : decode b_Hat_waiting 105 = .ok (.iload_n 3, 1) := by decide +kernel
theorem d_Hat_waiting_106 : decode b_Hat_waiting 106 = .ok (.i2l, 1) := by decide +kernel
theorem d_Hat_waiting_107 : decode b_Hat_waiting 107 = .ok (.invokestatic 251, 3) := by decide +kernel
theorem d_Hat_waiting_110 : decode b_Hat_waiting 110 = .ok (.l2i, 1) := by decide +kernel
theorem d_Hat_waiting_111 : decode b_Hat_waiting 111 = .ok (.ireturn, 1) := by decide +kernel
noncomputable def f_Hat_waiting_J102 (z : Nat → Nat) (o : Nat) (v3 : Int32) (v4 : Int32) (t102_0 : Int64) (m102 : Mm) : Option (Option (Int32 × Mm)) :=
  (f_Hat_inLeastNumbers z m102 t102_0 (Int32.toInt64 v4) (Int32.toInt64 v3)).bind fun q107 =>
  some (some ((Int64.toInt32 q107), m102))
noncomputable def f_Hat_waiting_L60 (z : Nat → Nat) (σ : Mm) (o : Nat) (v1 : Int32) (v2 : Int32) (v3 : Int32) (s60 : Int32 × Int32) : Option ((Int32 × Int32) ⊕ (Int32)) :=
  if v3 ≤ s60.2 then (
    some (.inr s60.1)
  ) else (
    (f_Island_valueFor z σ (o + 61) v1 s60.2).bind fun q78 =>
    mm_lt ((s60.1 + q78)) fun x82 =>
    mm_lt (s60.2 + (1 : Int32)) fun x84 =>
    some (.inl (x82, x84))
  )
noncomputable def f_Hat_waiting (z : Nat → Nat) (σ : Mm) (o : Nat) (p1 : Int32) (p2 : Int32) : Option (Option (Int32 × Mm)) :=
  mm_lt ((σ.1 (o + 62) 1)) fun x13 =>
  (f_Names_has z σ (o + 64) p1).bind fun q25 =>
  if q25 = 0 then (
    some none
  ) else (
    if p2 < 0 then (
      some none
    ) else (
      if (1 : Int32) < p2 then (
        some none
      ) else (
        if x13 = 0 then (
          some none
        ) else (
          (mm_lp (f_Hat_waiting_L60 z σ o p1 p2 x13) ((0 : Int32), (0 : Int32))).bind (fun q60 =>
            if p2 = 0 then (
              f_Hat_waiting_J102 z o x13 q60 (Int32.toInt64 q60) σ
            ) else (
              f_Hat_waiting_J102 z o x13 q60 (Int32.toInt64 x13) σ
            ))
        )
      )
    )
  )
set_option maxHeartbeats 4000000 in
set_option maxRecDepth 100000 in
theorem c_Hat_waiting (l : Launch) (hl : l.stackTraces = false) {L : Ly} (hg : gd_ok L) {σ : Mm} {o : Nat} {p1 : Int32} {p2 : Int32} (k_o_0 : ly_k L o = 10) {res : Option (Int32 × Mm)} (hf0 : f_Hat_waiting (ly_z L) σ o p1 p2 = some res) : CxI l y_Hat_waiting b_Hat_waiting 6 rm_Hat_waiting L [.ref (ly_a L o), .int p1, .int p2] σ res := by
  refine ct_xi hl hg (by decide) rfl (Nat.le_of_ble_eq_true rfl) ⟨rfl, rfl, Nat.le_of_ble_eq_true rfl, Nat.le_of_ble_eq_true rfl⟩ ?_
  intro E A Q hE C hN hX
  subst hE
  have k_o_60 : ly_k L (o + 60) = 4 := gd_Hat_now hg k_o_0
  have k_o_61 : ly_k L (o + 61) = 2 := gd_State_island hg k_o_60
  have k_o_62 : ly_k L (o + 62) = 1 := gd_Island_surnames hg k_o_61
  have k_o_64 : ly_k L (o + 64) = 1 := gd_Island_houses hg k_o_61
  unfold f_Hat_waiting at hf0
  show GW E L A 6 0 0 Q σ 0 [(0, .ref (ly_a L o)), (1, .int p1), (2, .int p2)] []
  have hj102 : ∀ (v3 : Int32) (v4 : Int32) (t102_0 : Int64) (m102 : Mm), f_Hat_waiting_J102 (ly_z L) o v3 v4 t102_0 m102 = some res → GW E L A 6 0 0 Q m102 102 [(3, .int v3), (4, .int v4)] [.long t102_0] := by
    intro v3 v4 t102_0 m102 hf0
    unfold f_Hat_waiting_J102 at hf0
    refine gw_iload C 1 d_Hat_waiting_102 rfl ?_
    refine gw_i2l C d_Hat_waiting_104 ?_
    refine gw_iload_n C 0 d_Hat_waiting_105 rfl rfl ?_
    refine gw_i2l C d_Hat_waiting_106 ?_
    obtain ⟨q107, hq107, hf0⟩ := mx_bd hf0
    refine gw_callLS C (c_Hat_inLeastNumbers _ hg hq107) d_Hat_waiting_107 3 qw_1087 qw_1088 qw_1 qw_1089 hd_Hat_inLeastNumbers rfl rfl (Nat.le_of_ble_eq_true rfl) ⟨rfl, rfl, Nat.le_of_ble_eq_true rfl, Nat.le_of_ble_eq_true rfl⟩ ⟨Nat.zero_le _, Nat.zero_le _⟩ ?_
    refine gw_l2i C d_Hat_waiting_110 ?_
    exact hN _ _ _ _ (Option.some.inj hf0).symm d_Hat_waiting_111
  refine gw_aload_n C 0 d_Hat_waiting_0 rfl rfl ?_
  refine gw_getA C 7 d_Hat_waiting_1 k_o_0 (by decide) i_Hat rfl rfl (by decide) qw_410 rfl rfl (o + 60) rfl ?_
  refine gw_getAN C 0 d_Hat_waiting_4 k_o_60 (by decide) i_State rfl rfl (by decide) qw_237 rfl rfl (o + 61) rfl ?_
  refine gw_getAN C 0 d_Hat_waiting_7 k_o_61 (by decide) i_Island rfl rfl (by decide) qw_128 rfl rfl (o + 62) rfl ?_
  refine gw_getIN C 1 d_Hat_waiting_10 k_o_62 (by decide) i_Names rfl rfl (by decide) qw_115 rfl rfl ?_
  obtain ⟨x13, ex13, hf0⟩ := mx_lt hf0
  refine gw_topi ex13 ?_
  refine gw_istore_n C [(3, .int x13), (0, .ref (ly_a L o)), (1, .int p1), (2, .int p2)] d_Hat_waiting_13 rfl (by decide) rfl ?_
  refine gw_aload_n C 1 d_Hat_waiting_14 rfl rfl ?_
  refine gw_getA C 7 d_Hat_waiting_15 k_o_0 (by decide) i_Hat rfl rfl (by decide) qw_410 rfl rfl (o + 60) rfl ?_
  refine gw_getAN C 0 d_Hat_waiting_18 k_o_60 (by decide) i_State rfl rfl (by decide) qw_237 rfl rfl (o + 61) rfl ?_
  refine gw_getAN C 1 d_Hat_waiting_21 k_o_61 (by decide) i_Island rfl rfl (by decide) qw_136 rfl rfl (o + 64) rfl ?_
  refine gw_iload_n C 2 d_Hat_waiting_24 rfl rfl ?_
  obtain ⟨q25, hq25, hf0⟩ := mx_bd hf0
  refine gw_callI C (c_Names_has _ hg k_o_64 hq25) d_Hat_waiting_25 1 qw_754 qw_738 qw_739 qw_7 qw_740 k_o_64 (by decide) rfl hd_Names_has rfl rfl (Nat.le_of_ble_eq_true rfl) ⟨rfl, rfl, Nat.le_of_ble_eq_true rfl, Nat.le_of_ble_eq_true rfl⟩ ⟨Nat.zero_le _, Nat.zero_le _⟩ ?_
  refine gw_if_eq C 44 d_Hat_waiting_28 (by decide) (fun hc => ?_) (fun hc => ?_)
  · replace hf0 := mx_t hc hf0
    have hr9 : res = none := (Option.some.inj hf0).symm
    exact hX hr9 44 _ 249 _ (List.mem_of_getElem? (i := 3) rfl) d_Hat_waiting_44 d_Hat_waiting_47 (Or.inl ⟨d_Hat_waiting_48, d_Hat_waiting_50, d_Hat_waiting_53⟩)
  · replace hf0 := mx_f hc hf0
    refine gw_iload_n C 3 d_Hat_waiting_31 rfl rfl ?_
    refine gw_if_lt C 44 d_Hat_waiting_32 (by decide) (fun hc => ?_) (fun hc => ?_)
    · replace hf0 := mx_t hc hf0
      have hr9 : res = none := (Option.some.inj hf0).symm
      exact hX hr9 44 _ 249 _ (List.mem_of_getElem? (i := 3) rfl) d_Hat_waiting_44 d_Hat_waiting_47 (Or.inl ⟨d_Hat_waiting_48, d_Hat_waiting_50, d_Hat_waiting_53⟩)
    · replace hf0 := mx_f hc hf0
      refine gw_iload_n C 3 d_Hat_waiting_35 rfl rfl ?_
      refine gw_iconst C (1 : Int32) d_Hat_waiting_36 (by decide) ?_
      refine gw_icmp_gt C 44 d_Hat_waiting_37 (by decide) (fun hc => ?_) (fun hc => ?_)
      · replace hf0 := mx_t hc hf0
        have hr9 : res = none := (Option.some.inj hf0).symm
        exact hX hr9 44 _ 249 _ (List.mem_of_getElem? (i := 3) rfl) d_Hat_waiting_44 d_Hat_waiting_47 (Or.inl ⟨d_Hat_waiting_48, d_Hat_waiting_50, d_Hat_waiting_53⟩)
      · replace hf0 := mx_f hc hf0
        refine gw_iload_n C 0 d_Hat_waiting_40 rfl rfl ?_
        refine gw_if_ne C 54 d_Hat_waiting_41 (by decide) (fun hc => ?_) (fun hc => ?_)
        · replace hf0 := mx_f hc hf0
          refine gw_iconst C (0 : Int32) d_Hat_waiting_54 (by decide) ?_
          refine gw_istore C [(4, .int (0 : Int32)), (3, .int x13), (0, .ref (ly_a L o)), (1, .int p1), (2, .int p2)] d_Hat_waiting_55 (by decide) rfl ?_
          refine gw_iconst C (0 : Int32) d_Hat_waiting_57 (by decide) ?_
          refine gw_istore C [(5, .int (0 : Int32)), (4, .int (0 : Int32)), (3, .int x13), (0, .ref (ly_a L o)), (1, .int p1), (2, .int p2)] d_Hat_waiting_58 (by decide) rfl ?_
          obtain ⟨q60, hq60, hf0⟩ := mx_bd hf0
          have hk60 : ∀ x9, q60 = x9 → GW E L A 6 0 0 Q σ 90 [(2, .int p2), (3, .int x13), (4, .int x9)] [] := by
            intro x9 hx9
            subst hx9
            refine gw_iload_n C 0 d_Hat_waiting_90 rfl rfl ?_
            refine gw_if_ne C 100 d_Hat_waiting_91 (by decide) (fun hc => ?_) (fun hc => ?_)
            · replace hf0 := mx_f hc hf0
              refine gw_iload_n C 1 d_Hat_waiting_100 rfl rfl ?_
              refine gw_i2l C d_Hat_waiting_101 ?_
              exact gw_go [1, 2] (hj102 _ _ _ _ hf0) rfl
            · replace hf0 := mx_t hc hf0
              refine gw_iload C 2 d_Hat_waiting_94 rfl ?_
              refine gw_i2l C d_Hat_waiting_96 ?_
              refine gw_goto C 102 d_Hat_waiting_97 (by decide) ?_
              exact gw_go [1, 2] (hj102 _ _ _ _ hf0) rfl
          refine gw_sub [3, 4, 5, 2, 1, 0] (lv' := [(0, .ref (ly_a L o)), (1, .int p1), (2, .int p2), (3, .int x13), (4, .int (0 : Int32)), (5, .int (0 : Int32))]) rfl ?_
          refine mm_rule hq60 (P := fun (s60 : Int32 × Int32) => GW E L A 6 0 0 Q σ 60 [(0, .ref (ly_a L o)), (1, .int p1), (2, .int p2), (3, .int x13), (4, .int s60.1), (5, .int s60.2)] []) ?_
          intro s60 ih60 hx60 ⟨w60, hb60⟩
          have hf1 := hb60
          unfold f_Hat_waiting_L60 at hf1
          refine gw_iload C 5 d_Hat_waiting_60 rfl ?_
          refine gw_iload_n C 3 d_Hat_waiting_62 rfl rfl ?_
          refine gw_icmp_ge C 90 d_Hat_waiting_63 (by decide) (fun hc => ?_) (fun hc => ?_)
          · replace hf1 := mx_t hc hf1
            exact gw_go [2, 3, 4] (hk60 s60.1 (hx60 _ (hb60.trans hf1.symm)).symm) rfl
          · replace hf1 := mx_f hc hf1
            refine gw_iload C 4 d_Hat_waiting_66 rfl ?_
            refine gw_aload_n C 0 d_Hat_waiting_68 rfl rfl ?_
            refine gw_getA C 7 d_Hat_waiting_69 k_o_0 (by decide) i_Hat rfl rfl (by decide) qw_410 rfl rfl (o + 60) rfl ?_
            refine gw_getAN C 0 d_Hat_waiting_72 k_o_60 (by decide) i_State rfl rfl (by decide) qw_237 rfl rfl (o + 61) rfl ?_
            refine gw_iload_n C 1 d_Hat_waiting_75 rfl rfl ?_
            refine gw_iload C 5 d_Hat_waiting_76 rfl ?_
            obtain ⟨q78, hq78, hf1⟩ := mx_bd hf1
            refine gw_callI C (c_Island_valueFor _ hg k_o_61 hq78) d_Hat_waiting_78 2 qw_756 qw_757 qw_758 qw_6 qw_759 k_o_61 (by decide) rfl hd_Island_valueFor rfl rfl (Nat.le_of_ble_eq_true rfl) ⟨rfl, rfl, Nat.le_of_ble_eq_true rfl, Nat.le_of_ble_eq_true rfl⟩ ⟨Nat.zero_le _, Nat.zero_le _⟩ ?_
            refine gw_iadd C d_Hat_waiting_81 ?_
            obtain ⟨x82, ex82, hf1⟩ := mx_lt hf1
            refine gw_topi ex82 ?_
            refine gw_istore C [(4, .int x82), (0, .ref (ly_a L o)), (1, .int p1), (2, .int p2), (3, .int x13), (5, .int s60.2)] d_Hat_waiting_82 (by decide) rfl ?_
            obtain ⟨x84, ex84, hf1⟩ := mx_lt hf1
            refine gw_iinc C 5 [(5, .int x84), (4, .int x82), (0, .ref (ly_a L o)), (1, .int p1), (2, .int p2), (3, .int x13)] d_Hat_waiting_84 rfl (by rw [ex84]; rfl) (by decide) rfl ?_
            refine gw_goto C 60 d_Hat_waiting_87 (by decide) ?_
            exact gw_go [2, 3, 4, 5, 1, 0] (ih60 (x82, x84) (hb60.trans hf1.symm)) rfl
        · replace hf0 := mx_t hc hf0
          have hr9 : res = none := (Option.some.inj hf0).symm
          exact hX hr9 44 _ 249 _ (List.mem_of_getElem? (i := 3) rfl) d_Hat_waiting_44 d_Hat_waiting_47 (Or.inl ⟨d_Hat_waiting_48, d_Hat_waiting_50, d_Hat_waiting_53⟩)

/-! Hat_wedding, which may throw -/
abbrev b_Hat_wedding : ByteArray := prog_1_method_25_code
def y_Hat_wedding : MethodName := ⟨"NameHat", "wedding", "(IIII)I"⟩
abbrev rm_Hat_wedding : Room := { frames := 6, cells := 1, slots := 6, locals := 116 }
theorem hd_Hat_wedding : y_Hat_wedding.cls ≠ "java/lang/invoke/MethodHandle" ∧ y_Hat_wedding.cls ≠ "java/lang/invoke/VarHandle" ∧ (parseMethodDescriptor y_Hat_wedding.desc).map (fun d => d.parameters.length) = some 4 := by decide +kernel
theorem d_Hat_wedding_0 : decode b_Hat_wedding 0 = .ok (.aload_n 0, 1) := by decide +kernel
theorem d_Hat_wedding_1 : decode b_Hat_wedding 1 = .ok (.getfield 57, 3) := by decide +kernel
theorem d_Hat_wedding_4 : decode b_Hat_wedding 4 = .ok (.getfield 121, 3) := by decide +kernel
theorem d_Hat_wedding_7 : decode b_Hat_wedding 7 = .ok (.getfield 125, 3) := by decide +kernel
theorem d_Hat_wedding_10 : decode b_Hat_wedding 10 = .ok (.getfield 186, 3) := by decide +kernel
theorem d_Hat_wedding_13 : decode b_Hat_wedding 13 = .ok (.istore 5, 2) := by decide +kernel
theorem d_Hat_wedding_15 : decode b_Hat_wedding 15 = .ok (.aload_n 0, 1) := by decide +kernel
theorem d_Hat_wedding_16 : decode b_Hat_wedding 16 = .ok (.getfield 57, 3) := by decide +kernel
theorem d_Hat_wedding_19 : decode b_Hat_wedding 19 = .ok (.getfield 121, 3) := by decide +kernel
theorem d_Hat_wedding_22 : decode b_Hat_wedding 22 = .ok (.getfield 166, 3) := by decide +kernel
theorem d_Hat_wedding_25 : decode b_Hat_wedding 25 = .ok (.iload_n 1, 1) := by decide +kernel
theorem d_Hat_wedding_26 : decode b_Hat_wedding 26 = .ok (.invokevirtual 131, 3) := by decide +kernel
theorem d_Hat_wedding_29 : decode b_Hat_wedding 29 = .ok (.ifCond .eq 31, 3) := by decide +kernel
theorem d_Hat_wedding_32 : decode b_Hat_wedding 32 = .ok (.aload_n 0, 1) := by decide +kernel
theorem d_Hat_wedding_33 : decode b_Hat_wedding 33 = .ok (.getfield 57, 3) := by decide +kernel
theorem d_Hat_wedding_36 : decode b_Hat_wedding 36 = .ok (.getfield 121, 3) := by decide +kernel
theorem d_Hat_wedding_39 : decode b_Hat_wedding 39 = .ok (.getfield 166, 3) := by decide +kernel
theorem d_Hat_wedding_42 : decode b_Hat_wedding 42 = .ok (.iload_n 2, 1) := by decide +kernel
theorem d_Hat_wedding_43 : decode b_Hat_wedding 43 = .ok (.invokevirtual 131, 3) := by decide +kernel
theorem d_Hat_wedding_46 : decode b_Hat_wedding 46 = .ok (.ifCond .eq 14, 3) := by decide +kernel
theorem d_Hat_wedding_49 : decode b_Hat_wedding 49 = .ok (.iload_n 1, 1) := by decide +kernel
theorem d_Hat_wedding_50 : decode b_Hat_wedding 50 = .ok (.iload_n 2, 1) := by decide +kernel
theorem d_Hat_wedding_51 : decode b_Hat_wedding 51 = .ok (.if_icmp .eq 9, 3) := by decide +kernel
theorem d_Hat_wedding_54 : decode b_Hat_wedding 54 = .ok (.iload 5, 2) := by decide +kernel
theorem d_Hat_wedding_56 : decode b_Hat_wedding 56 = .ok (.iconst 2, 1) := by decide +kernel
theorem d_Hat_wedding_57 : decode b_Hat_wedding 57 = .ok (.if_icmp .ge 13, 3) := by decide +kernel
theorem d_Hat_wedding_60 : decode b_Hat_wedding 60 = .ok (.new 137, 3) := by decide +kernel
theorem d_Hat_wedding_63 : decode b_Hat_wedding 63 = .ok (.dup, 1) := by decide +kernel
theorem d_Hat_wedding_64 : decode b_Hat_wedding 64 = .ok (.ldc 255, 2) := by decide +kernel
theorem d_Hat_wedding_66 : decode b_Hat_wedding 66 = .ok (.invokespecial 141, 3) := by decide +kernel
theorem d_Hat_wedding_69 : decode b_Hat_wedding 69 = .ok (.athrow, 1) := by decide +kernel
theorem d_Hat_wedding_70 : decode b_Hat_wedding 70 = .ok (.iload_n 3, 1) := by decide +kernel
theorem d_Hat_wedding_71 : decode b_Hat_wedding 71 = .ok (.ifCond .lt 19, 3) := by decide +kernel
theorem d_Hat_wedding_74 : decode b_Hat_wedding 74 = .ok (.iload_n 3, 1) := by decide +kernel
theorem d_Hat_wedding_75 : decode b_Hat_wedding 75 = .ok (.iconst 1, 1) := by decide +kernel
theorem d_Hat_wedding_76 : decode b_Hat_wedding 76 = .ok (.if_icmp .gt 14, 3) := by decide +kernel
theorem d_Hat_wedding_79 : decode b_Hat_wedding 79 = .ok (.iload 4, 2) := by decide +kernel
theorem d_Hat_wedding_81 : decode b_Hat_wedding 81 = .ok (.ifCond .lt 9, 3) := by decide +kernel
theorem d_Hat_wedding_84 : decode b_Hat_wedding 84 = .ok (.iload 4, 2) := by decide +kernel
theorem d_Hat_wedding_86 : decode b_Hat_wedding 86 = .ok (.iconst 1, 1) := by decide +kernel
theorem d_Hat_wedding_87 : decode b_Hat_wedding 87 = .ok (.if_icmp .le 14, 3) := by decide +kernel
theorem d_Hat_wedding_90 : decode b_Hat_wedding 90 = .ok (.new 137, 3) := by decide +kernel
theorem d_Hat_wedding_93 : decode b_Hat_wedding 93 = .ok (.dup, 1) := by decide +kernel
theorem d_Hat_wedding_94 : decode b_Hat_wedding 94 = .ok (.ldc_w 257, 3) := by decide +kernel
theorem d_Hat_wedding_97 : decode b_Hat_wedding 97 = .ok (.invokespecial 141, 3) := by decide +kernel
theorem d_Hat_wedding_100 : decode b_Hat_wedding 100 = .ok (.athrow, 1) := by decide +kernel
theorem d_Hat_wedding_101 : decode b_Hat_wedding 101 = .ok (.iload_n 3, 1) := by decide +kernel
theorem d_Hat_wedding_102 : decode b_Hat_wedding 102 = .ok (.ifCond .ne 12, 3) := by decide +kernel
theorem d_Hat_wedding_105 : decode b_Hat_wedding 105 = .ok (.aload_n 0, 1) := by decide +kernel
theorem d_Hat_wedding_106 : decode b_Hat_wedding 106 = .ok (.iload_n 1, 1) := by decide +kernel
theorem d_Hat_wedding_107 : decode b_Hat_wedding 107 = .ok (.iload_n 2, 1) := by decide +kernel
theorem d_Hat_wedding_108 : decode b_Hat_wedding 108 = .ok (.invokevirtual 259, 3) := by decide +kernel
theorem d_Hat_wedding_111 : decode b_Hat_wedding 111 = .ok (.goto 9, 3) := by decide +kernel
theorem d_Hat_wedding_114 : decode b_Hat_wedding 114 = .ok (.aload_n 0, 1) := by decide +kernel
theorem d_Hat_wedding_115 : decode b_Hat_wedding 115 = .ok (.iload_n 1, 1) := by decide +kernel
theorem d_Hat_wedding_116 : decode b_Hat_wedding 116 = .ok (.iload_n 2, 1) := by decide +kernel
theorem d_Hat_wedding_117 : decode b_Hat_wedding 117 = .ok (.invokevirtual 262, 3) := by decide +kernel
theorem d_Hat_wedding_120 : decode b_Hat_wedding 120 = .ok (.istore 6, 2) := by decide +kernel
theorem d_Hat_wedding_122 : decode b_Hat_wedding 122 = .ok (.iload_n 3, 1) := by decide +kernel
theorem d_Hat_wedding_123 : decode b_Hat_wedding 123 = .ok (.ifCond .ne 8, 3) := by decide +kernel
theorem d_Hat_wedding_126 : decode b_Hat_wedding 126 = .ok (.iload 5, 2) := by decide +kernel
theorem d_Hat_wedding_128 : decode b_Hat_wedding 128 = .ok (.goto 12, 3) := by decide +kernel
theorem d_Hat_wedding_131 : decode b_Hat_wedding 131 = .ok (.iload 5, 2) := by decide +kernel
theorem d_Hat_wedding_133 : decode b_Hat_wedding 133 = .ok (.iload 5, 2) := by decide +kernel
theorem d_Hat_wedding_135 : decode b_Hat_wedding 135 = .ok (.iconst 1, 1) := by decide +kernel
theorem d_Hat_wedding_136 : decode b_Hat_wedding 136 = .ok (.isub, 1) := by decide +kernel
theorem d_Hat_wedding_137 : decode b_Hat_wedding 137 = .ok (.imul, 1) := by decide +kernel
theorem d_Hat_wedding_138 : decode b_Hat_wedding 138 = .ok (.iconst 2, 1) := by decide +kernel
theorem d_Hat_wedding_139 : decode b_Hat_wedding 139 = .ok (.idiv, 1) := by decide +kernel
theorem d_Hat_wedding_140 : decode b_Hat_wedding 140 = .ok (.istore 7, 2) := by decide +kernel
theorem d_Hat_wedding_142 : decode b_Hat_wedding 142 = .ok (.iload 4, 2) := by decide +kernel
theorem d_Hat_wedding_144 : decode b_Hat_wedding 144 = .ok (.ifCond .ne 9, 3) := by decide +kernel
theorem d_Hat_wedding_147 : decode b_Hat_wedding 147 = .ok (.iload 6, 2) := by decide +kernel
theorem d_Hat_wedding_149 : decode b_Hat_wedding 149 = .ok (.i2l, 1) := by decide +kernel
theorem d_Hat_wedding_150 : decode b_Hat_wedding 150 = .ok (.goto 6, 3) := by decide +kernel
theorem d_Hat_wedding_153 : decode b_Hat_wedding 153 = .ok (.iload 7, 2) := by decide +kernel
theorem d_Hat_wedding_155 : decode b_Hat_wedding 155 = .ok (.i2l, 1) := by decide +kernel
theorem d_Hat_wedding_156 : decode b_Hat_wedding 156 = .ok (.iload 6, 2) := by decide +kernel
theorem d_Hat_wedding_158 : decode b_Hat_wedding 158 = .ok (.i2l, 1) := by decide +kernel
theorem d_Hat_wedding_159 : decode b_Hat_wedding 159 = .ok (.iload 7, 2) := by decide +kernel
theorem d_Hat_wedding_161 : decode b_Hat_wedding 161 = .ok (.i2l, 1) := by decide +kernel
theorem d_Hat_wedding_162 : decode b_Hat_wedding 162 = .ok (.invokestatic 251, 3) := by decide +kernel
theorem d_Hat_wedding_165 : decode b_Hat_wedding 165 = .ok (.l2i, 1) := by decide +kernel
theorem d_Hat_wedding_166 : decode b_Hat_wedding 166 = .ok (.ireturn, 1) := by decide +kernel
noncomputable def f_Hat_wedding_J156 (z : Nat → Nat) (o : Nat) (v6 : Int32) (v7 : Int32) (t156_0 : Int64) (m156 : Mm) : Option (Option (Int32 × Mm)) :=
  (f_Hat_inLeastNumbers z m156 t156_0 (Int32.toInt64 v6) (Int32.toInt64 v7)).bind fun q162 =>
  some (some ((Int64.toInt32 q162), m156))
noncomputable def f_Hat_wedding_J140 (z : Nat → Nat) (o : Nat) (v4 : Int32) (v6 : Int32) (t140_0 : Int32) (m140 : Mm) : Option (Option (Int32 × Mm)) :=
  if v4 = 0 then (
    f_Hat_wedding_J156 z o v6 t140_0 (Int32.toInt64 v6) m140
  ) else (
    f_Hat_wedding_J156 z o v6 t140_0 (Int32.toInt64 t140_0) m140
  )
noncomputable def f_Hat_wedding_J120 (z : Nat → Nat) (o : Nat) (v3 : Int32) (v4 : Int32) (v5 : Int32) (t120_0 : Int32) (m120 : Mm) : Option (Option (Int32 × Mm)) :=
  if v3 = 0 then (
    f_Hat_wedding_J140 z o v4 t120_0 v5 m120
  ) else (
    (mm_idiv (v5 * (v5 - (1 : Int32))) (2 : Int32)).bind fun x139 =>
    f_Hat_wedding_J140 z o v4 t120_0 x139 m120
  )
noncomputable def f_Hat_wedding (z : Nat → Nat) (σ : Mm) (o : Nat) (p1 : Int32) (p2 : Int32) (p3 : Int32) (p4 : Int32) : Option (Option (Int32 × Mm)) :=
  mm_lt ((σ.1 (o + 62) 1)) fun x13 =>
  (f_Names_has z σ (o + 64) p1).bind fun q26 =>
  if q26 = 0 then (
    some none
  ) else (
    (f_Names_has z σ (o + 64) p2).bind fun q43 =>
    if q43 = 0 then (
      some none
    ) else (
      if p1 = p2 then (
        some none
      ) else (
        if (2 : Int32) ≤ x13 then (
          if p3 < 0 then (
            some none
          ) else (
            if (1 : Int32) < p3 then (
              some none
            ) else (
              if p4 < 0 then (
                some none
              ) else (
                if p4 ≤ (1 : Int32) then (
                  if p3 = 0 then (
                    (f_Hat_bothOfOne z σ o p1 p2).bind fun q108 =>
                    f_Hat_wedding_J120 z o p3 p4 x13 q108 σ
                  ) else (
                    (f_Hat_bothOfTheBetter z σ o p1 p2).bind fun q117 =>
                    f_Hat_wedding_J120 z o p3 p4 x13 q117 σ
                  )
                ) else (
                  some none
                )
              )
            )
          )
        ) else (
          some none
        )
      )
    )
  )
set_option maxHeartbeats 4000000 in
set_option maxRecDepth 100000 in
theorem c_Hat_wedding (l : Launch) (hl : l.stackTraces = false) {L : Ly} (hg : gd_ok L) {σ : Mm} {o : Nat} {p1 : Int32} {p2 : Int32} {p3 : Int32} {p4 : Int32} (k_o_0 : ly_k L o = 10) {res : Option (Int32 × Mm)} (hf0 : f_Hat_wedding (ly_z L) σ o p1 p2 p3 p4 = some res) : CxI l y_Hat_wedding b_Hat_wedding 8 rm_Hat_wedding L [.ref (ly_a L o), .int p1, .int p2, .int p3, .int p4] σ res := by
  refine ct_xi hl hg (by decide) rfl (Nat.le_of_ble_eq_true rfl) ⟨rfl, rfl, Nat.le_of_ble_eq_true rfl, Nat.le_of_ble_eq_true rfl⟩ ?_
  intro E A Q hE C hN hX
  subst hE
  have k_o_60 : ly_k L (o + 60) = 4 := gd_Hat_now hg k_o_0
  have k_o_61 : ly_k L (o + 61) = 2 := gd_State_island hg k_o_60
  have k_o_62 : ly_k L (o + 62) = 1 := gd_Island_surnames hg k_o_61
  have k_o_64 : ly_k L (o + 64) = 1 := gd_Island_houses hg k_o_61
  unfold f_Hat_wedding at hf0
  show GW E L A 8 0 0 Q σ 0 [(0, .ref (ly_a L o)), (1, .int p1), (2, .int p2), (3, .int p3), (4, .int p4)] []
  have hj156 : ∀ (v6 : Int32) (v7 : Int32) (t156_0 : Int64) (m156 : Mm), f_Hat_wedding_J156 (ly_z L) o v6 v7 t156_0 m156 = some res → GW E L A 8 0 0 Q m156 156 [(6, .int v6), (7, .int v7)] [.long t156_0] := by
    intro v6 v7 t156_0 m156 hf0
    unfold f_Hat_wedding_J156 at hf0
    refine gw_iload C 0 d_Hat_wedding_156 rfl ?_
    refine gw_i2l C d_Hat_wedding_158 ?_
    refine gw_iload C 1 d_Hat_wedding_159 rfl ?_
    refine gw_i2l C d_Hat_wedding_161 ?_
    obtain ⟨q162, hq162, hf0⟩ := mx_bd hf0
    refine gw_callLS C (c_Hat_inLeastNumbers _ hg hq162) d_Hat_wedding_162 3 qw_1087 qw_1088 qw_1 qw_1089 hd_Hat_inLeastNumbers rfl rfl (Nat.le_of_ble_eq_true rfl) ⟨rfl, rfl, Nat.le_of_ble_eq_true rfl, Nat.le_of_ble_eq_true rfl⟩ ⟨Nat.zero_le _, Nat.zero_le _⟩ ?_
    refine gw_l2i C d_Hat_wedding_165 ?_
    exact hN _ _ _ _ (Option.some.inj hf0).symm d_Hat_wedding_166
  have hj140 : ∀ (v4 : Int32) (v6 : Int32) (t140_0 : Int32) (m140 : Mm), f_Hat_wedding_J140 (ly_z L) o v4 v6 t140_0 m140 = some res → GW E L A 8 0 0 Q m140 140 [(4, .int v4), (6, .int v6)] [.int t140_0] := by
    intro v4 v6 t140_0 m140 hf0
    unfold f_Hat_wedding_J140 at hf0
    refine gw_istore C [(7, .int t140_0), (4, .int v4), (6, .int v6)] d_Hat_wedding_140 (by decide) rfl ?_
    refine gw_iload C 1 d_Hat_wedding_142 rfl ?_
    refine gw_if_ne C 153 d_Hat_wedding_144 (by decide) (fun hc => ?_) (fun hc => ?_)
    · replace hf0 := mx_f hc hf0
      refine gw_iload C 0 d_Hat_wedding_153 rfl ?_
      refine gw_i2l C d_Hat_wedding_155 ?_
      exact gw_go [2, 0] (hj156 _ _ _ _ hf0) rfl
    · replace hf0 := mx_t hc hf0
      refine gw_iload C 2 d_Hat_wedding_147 rfl ?_
      refine gw_i2l C d_Hat_wedding_149 ?_
      refine gw_goto C 156 d_Hat_wedding_150 (by decide) ?_
      exact gw_go [2, 0] (hj156 _ _ _ _ hf0) rfl
  have hj120 : ∀ (v3 : Int32) (v4 : Int32) (v5 : Int32) (t120_0 : Int32) (m120 : Mm), f_Hat_wedding_J120 (ly_z L) o v3 v4 v5 t120_0 m120 = some res → GW E L A 8 0 0 Q m120 120 [(3, .int v3), (4, .int v4), (5, .int v5)] [.int t120_0] := by
    intro v3 v4 v5 t120_0 m120 hf0
    unfold f_Hat_wedding_J120 at hf0
    refine gw_istore C [(6, .int t120_0), (3, .int v3), (4, .int v4), (5, .int v5)] d_Hat_wedding_120 (by decide) rfl ?_
    refine gw_iload_n C 1 d_Hat_wedding_122 rfl rfl ?_
    refine gw_if_ne C 131 d_Hat_wedding_123 (by decide) (fun hc => ?_) (fun hc => ?_)
    · replace hf0 := mx_f hc hf0
      refine gw_iload C 3 d_Hat_wedding_131 rfl ?_
      refine gw_iload C 3 d_Hat_wedding_133 rfl ?_
      refine gw_iconst C (1 : Int32) d_Hat_wedding_135 (by decide) ?_
      refine gw_isub C d_Hat_wedding_136 ?_
      refine gw_imul C d_Hat_wedding_137 ?_
      refine gw_iconst C (2 : Int32) d_Hat_wedding_138 (by decide) ?_
      obtain ⟨x139, hx139, hf0⟩ := mx_bd hf0
      obtain ⟨nx139, ex139⟩ := mx_idiv hx139
      refine gw_idiv C d_Hat_wedding_139 nx139 ?_
      refine gw_topi ex139 ?_
      exact gw_go [2, 0] (hj140 _ _ _ _ hf0) rfl
    · replace hf0 := mx_t hc hf0
      refine gw_iload C 3 d_Hat_wedding_126 rfl ?_
      refine gw_goto C 140 d_Hat_wedding_128 (by decide) ?_
      exact gw_go [2, 0] (hj140 _ _ _ _ hf0) rfl
  refine gw_aload_n C 0 d_Hat_wedding_0 rfl rfl ?_
  refine gw_getA C 7 d_Hat_wedding_1 k_o_0 (by decide) i_Hat rfl rfl (by decide) qw_410 rfl rfl (o + 60) rfl ?_
  refine gw_getAN C 0 d_Hat_wedding_4 k_o_60 (by decide) i_State rfl rfl (by decide) qw_237 rfl rfl (o + 61) rfl ?_
  refine gw_getAN C 0 d_Hat_wedding_7 k_o_61 (by decide) i_Island rfl rfl (by decide) qw_128 rfl rfl (o + 62) rfl ?_
  refine gw_getIN C 1 d_Hat_wedding_10 k_o_62 (by decide) i_Names rfl rfl (by decide) qw_115 rfl rfl ?_
  obtain ⟨x13, ex13, hf0⟩ := mx_lt hf0
  refine gw_topi ex13 ?_
  refine gw_istore C [(5, .int x13), (0, .ref (ly_a L o)), (1, .int p1), (2, .int p2), (3, .int p3), (4, .int p4)] d_Hat_wedding_13 (by decide) rfl ?_
  refine gw_aload_n C 1 d_Hat_wedding_15 rfl rfl ?_
  refine gw_getA C 7 d_Hat_wedding_16 k_o_0 (by decide) i_Hat rfl rfl (by decide) qw_410 rfl rfl (o + 60) rfl ?_
  refine gw_getAN C 0 d_Hat_wedding_19 k_o_60 (by decide) i_State rfl rfl (by decide) qw_237 rfl rfl (o + 61) rfl ?_
  refine gw_getAN C 1 d_Hat_wedding_22 k_o_61 (by decide) i_Island rfl rfl (by decide) qw_136 rfl rfl (o + 64) rfl ?_
  refine gw_iload_n C 2 d_Hat_wedding_25 rfl rfl ?_
  obtain ⟨q26, hq26, hf0⟩ := mx_bd hf0
  refine gw_callI C (c_Names_has _ hg k_o_64 hq26) d_Hat_wedding_26 1 qw_754 qw_738 qw_739 qw_7 qw_740 k_o_64 (by decide) rfl hd_Names_has rfl rfl (Nat.le_of_ble_eq_true rfl) ⟨rfl, rfl, Nat.le_of_ble_eq_true rfl, Nat.le_of_ble_eq_true rfl⟩ ⟨Nat.zero_le _, Nat.zero_le _⟩ ?_
  refine gw_if_eq C 60 d_Hat_wedding_29 (by decide) (fun hc => ?_) (fun hc => ?_)
  · replace hf0 := mx_t hc hf0
    have hr9 : res = none := (Option.some.inj hf0).symm
    exact hX hr9 60 _ 255 _ (List.mem_of_getElem? (i := 4) rfl) d_Hat_wedding_60 d_Hat_wedding_63 (Or.inl ⟨d_Hat_wedding_64, d_Hat_wedding_66, d_Hat_wedding_69⟩)
  · replace hf0 := mx_f hc hf0
    refine gw_aload_n C 1 d_Hat_wedding_32 rfl rfl ?_
    refine gw_getA C 7 d_Hat_wedding_33 k_o_0 (by decide) i_Hat rfl rfl (by decide) qw_410 rfl rfl (o + 60) rfl ?_
    refine gw_getAN C 0 d_Hat_wedding_36 k_o_60 (by decide) i_State rfl rfl (by decide) qw_237 rfl rfl (o + 61) rfl ?_
    refine gw_getAN C 1 d_Hat_wedding_39 k_o_61 (by decide) i_Island rfl rfl (by decide) qw_136 rfl rfl (o + 64) rfl ?_
    refine gw_iload_n C 3 d_Hat_wedding_42 rfl rfl ?_
    obtain ⟨q43, hq43, hf0⟩ := mx_bd hf0
    refine gw_callI C (c_Names_has _ hg k_o_64 hq43) d_Hat_wedding_43 1 qw_754 qw_738 qw_739 qw_7 qw_740 k_o_64 (by decide) rfl hd_Names_has rfl rfl (Nat.le_of_ble_eq_true rfl) ⟨rfl, rfl, Nat.le_of_ble_eq_true rfl, Nat.le_of_ble_eq_true rfl⟩ ⟨Nat.zero_le _, Nat.zero_le _⟩ ?_
    refine gw_if_eq C 60 d_Hat_wedding_46 (by decide) (fun hc => ?_) (fun hc => ?_)
    · replace hf0 := mx_t hc hf0
      have hr9 : res = none := (Option.some.inj hf0).symm
      exact hX hr9 60 _ 255 _ (List.mem_of_getElem? (i := 4) rfl) d_Hat_wedding_60 d_Hat_wedding_63 (Or.inl ⟨d_Hat_wedding_64, d_Hat_wedding_66, d_Hat_wedding_69⟩)
    · replace hf0 := mx_f hc hf0
      refine gw_iload_n C 2 d_Hat_wedding_49 rfl rfl ?_
      refine gw_iload_n C 3 d_Hat_wedding_50 rfl rfl ?_
      refine gw_icmp_eq C 60 d_Hat_wedding_51 (by decide) (fun hc => ?_) (fun hc => ?_)
      · replace hf0 := mx_t hc hf0
        have hr9 : res = none := (Option.some.inj hf0).symm
        exact hX hr9 60 _ 255 _ (List.mem_of_getElem? (i := 4) rfl) d_Hat_wedding_60 d_Hat_wedding_63 (Or.inl ⟨d_Hat_wedding_64, d_Hat_wedding_66, d_Hat_wedding_69⟩)
      · replace hf0 := mx_f hc hf0
        refine gw_iload C 0 d_Hat_wedding_54 rfl ?_
        refine gw_iconst C (2 : Int32) d_Hat_wedding_56 (by decide) ?_
        refine gw_icmp_ge C 70 d_Hat_wedding_57 (by decide) (fun hc => ?_) (fun hc => ?_)
        · replace hf0 := mx_t hc hf0
          refine gw_iload_n C 4 d_Hat_wedding_70 rfl rfl ?_
          refine gw_if_lt C 90 d_Hat_wedding_71 (by decide) (fun hc => ?_) (fun hc => ?_)
          · replace hf0 := mx_t hc hf0
            have hr9 : res = none := (Option.some.inj hf0).symm
            exact hX hr9 90 _ 257 _ (List.mem_of_getElem? (i := 5) rfl) d_Hat_wedding_90 d_Hat_wedding_93 (Or.inr ⟨d_Hat_wedding_94, d_Hat_wedding_97, d_Hat_wedding_100⟩)
          · replace hf0 := mx_f hc hf0
            refine gw_iload_n C 4 d_Hat_wedding_74 rfl rfl ?_
            refine gw_iconst C (1 : Int32) d_Hat_wedding_75 (by decide) ?_
            refine gw_icmp_gt C 90 d_Hat_wedding_76 (by decide) (fun hc => ?_) (fun hc => ?_)
            · replace hf0 := mx_t hc hf0
              have hr9 : res = none := (Option.some.inj hf0).symm
              exact hX hr9 90 _ 257 _ (List.mem_of_getElem? (i := 5) rfl) d_Hat_wedding_90 d_Hat_wedding_93 (Or.inr ⟨d_Hat_wedding_94, d_Hat_wedding_97, d_Hat_wedding_100⟩)
            · replace hf0 := mx_f hc hf0
              refine gw_iload C 5 d_Hat_wedding_79 rfl ?_
              refine gw_if_lt C 90 d_Hat_wedding_81 (by decide) (fun hc => ?_) (fun hc => ?_)
              · replace hf0 := mx_t hc hf0
                have hr9 : res = none := (Option.some.inj hf0).symm
                exact hX hr9 90 _ 257 _ (List.mem_of_getElem? (i := 5) rfl) d_Hat_wedding_90 d_Hat_wedding_93 (Or.inr ⟨d_Hat_wedding_94, d_Hat_wedding_97, d_Hat_wedding_100⟩)
              · replace hf0 := mx_f hc hf0
                refine gw_iload C 5 d_Hat_wedding_84 rfl ?_
                refine gw_iconst C (1 : Int32) d_Hat_wedding_86 (by decide) ?_
                refine gw_icmp_le C 101 d_Hat_wedding_87 (by decide) (fun hc => ?_) (fun hc => ?_)
                · replace hf0 := mx_t hc hf0
                  refine gw_iload_n C 4 d_Hat_wedding_101 rfl rfl ?_
                  refine gw_if_ne C 114 d_Hat_wedding_102 (by decide) (fun hc => ?_) (fun hc => ?_)
                  · replace hf0 := mx_f hc hf0
                    refine gw_aload_n C 1 d_Hat_wedding_114 rfl rfl ?_
                    refine gw_iload_n C 2 d_Hat_wedding_115 rfl rfl ?_
                    refine gw_iload_n C 3 d_Hat_wedding_116 rfl rfl ?_
                    obtain ⟨q117, hq117, hf0⟩ := mx_bd hf0
                    refine gw_callI C (c_Hat_bothOfTheBetter _ hg k_o_0 hq117) d_Hat_wedding_117 2 qw_1111 qw_1113 qs_35 qw_1 qw_1114 k_o_0 (by decide) rfl hd_Hat_bothOfTheBetter rfl rfl (Nat.le_of_ble_eq_true rfl) ⟨rfl, rfl, Nat.le_of_ble_eq_true rfl, Nat.le_of_ble_eq_true rfl⟩ ⟨Nat.zero_le _, Nat.zero_le _⟩ ?_
                    exact gw_go [4, 5, 0] (hj120 _ _ _ _ _ hf0) rfl
                  · replace hf0 := mx_t hc hf0
                    refine gw_aload_n C 1 d_Hat_wedding_105 rfl rfl ?_
                    refine gw_iload_n C 2 d_Hat_wedding_106 rfl rfl ?_
                    refine gw_iload_n C 3 d_Hat_wedding_107 rfl rfl ?_
                    obtain ⟨q108, hq108, hf0⟩ := mx_bd hf0
                    refine gw_callI C (c_Hat_bothOfOne _ hg k_o_0 hq108) d_Hat_wedding_108 2 qw_1102 qw_1104 qs_34 qw_1 qw_1105 k_o_0 (by decide) rfl hd_Hat_bothOfOne rfl rfl (Nat.le_of_ble_eq_true rfl) ⟨rfl, rfl, Nat.le_of_ble_eq_true rfl, Nat.le_of_ble_eq_true rfl⟩ ⟨Nat.zero_le _, Nat.zero_le _⟩ ?_
                    refine gw_goto C 120 d_Hat_wedding_111 (by decide) ?_
                    exact gw_go [4, 5, 0] (hj120 _ _ _ _ _ hf0) rfl
                · replace hf0 := mx_f hc hf0
                  have hr9 : res = none := (Option.some.inj hf0).symm
                  exact hX hr9 90 _ 257 _ (List.mem_of_getElem? (i := 5) rfl) d_Hat_wedding_90 d_Hat_wedding_93 (Or.inr ⟨d_Hat_wedding_94, d_Hat_wedding_97, d_Hat_wedding_100⟩)
        · replace hf0 := mx_f hc hf0
          have hr9 : res = none := (Option.some.inj hf0).symm
          exact hX hr9 60 _ 255 _ (List.mem_of_getElem? (i := 4) rfl) d_Hat_wedding_60 d_Hat_wedding_63 (Or.inl ⟨d_Hat_wedding_64, d_Hat_wedding_66, d_Hat_wedding_69⟩)

/-! Hat_luck, which may throw -/
abbrev b_Hat_luck : ByteArray := prog_1_method_40_code
def y_Hat_luck : MethodName := ⟨"NameHat", "luck", "(III)J"⟩
abbrev rm_Hat_luck : Room := { frames := 6, cells := 1, slots := 6, locals := 82 }
theorem hd_Hat_luck : y_Hat_luck.cls ≠ "java/lang/invoke/MethodHandle" ∧ y_Hat_luck.cls ≠ "java/lang/invoke/VarHandle" ∧ (parseMethodDescriptor y_Hat_luck.desc).map (fun d => d.parameters.length) = some 3 := by decide +kernel
theorem d_Hat_luck_0 : decode b_Hat_luck 0 = .ok (.aload_n 0, 1) := by decide +kernel
theorem d_Hat_luck_1 : decode b_Hat_luck 1 = .ok (.iload_n 1, 1) := by decide +kernel
theorem d_Hat_luck_2 : decode b_Hat_luck 2 = .ok (.iload_n 2, 1) := by decide +kernel
theorem d_Hat_luck_3 : decode b_Hat_luck 3 = .ok (.invokevirtual 305, 3) := by decide +kernel
theorem d_Hat_luck_6 : decode b_Hat_luck 6 = .ok (.ifCond .eq 12, 3) := by decide +kernel
theorem d_Hat_luck_9 : decode b_Hat_luck 9 = .ok (.iload_n 3, 1) := by decide +kernel
theorem d_Hat_luck_10 : decode b_Hat_luck 10 = .ok (.ifCond .lt 8, 3) := by decide +kernel
theorem d_Hat_luck_13 : decode b_Hat_luck 13 = .ok (.iload_n 3, 1) := by decide +kernel
theorem d_Hat_luck_14 : decode b_Hat_luck 14 = .ok (.iconst 2, 1) := by decide +kernel
theorem d_Hat_luck_15 : decode b_Hat_luck 15 = .ok (.if_icmp .le 14, 3) := by decide +kernel
theorem d_Hat_luck_18 : decode b_Hat_luck 18 = .ok (.new 137, 3) := by decide +kernel
theorem d_Hat_luck_21 : decode b_Hat_luck 21 = .ok (.dup, 1) := by decide +kernel
theorem d_Hat_luck_22 : decode b_Hat_luck 22 = .ok (.ldc_w 309, 3) := by decide +kernel
theorem d_Hat_luck_25 : decode b_Hat_luck 25 = .ok (.invokespecial 141, 3) := by decide +kernel
theorem d_Hat_luck_28 : decode b_Hat_luck 28 = .ok (.athrow, 1) := by decide +kernel
theorem d_Hat_luck_29 : decode b_Hat_luck 29 = .ok (.iload_n 3, 1) := by decide +kernel
theorem d_Hat_luck_30 : decode b_Hat_luck 30 = .ok (.iconst 2, 1) := by decide +kernel
theorem d_Hat_luck_31 : decode b_Hat_luck 31 = .ok (.if_icmp .ne 14, 3) := by decide +kernel
theorem d_Hat_luck_34 : decode b_Hat_luck 34 = .ok (.aload_n 0, 1) := by decide +kernel
theorem d_Hat_luck_35 : decode b_Hat_luck 35 = .ok (.getfield 57, 3) := by decide +kernel
theorem d_Hat_luck_38 : decode b_Hat_luck 38 = .ok (.iload_n 1, 1) := by decide +kernel
theorem d_Hat_luck_39 : decode b_Hat_luck 39 = .ok (.iload_n 2, 1) := by decide +kernel
theorem d_Hat_luck_40 : decode b_Hat_luck 40 = .ok (.invokevirtual 311, 3) := by decide +kernel
theorem d_Hat_luck_43 : decode b_Hat_luck 43 = .ok (.i2l, 1) := by decide +kernel
theorem d_Hat_luck_44 : decode b_Hat_luck 44 = .ok (.lreturn, 1) := by decide +kernel
theorem d_Hat_luck_45 : decode b_Hat_luck 45 = .ok (.aload_n 0, 1) := by decide +kernel
theorem d_Hat_luck_46 : decode b_Hat_luck 46 = .ok (.iload_n 1, 1) := by decide +kernel
theorem d_Hat_luck_47 : decode b_Hat_luck 47 = .ok (.iload_n 2, 1) := by decide +kernel
theorem d_Hat_luck_48 : decode b_Hat_luck 48 = .ok (.invokevirtual 314, 3) := by decide +kernel
theorem d_Hat_luck_51 : decode b_Hat_luck 51 = .ok (.lstore 4, 2) := by decide +kernel
theorem d_Hat_luck_53 : decode b_Hat_luck 53 = .ok (.aload_n 0, 1) := by decide +kernel
theorem d_Hat_luck_54 : decode b_Hat_luck 54 = .ok (.invokevirtual 318, 3) := by decide +kernel
theorem d_Hat_luck_57 : decode b_Hat_luck 57 = .ok (.lstore 6, 2) := by decide +kernel
theorem d_Hat_luck_59 : decode b_Hat_luck 59 = .ok (.iload_n 3, 1) := by decide +kernel
theorem d_Hat_luck_60 : decode b_Hat_luck 60 = .ok (.ifCond .ne 8, 3) := by decide +kernel
theorem d_Hat_luck_63 : decode b_Hat_luck 63 = .ok (.lload 4, 2) := by decide +kernel
theorem d_Hat_luck_65 : decode b_Hat_luck 65 = .ok (.goto 5, 3) := by decide +kernel
theorem d_Hat_luck_68 : decode b_Hat_luck 68 = .ok (.lload 6, 2) := by decide +kernel
theorem d_Hat_luck_70 : decode b_Hat_luck 70 = .ok (.lload 4, 2) := by decide +kernel
theorem d_Hat_luck_72 : decode b_Hat_luck 72 = .ok (.lload 6, 2) := by decide +kernel
theorem d_Hat_luck_74 : decode b_Hat_luck 74 = .ok (.invokestatic 251, 3) := by decide +kernel
theorem d_Hat_luck_77 : decode b_Hat_luck 77 = .ok (.lreturn, 1) := by decide +kernel
noncomputable def f_Hat_luck_J70 (z : Nat → Nat) (o : Nat) (v4 : Int64) (v6 : Int64) (t70_0 : Int64) (m70 : Mm) : Option (Option (Int64 × Mm)) :=
  (f_Hat_inLeastNumbers z m70 t70_0 v4 v6).bind fun q74 =>
  some (some (q74, m70))
noncomputable def f_Hat_luck (z : Nat → Nat) (σ : Mm) (o : Nat) (p1 : Int32) (p2 : Int32) (p3 : Int32) : Option (Option (Int64 × Mm)) :=
  (f_Hat_tellsLuck z σ o p1 p2).bind fun q3 =>
  if q3 = 0 then (
    some none
  ) else (
    if p3 < 0 then (
      some none
    ) else (
      if p3 ≤ (2 : Int32) then (
        if p3 = (2 : Int32) then (
          (f_State_drewOfWorth z σ (o + 60) p1 p2).bind fun q40 =>
          some (some ((Int32.toInt64 q40), σ))
        ) else (
          (f_Hat_luckyWays z σ o p1 p2).bind fun q48 =>
          (f_Hat_allWays z q48.2 o).bind fun q54 =>
          if p3 = 0 then (
            f_Hat_luck_J70 z o q48.1 q54 q48.1 q48.2
          ) else (
            f_Hat_luck_J70 z o q48.1 q54 q54 q48.2
          )
        )
      ) else (
        some none
      )
    )
  )
set_option maxHeartbeats 4000000 in
set_option maxRecDepth 100000 in
theorem c_Hat_luck (l : Launch) (hl : l.stackTraces = false) {L : Ly} (hg : gd_ok L) {σ : Mm} {o : Nat} {p1 : Int32} {p2 : Int32} {p3 : Int32} (k_o_0 : ly_k L o = 10) {res : Option (Int64 × Mm)} (hf0 : f_Hat_luck (ly_z L) σ o p1 p2 p3 = some res) : CxL l y_Hat_luck b_Hat_luck 8 rm_Hat_luck L [.ref (ly_a L o), .int p1, .int p2, .int p3] σ res := by
  refine ct_xl hl hg (by decide) rfl (Nat.le_of_ble_eq_true rfl) ⟨rfl, rfl, Nat.le_of_ble_eq_true rfl, Nat.le_of_ble_eq_true rfl⟩ ?_
  intro E A Q hE C hN hX
  subst hE
  have k_o_60 : ly_k L (o + 60) = 4 := gd_Hat_now hg k_o_0
  unfold f_Hat_luck at hf0
  show GW E L A 8 0 0 Q σ 0 [(0, .ref (ly_a L o)), (1, .int p1), (2, .int p2), (3, .int p3)] []
  have hj70 : ∀ (v4 : Int64) (v6 : Int64) (t70_0 : Int64) (m70 : Mm), f_Hat_luck_J70 (ly_z L) o v4 v6 t70_0 m70 = some res → GW E L A 8 0 0 Q m70 70 [(4, .long v4), (6, .long v6)] [.long t70_0] := by
    intro v4 v6 t70_0 m70 hf0
    unfold f_Hat_luck_J70 at hf0
    refine gw_lload C 0 d_Hat_luck_70 rfl ?_
    refine gw_lload C 1 d_Hat_luck_72 rfl ?_
    obtain ⟨q74, hq74, hf0⟩ := mx_bd hf0
    refine gw_callLS C (c_Hat_inLeastNumbers _ hg hq74) d_Hat_luck_74 3 qw_1087 qw_1088 qw_1 qw_1089 hd_Hat_inLeastNumbers rfl rfl (Nat.le_of_ble_eq_true rfl) ⟨rfl, rfl, Nat.le_of_ble_eq_true rfl, Nat.le_of_ble_eq_true rfl⟩ ⟨Nat.zero_le _, Nat.zero_le _⟩ ?_
    exact hN _ _ _ _ (Option.some.inj hf0).symm d_Hat_luck_77
  refine gw_aload_n C 0 d_Hat_luck_0 rfl rfl ?_
  refine gw_iload_n C 1 d_Hat_luck_1 rfl rfl ?_
  refine gw_iload_n C 2 d_Hat_luck_2 rfl rfl ?_
  obtain ⟨q3, hq3, hf0⟩ := mx_bd hf0
  refine gw_callI C (c_Hat_tellsLuck _ hg k_o_0 hq3) d_Hat_luck_3 2 qw_957 qw_959 qs_30 qw_1 qw_960 k_o_0 (by decide) rfl hd_Hat_tellsLuck rfl rfl (Nat.le_of_ble_eq_true rfl) ⟨rfl, rfl, Nat.le_of_ble_eq_true rfl, Nat.le_of_ble_eq_true rfl⟩ ⟨Nat.zero_le _, Nat.zero_le _⟩ ?_
  refine gw_if_eq C 18 d_Hat_luck_6 (by decide) (fun hc => ?_) (fun hc => ?_)
  · replace hf0 := mx_t hc hf0
    have hr9 : res = none := (Option.some.inj hf0).symm
    exact hX hr9 18 _ 309 _ (List.mem_of_getElem? (i := 6) rfl) d_Hat_luck_18 d_Hat_luck_21 (Or.inr ⟨d_Hat_luck_22, d_Hat_luck_25, d_Hat_luck_28⟩)
  · replace hf0 := mx_f hc hf0
    refine gw_iload_n C 3 d_Hat_luck_9 rfl rfl ?_
    refine gw_if_lt C 18 d_Hat_luck_10 (by decide) (fun hc => ?_) (fun hc => ?_)
    · replace hf0 := mx_t hc hf0
      have hr9 : res = none := (Option.some.inj hf0).symm
      exact hX hr9 18 _ 309 _ (List.mem_of_getElem? (i := 6) rfl) d_Hat_luck_18 d_Hat_luck_21 (Or.inr ⟨d_Hat_luck_22, d_Hat_luck_25, d_Hat_luck_28⟩)
    · replace hf0 := mx_f hc hf0
      refine gw_iload_n C 3 d_Hat_luck_13 rfl rfl ?_
      refine gw_iconst C (2 : Int32) d_Hat_luck_14 (by decide) ?_
      refine gw_icmp_le C 29 d_Hat_luck_15 (by decide) (fun hc => ?_) (fun hc => ?_)
      · replace hf0 := mx_t hc hf0
        refine gw_iload_n C 3 d_Hat_luck_29 rfl rfl ?_
        refine gw_iconst C (2 : Int32) d_Hat_luck_30 (by decide) ?_
        refine gw_icmp_ne C 45 d_Hat_luck_31 (by decide) (fun hc => ?_) (fun hc => ?_)
        · replace hf0 := mx_f hc hf0
          refine gw_aload_n C 0 d_Hat_luck_45 rfl rfl ?_
          refine gw_iload_n C 1 d_Hat_luck_46 rfl rfl ?_
          refine gw_iload_n C 2 d_Hat_luck_47 rfl rfl ?_
          obtain ⟨q48, hq48, hf0⟩ := mx_bd hf0
          refine gw_callL C (c_Hat_luckyWays _ hg k_o_0 hq48) d_Hat_luck_48 2 qw_961 qw_963 qs_31 qw_1 qw_964 k_o_0 (by decide) rfl hd_Hat_luckyWays rfl rfl (Nat.le_of_ble_eq_true rfl) ⟨rfl, rfl, Nat.le_of_ble_eq_true rfl, Nat.le_of_ble_eq_true rfl⟩ ⟨Nat.zero_le _, Nat.zero_le _⟩ ?_
          refine gw_lstore C [(4, .long q48.1), (0, .ref (ly_a L o)), (1, .int p1), (2, .int p2), (3, .int p3)] d_Hat_luck_51 (by decide) rfl ?_
          refine gw_aload_n C 1 d_Hat_luck_53 rfl rfl ?_
          obtain ⟨q54, hq54, hf0⟩ := mx_bd hf0
          refine gw_callL C (c_Hat_allWays _ hg k_o_0 hq54) d_Hat_luck_54 0 qw_973 qw_975 qs_32 qw_1 qw_976 k_o_0 (by decide) rfl hd_Hat_allWays rfl rfl (Nat.le_of_ble_eq_true rfl) ⟨rfl, rfl, Nat.le_of_ble_eq_true rfl, Nat.le_of_ble_eq_true rfl⟩ ⟨Nat.zero_le _, Nat.zero_le _⟩ ?_
          refine gw_lstore C [(6, .long q54), (4, .long q48.1), (0, .ref (ly_a L o)), (1, .int p1), (2, .int p2), (3, .int p3)] d_Hat_luck_57 (by decide) rfl ?_
          refine gw_iload_n C 5 d_Hat_luck_59 rfl rfl ?_
          refine gw_if_ne C 68 d_Hat_luck_60 (by decide) (fun hc => ?_) (fun hc => ?_)
          · replace hf0 := mx_f hc hf0
            refine gw_lload C 0 d_Hat_luck_68 rfl ?_
            exact gw_go [1, 0] (hj70 _ _ _ _ hf0) rfl
          · replace hf0 := mx_t hc hf0
            refine gw_lload C 1 d_Hat_luck_63 rfl ?_
            refine gw_goto C 70 d_Hat_luck_65 (by decide) ?_
            exact gw_go [1, 0] (hj70 _ _ _ _ hf0) rfl
        · replace hf0 := mx_t hc hf0
          refine gw_aload_n C 0 d_Hat_luck_34 rfl rfl ?_
          refine gw_getA C 7 d_Hat_luck_35 k_o_0 (by decide) i_Hat rfl rfl (by decide) qw_410 rfl rfl (o + 60) rfl ?_
          refine gw_iload_n C 1 d_Hat_luck_38 rfl rfl ?_
          refine gw_iload_n C 2 d_Hat_luck_39 rfl rfl ?_
          obtain ⟨q40, hq40, hf0⟩ := mx_bd hf0
          refine gw_callI C (c_State_drewOfWorth _ hg k_o_60 hq40) d_Hat_luck_40 2 qw_969 qw_970 qw_971 qw_5 qw_972 k_o_60 (by decide) rfl hd_State_drewOfWorth rfl rfl (Nat.le_of_ble_eq_true rfl) ⟨rfl, rfl, Nat.le_of_ble_eq_true rfl, Nat.le_of_ble_eq_true rfl⟩ ⟨Nat.zero_le _, Nat.zero_le _⟩ ?_
          refine gw_i2l C d_Hat_luck_43 ?_
          exact hN _ _ _ _ (Option.some.inj hf0).symm d_Hat_luck_44
      · replace hf0 := mx_f hc hf0
        have hr9 : res = none := (Option.some.inj hf0).symm
        exact hX hr9 18 _ 309 _ (List.mem_of_getElem? (i := 6) rfl) d_Hat_luck_18 d_Hat_luck_21 (Or.inr ⟨d_Hat_luck_22, d_Hat_luck_25, d_Hat_luck_28⟩)

