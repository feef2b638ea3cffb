/-! NameHat.Seating.find(LNameHat.Island;LNameHat.Hands;)I -/
abbrev b_Seating_find : ByteArray := prog_9_method_2_code
def y_Seating_find : MethodName := ⟨"NameHat$Seating", "find", "(LNameHat$Island;LNameHat$Hands;)I"⟩
abbrev rm_Seating_find : Room := { frames := 12, cells := 0, slots := 0, locals := 686 }
theorem hd_Seating_find : y_Seating_find.cls ≠ "java/lang/invoke/MethodHandle" ∧ y_Seating_find.cls ≠ "java/lang/invoke/VarHandle" ∧ (parseMethodDescriptor y_Seating_find.desc).map (fun d => d.parameters.length) = some 2 := by decide +kernel
theorem d_Seating_find_0 : decode b_Seating_find 0 = .ok (.aload_n 0, 1) := by decide +kernel
theorem d_Seating_find_1 : decode b_Seating_find 1 = .ok (.aload_n 1, 1) := by decide +kernel
theorem d_Seating_find_2 : decode b_Seating_find 2 = .ok (.getfield 36, 3) := by decide +kernel
theorem d_Seating_find_5 : decode b_Seating_find 5 = .ok (.getfield 42, 3) := by decide +kernel
theorem d_Seating_find_8 : decode b_Seating_find 8 = .ok (.putfield 47, 3) := by decide +kernel
theorem d_Seating_find_11 : decode b_Seating_find 11 = .ok (.aload_n 0, 1) := by decide +kernel
theorem d_Seating_find_12 : decode b_Seating_find 12 = .ok (.aload_n 1, 1) := by decide +kernel
theorem d_Seating_find_13 : decode b_Seating_find 13 = .ok (.getfield 49, 3) := by decide +kernel
theorem d_Seating_find_16 : decode b_Seating_find 16 = .ok (.putfield 52, 3) := by decide +kernel
theorem d_Seating_find_19 : decode b_Seating_find 19 = .ok (.aload_n 0, 1) := by decide +kernel
theorem d_Seating_find_20 : decode b_Seating_find 20 = .ok (.aload_n 1, 1) := by decide +kernel
theorem d_Seating_find_21 : decode b_Seating_find 21 = .ok (.getfield 53, 3) := by decide +kernel
theorem d_Seating_find_24 : decode b_Seating_find 24 = .ok (.putfield 56, 3) := by decide +kernel
theorem d_Seating_find_27 : decode b_Seating_find 27 = .ok (.aload_n 0, 1) := by decide +kernel
theorem d_Seating_find_28 : decode b_Seating_find 28 = .ok (.getfield 33, 3) := by decide +kernel
theorem d_Seating_find_31 : decode b_Seating_find 31 = .ok (.aload_n 2, 1) := by decide +kernel
theorem d_Seating_find_32 : decode b_Seating_find 32 = .ok (.getfield 57, 3) := by decide +kernel
theorem d_Seating_find_35 : decode b_Seating_find 35 = .ok (.invokevirtual 62, 3) := by decide +kernel
theorem d_Seating_find_38 : decode b_Seating_find 38 = .ok (.aload_n 0, 1) := by decide +kernel
theorem d_Seating_find_39 : decode b_Seating_find 39 = .ok (.getfield 30, 3) := by decide +kernel
theorem d_Seating_find_42 : decode b_Seating_find 42 = .ok (.iconst 0, 1) := by decide +kernel
theorem d_Seating_find_43 : decode b_Seating_find 43 = .ok (.invokevirtual 66, 3) := by decide +kernel
theorem d_Seating_find_46 : decode b_Seating_find 46 = .ok (.iconst 0, 1) := by decide +kernel
theorem d_Seating_find_47 : decode b_Seating_find 47 = .ok (.istore_n 3, 1) := by decide +kernel
theorem d_Seating_find_48 : decode b_Seating_find 48 = .ok (.iload_n 3, 1) := by decide +kernel
theorem d_Seating_find_49 : decode b_Seating_find 49 = .ok (.aload_n 0, 1) := by decide +kernel
theorem d_Seating_find_50 : decode b_Seating_find 50 = .ok (.getfield 47, 3) := by decide +kernel
theorem d_Seating_find_53 : decode b_Seating_find 53 = .ok (.if_icmp .ge 23, 3) := by decide +kernel
theorem d_Seating_find_56 : decode b_Seating_find 56 = .ok (.aload_n 0, 1) := by decide +kernel
theorem d_Seating_find_57 : decode b_Seating_find 57 = .ok (.getfield 27, 3) := by decide +kernel
theorem d_Seating_find_60 : decode b_Seating_find 60 = .ok (.iload_n 3, 1) := by decide +kernel
theorem d_Seating_find_61 : decode b_Seating_find 61 = .ok (.aload_n 2, 1) := by decide +kernel
theorem d_Seating_find_62 : decode b_Seating_find 62 = .ok (.aload_n 1, 1) := by decide +kernel
theorem d_Seating_find_63 : decode b_Seating_find 63 = .ok (.iload_n 3, 1) := by decide +kernel
theorem d_Seating_find_64 : decode b_Seating_find 64 = .ok (.invokevirtual 69, 3) := by decide +kernel
theorem d_Seating_find_67 : decode b_Seating_find 67 = .ok (.invokevirtual 73, 3) := by decide +kernel
theorem d_Seating_find_70 : decode b_Seating_find 70 = .ok (.iinc 3 1, 3) := by decide +kernel
theorem d_Seating_find_73 : decode b_Seating_find 73 = .ok (.goto (-25), 3) := by decide +kernel
theorem d_Seating_find_76 : decode b_Seating_find 76 = .ok (.iconst 0, 1) := by decide +kernel
theorem d_Seating_find_77 : decode b_Seating_find 77 = .ok (.istore_n 3, 1) := by decide +kernel
theorem d_Seating_find_78 : decode b_Seating_find 78 = .ok (.iload_n 3, 1) := by decide +kernel
theorem d_Seating_find_79 : decode b_Seating_find 79 = .ok (.aload_n 0, 1) := by decide +kernel
theorem d_Seating_find_80 : decode b_Seating_find 80 = .ok (.getfield 47, 3) := by decide +kernel
theorem d_Seating_find_83 : decode b_Seating_find 83 = .ok (.if_icmp .gt 55, 3) := by decide +kernel
theorem d_Seating_find_86 : decode b_Seating_find 86 = .ok (.aload_n 0, 1) := by decide +kernel
theorem d_Seating_find_87 : decode b_Seating_find 87 = .ok (.getfield 47, 3) := by decide +kernel
theorem d_Seating_find_90 : decode b_Seating_find 90 = .ok (.aload_n 0, 1) := by decide +kernel
theorem d_Seating_find_91 : decode b_Seating_find 91 = .ok (.getfield 52, 3) := by decide +kernel
theorem d_Seating_find_94 : decode b_Seating_find 94 = .ok (.aload_n 0, 1) := by decide +kernel
theorem d_Seating_find_95 : decode b_Seating_find 95 = .ok (.getfield 56, 3) := by decide +kernel
theorem d_Seating_find_98 : decode b_Seating_find 98 = .ok (.imul, 1) := by decide +kernel
theorem d_Seating_find_99 : decode b_Seating_find 99 = .ok (.if_icmp .gt 39, 3) := by decide +kernel
theorem d_Seating_find_102 : decode b_Seating_find 102 = .ok (.aload_n 0, 1) := by decide +kernel
theorem d_Seating_find_103 : decode b_Seating_find 103 = .ok (.iconst 0, 1) := by decide +kernel
theorem d_Seating_find_104 : decode b_Seating_find 104 = .ok (.iload_n 3, 1) := by decide +kernel
theorem d_Seating_find_105 : decode b_Seating_find 105 = .ok (.invokestatic 77, 3) := by decide +kernel
theorem d_Seating_find_108 : decode b_Seating_find 108 = .ok (.ifCond .eq 24, 3) := by decide +kernel
theorem d_Seating_find_111 : decode b_Seating_find 111 = .ok (.aload_n 0, 1) := by decide +kernel
theorem d_Seating_find_112 : decode b_Seating_find 112 = .ok (.getfield 14, 3) := by decide +kernel
theorem d_Seating_find_115 : decode b_Seating_find 115 = .ok (.aload_n 0, 1) := by decide +kernel
theorem d_Seating_find_116 : decode b_Seating_find 116 = .ok (.getfield 24, 3) := by decide +kernel
theorem d_Seating_find_119 : decode b_Seating_find 119 = .ok (.invokevirtual 62, 3) := by decide +kernel
theorem d_Seating_find_122 : decode b_Seating_find 122 = .ok (.aload_n 0, 1) := by decide +kernel
theorem d_Seating_find_123 : decode b_Seating_find 123 = .ok (.aload_n 0, 1) := by decide +kernel
theorem d_Seating_find_124 : decode b_Seating_find 124 = .ok (.getfield 47, 3) := by decide +kernel
theorem d_Seating_find_127 : decode b_Seating_find 127 = .ok (.putfield 20, 3) := by decide +kernel
theorem d_Seating_find_130 : decode b_Seating_find 130 = .ok (.iload_n 3, 1) := by decide +kernel
theorem d_Seating_find_131 : decode b_Seating_find 131 = .ok (.ireturn, 1) := by decide +kernel
theorem d_Seating_find_132 : decode b_Seating_find 132 = .ok (.iinc 3 1, 3) := by decide +kernel
theorem d_Seating_find_135 : decode b_Seating_find 135 = .ok (.goto (-57), 3) := by decide +kernel
theorem d_Seating_find_138 : decode b_Seating_find 138 = .ok (.iconst (-1), 1) := by decide +kernel
theorem d_Seating_find_139 : decode b_Seating_find 139 = .ok (.ireturn, 1) := by decide +kernel
noncomputable def f_Seating_find_L48 (z : Nat → Nat) (o : Nat) (o1 : Nat) (o2 : Nat) (s48 : Int32 × Mm) : Option ((Int32 × Mm) ⊕ (Mm)) :=
  if (s48.2.1 o 6) ≤ s48.1 then (
    some (.inr s48.2)
  ) else (
    (f_Hands_feudingWith z s48.2 o2 o1 s48.1).bind fun q64 =>
    (f_Row_put z s48.2 (o + 5) s48.1 q64).bind fun q67 =>
    mm_lt (s48.1 + (1 : Int32)) fun x70 =>
    some (.inl (x70, q67))
  )
noncomputable def f_Seating_find_L78 (z : Nat → Nat) (o : Nat) (o1 : Nat) (o2 : Nat) (s78 : Int32 × Mm) : Option ((Int32 × Mm) ⊕ ((Int32 × Mm) ⊕ (Mm))) :=
  if (s78.2.1 o 6) < s78.1 then (
    some (.inr (.inr s78.2))
  ) else (
    if ((s78.2.1 o 7) * (s78.2.1 o 8)) < (s78.2.1 o 6) then (
      some (.inr (.inr s78.2))
    ) else (
      (f_Seating_seatFrom z 10 s78.2 o (0 : Int32) s78.1).bind fun q105 =>
      if q105.1 = 0 then (
        mm_lt (s78.1 + (1 : Int32)) fun x132 =>
        some (.inl (x132, q105.2))
      ) else (
        (f_Row_copyFrom z q105.2 (o + 1) (o + 3)).bind fun q119 =>
        mm_lt (kI q119 o 1 (q119.1 o 6)) fun m127 =>
        some (.inr (.inl (s78.1, m127)))
      )
    )
  )
noncomputable def f_Seating_find (z : Nat → Nat) (σ : Mm) (o : Nat) (o1 : Nat) (o2 : Nat) : Option (Int32 × Mm) :=
  mm_lt (kI σ o 6 (σ.1 (o1 + 3) 1)) fun m8 =>
  mm_lt (kI m8 o 7 (m8.1 o1 6)) fun m16 =>
  mm_lt (kI m16 o 8 (m16.1 o1 7)) fun m24 =>
  (f_Row_copyFrom z m24 (o + 9) (o2 + 3)).bind fun q35 =>
  (f_Row_fill z q35 (o + 7) (0 : Int32)).bind fun q43 =>
  (mm_lp (f_Seating_find_L48 z o o1 o2) ((0 : Int32), q43)).bind (fun q48 =>
    (mm_lp (f_Seating_find_L78 z o o1 o2) ((0 : Int32), q48)).bind (Sum.elim (fun r9 => some r9) (fun x78_ =>
      some (((-1) : Int32), x78_))))
set_option maxHeartbeats 4000000 in
set_option maxRecDepth 100000 in
theorem c_Seating_find (l : Launch) {L : Ly} (hg : gd_ok L) {σ : Mm} {o : Nat} {o1 : Nat} {o2 : Nat} (k_o_0 : ly_k L o = 6) (k_o1_0 : ly_k L o1 = 2) (k_o2_0 : ly_k L o2 = 3) {res : Int32 × Mm} (hf0 : f_Seating_find (ly_z L) σ o o1 o2 = some res) : CtI l y_Seating_find b_Seating_find 4 (some .int) rm_Seating_find L [.ref (ly_a L o), .ref (ly_a L o1), .ref (ly_a L o2)] σ res.1 res.2 := by
  refine ct_i hg (by decide) (Nat.le_of_ble_eq_true rfl) ?_
  intro E A Q hE C hN
  subst hE
  have k_o1_3 : ly_k L (o1 + 3) = 1 := gd_Island_houses hg k_o1_0
  have k_o_9 : ly_k L (o + 9) = 0 := gd_Seating_sitNow hg k_o_0
  have k_o2_3 : ly_k L (o2 + 3) = 0 := gd_Hands_sits hg k_o2_0
  have k_o_7 : ly_k L (o + 7) = 0 := gd_Seating_inPew hg k_o_0
  have k_o_5 : ly_k L (o + 5) = 0 := gd_Seating_feuding hg k_o_0
  have k_o_1 : ly_k L (o + 1) = 0 := gd_Seating_latest hg k_o_0
  have k_o_3 : ly_k L (o + 3) = 0 := gd_Seating_tried hg k_o_0
  unfold f_Seating_find at hf0
  show GW E L A 4 0 0 Q σ 0 [(0, .ref (ly_a L o)), (1, .ref (ly_a L o1)), (2, .ref (ly_a L o2))] []
  refine gw_aload_n C 0 d_Seating_find_0 rfl rfl ?_
  refine gw_aload_n C 1 d_Seating_find_1 rfl rfl ?_
  refine gw_getAN C 1 d_Seating_find_2 k_o1_0 (by decide) i_Island rfl rfl (by decide) qw_130 rfl rfl (o1 + 3) rfl ?_
  refine gw_getIN C 1 d_Seating_find_5 k_o1_3 (by decide) i_Names rfl rfl (by decide) qw_108 rfl rfl ?_
  obtain ⟨m8, em8, hf0⟩ := mx_lt hf0
  refine gw_putI t_Seating C 6 d_Seating_find_8 k_o_0 (by decide) i_Seating rfl rfl (by decide) qw_359 rfl rfl t_Seating_ok n_Seating rfl (t_Seating_ok 6 (by decide)) rfl rfl em8 ?_
  refine gw_aload_n C 0 d_Seating_find_11 rfl rfl ?_
  refine gw_aload_n C 1 d_Seating_find_12 rfl rfl ?_
  refine gw_getIN C 6 d_Seating_find_13 k_o1_0 (by decide) i_Island rfl rfl (by decide) qw_147 rfl rfl ?_
  obtain ⟨m16, em16, hf0⟩ := mx_lt hf0
  refine gw_putI t_Seating C 7 d_Seating_find_16 k_o_0 (by decide) i_Seating rfl rfl (by decide) qw_360 rfl rfl t_Seating_ok n_Seating rfl (t_Seating_ok 7 (by decide)) rfl rfl em16 ?_
  refine gw_aload_n C 0 d_Seating_find_19 rfl rfl ?_
  refine gw_aload_n C 1 d_Seating_find_20 rfl rfl ?_
  refine gw_getIN C 7 d_Seating_find_21 k_o1_0 (by decide) i_Island rfl rfl (by decide) qw_151 rfl rfl ?_
  obtain ⟨m24, em24, hf0⟩ := mx_lt hf0
  refine gw_putI t_Seating C 8 d_Seating_find_24 k_o_0 (by decide) i_Seating rfl rfl (by decide) qw_361 rfl rfl t_Seating_ok n_Seating rfl (t_Seating_ok 8 (by decide)) rfl rfl em24 ?_
  refine gw_aload_n C 0 d_Seating_find_27 rfl rfl ?_
  refine gw_getA C 5 d_Seating_find_28 k_o_0 (by decide) i_Seating rfl rfl (by decide) qw_358 rfl rfl (o + 9) rfl ?_
  refine gw_aload_n C 2 d_Seating_find_31 rfl rfl ?_
  refine gw_getAN C 1 d_Seating_find_32 k_o2_0 (by decide) i_Hands rfl rfl (by decide) qw_192 rfl rfl (o2 + 3) rfl ?_
  obtain ⟨q35, hq35, hf0⟩ := mx_bd hf0
  refine gw_callV C (c_Row_copyFrom _ hg k_o_9 k_o2_3 hq35) d_Seating_find_35 1 qw_900 qw_682 qw_683 qw_4 qw_684 k_o_9 (by decide) rfl hd_Row_copyFrom rfl rfl (Nat.le_of_ble_eq_true rfl) ⟨rfl, rfl, Nat.le_of_ble_eq_true rfl, Nat.le_of_ble_eq_true rfl⟩ ⟨Nat.zero_le _, Nat.zero_le _⟩ ?_
  refine gw_aload_n C 0 d_Seating_find_38 rfl rfl ?_
  refine gw_getA C 4 d_Seating_find_39 k_o_0 (by decide) i_Seating rfl rfl (by decide) qw_357 rfl rfl (o + 7) rfl ?_
  refine gw_iconst C (0 : Int32) d_Seating_find_42 (by decide) ?_
  obtain ⟨q43, hq43, hf0⟩ := mx_bd hf0
  refine gw_callV C (c_Row_fill _ hg k_o_7 hq43) d_Seating_find_43 1 qw_901 qw_221 qw_222 qw_4 qw_223 k_o_7 (by decide) rfl hd_Row_fill rfl rfl (Nat.le_of_ble_eq_true rfl) ⟨rfl, rfl, Nat.le_of_ble_eq_true rfl, Nat.le_of_ble_eq_true rfl⟩ ⟨Nat.zero_le _, Nat.zero_le _⟩ ?_
  refine gw_iconst C (0 : Int32) d_Seating_find_46 (by decide) ?_
  refine gw_istore_n C [(3, .int (0 : Int32)), (0, .ref (ly_a L o)), (1, .ref (ly_a L o1)), (2, .ref (ly_a L o2))] d_Seating_find_47 rfl (by decide) rfl ?_
  obtain ⟨q48, hq48, hf0⟩ := mx_bd hf0
  have hk48 : ∀ x9, q48 = x9 → GW E L A 4 0 0 Q x9 76 [(0, .ref (ly_a L o))] [] := by
    intro x9 hx9
    subst hx9
    refine gw_iconst C (0 : Int32) d_Seating_find_76 (by decide) ?_
    refine gw_istore_n C [(3, .int (0 : Int32)), (0, .ref (ly_a L o))] d_Seating_find_77 rfl (by decide) rfl ?_
    obtain ⟨q78, hq78, hf0⟩ := mx_bd hf0
    have hk78 : ∀ x78_, q78 = .inr x78_ → GW E L A 4 0 0 Q x78_ 138 [] [] := by
      intro x78_ hx9
      subst hx9
      replace hf0 := mx_sr hf0
      refine gw_iconst C ((-1) : Int32) d_Seating_find_138 (by decide) ?_
      exact en_i hN hf0 d_Seating_find_139
    refine gw_sub [1, 0] (lv' := [(0, .ref (ly_a L o)), (3, .int (0 : Int32))]) rfl ?_
    refine mm_rule hq78 (P := fun (s78 : Int32 × Mm) => GW E L A 4 0 0 Q s78.2 78 [(0, .ref (ly_a L o)), (3, .int s78.1)] []) ?_
    intro s78 ih78 hx78 ⟨w78, hb78⟩
    have hf1 := hb78
    unfold f_Seating_find_L78 at hf1
    refine gw_iload_n C 1 d_Seating_find_78 rfl rfl ?_
    refine gw_aload_n C 0 d_Seating_find_79 rfl rfl ?_
    refine gw_getI C 6 d_Seating_find_80 k_o_0 (by decide) i_Seating rfl rfl (by decide) qw_359 rfl rfl ?_
    refine gw_icmp_gt C 138 d_Seating_find_83 (by decide) (fun hc => ?_) (fun hc => ?_)
    · replace hf1 := mx_t hc hf1
      exact gw_go [] (hk78 s78.2 (hx78 _ (hb78.trans hf1.symm)).symm) rfl
    · replace hf1 := mx_f hc hf1
      refine gw_aload_n C 0 d_Seating_find_86 rfl rfl ?_
      refine gw_getI C 6 d_Seating_find_87 k_o_0 (by decide) i_Seating rfl rfl (by decide) qw_359 rfl rfl ?_
      refine gw_aload_n C 0 d_Seating_find_90 rfl rfl ?_
      refine gw_getI C 7 d_Seating_find_91 k_o_0 (by decide) i_Seating rfl rfl (by decide) qw_360 rfl rfl ?_
      refine gw_aload_n C 0 d_Seating_find_94 rfl rfl ?_
      refine gw_getI C 8 d_Seating_find_95 k_o_0 (by decide) i_Seating rfl rfl (by decide) qw_361 rfl rfl ?_
      refine gw_imul C d_Seating_find_98 ?_
      refine gw_icmp_gt C 138 d_Seating_find_99 (by decide) (fun hc => ?_) (fun hc => ?_)
      · replace hf1 := mx_t hc hf1
        exact gw_go [] (hk78 s78.2 (hx78 _ (hb78.trans hf1.symm)).symm) rfl
      · replace hf1 := mx_f hc hf1
        refine gw_aload_n C 0 d_Seating_find_102 rfl rfl ?_
        refine gw_iconst C (0 : Int32) d_Seating_find_103 (by decide) ?_
        refine gw_iload_n C 1 d_Seating_find_104 rfl rfl ?_
        obtain ⟨q105, hq105, hf1⟩ := mx_bd hf1
        refine gw_callIS C (c_Seating_seatFrom _ hg _ k_o_0 hq105) d_Seating_find_105 3 qw_904 qw_905 qw_10 qw_906 hd_Seating_seatFrom rfl rfl (Nat.le_of_ble_eq_true rfl) ⟨rfl, rfl, Nat.le_of_ble_eq_true rfl, Nat.le_of_ble_eq_true rfl⟩ ⟨Nat.zero_le _, Nat.zero_le _⟩ ?_
        refine gw_if_eq C 132 d_Seating_find_108 (by decide) (fun hc => ?_) (fun hc => ?_)
        · replace hf1 := mx_t hc hf1
          obtain ⟨x132, ex132, hf1⟩ := mx_lt hf1
          refine gw_iinc C 1 [(3, .int x132), (0, .ref (ly_a L o))] d_Seating_find_132 rfl (by rw [ex132]; rfl) (by decide) rfl ?_
          refine gw_goto C 78 d_Seating_find_135 (by decide) ?_
          exact gw_go [1, 0] (ih78 (x132, q105.2) (hb78.trans hf1.symm)) rfl
        · replace hf1 := mx_f hc hf1
          refine gw_aload_n C 0 d_Seating_find_111 rfl rfl ?_
          refine gw_getA C 0 d_Seating_find_112 k_o_0 (by decide) i_Seating rfl rfl (by decide) qw_351 rfl rfl (o + 1) rfl ?_
          refine gw_aload_n C 0 d_Seating_find_115 rfl rfl ?_
          refine gw_getA C 2 d_Seating_find_116 k_o_0 (by decide) i_Seating rfl rfl (by decide) qw_355 rfl rfl (o + 3) rfl ?_
          obtain ⟨q119, hq119, hf1⟩ := mx_bd hf1
          refine gw_callV C (c_Row_copyFrom _ hg k_o_1 k_o_3 hq119) d_Seating_find_119 1 qw_900 qw_682 qw_683 qw_4 qw_684 k_o_1 (by decide) rfl hd_Row_copyFrom rfl rfl (Nat.le_of_ble_eq_true rfl) ⟨rfl, rfl, Nat.le_of_ble_eq_true rfl, Nat.le_of_ble_eq_true rfl⟩ ⟨Nat.zero_le _, Nat.zero_le _⟩ ?_
          refine gw_aload_n C 0 d_Seating_find_122 rfl rfl ?_
          refine gw_aload_n C 0 d_Seating_find_123 rfl rfl ?_
          refine gw_getI C 6 d_Seating_find_124 k_o_0 (by decide) i_Seating rfl rfl (by decide) qw_359 rfl rfl ?_
          obtain ⟨m127, em127, hf1⟩ := mx_lt hf1
          refine gw_putI t_Seating C 1 d_Seating_find_127 k_o_0 (by decide) i_Seating rfl rfl (by decide) qw_353 rfl rfl t_Seating_ok n_Seating rfl (t_Seating_ok 1 (by decide)) rfl rfl em127 ?_
          refine gw_iload_n C 1 d_Seating_find_130 rfl rfl ?_
          have hr78 := hx78 _ (hb78.trans hf1.symm)
          subst hr78
          replace hf0 := mx_sl hf0
          exact en_i hN hf0 d_Seating_find_131
  refine gw_sub [1, 2, 3, 0] (lv' := [(0, .ref (ly_a L o)), (1, .ref (ly_a L o1)), (2, .ref (ly_a L o2)), (3, .int (0 : Int32))]) rfl ?_
  refine mm_rule hq48 (P := fun (s48 : Int32 × Mm) => GW E L A 4 0 0 Q s48.2 48 [(0, .ref (ly_a L o)), (1, .ref (ly_a L o1)), (2, .ref (ly_a L o2)), (3, .int s48.1)] []) ?_
  intro s48 ih48 hx48 ⟨w48, hb48⟩
  have hf1 := hb48
  unfold f_Seating_find_L48 at hf1
  refine gw_iload_n C 3 d_Seating_find_48 rfl rfl ?_
  refine gw_aload_n C 0 d_Seating_find_49 rfl rfl ?_
  refine gw_getI C 6 d_Seating_find_50 k_o_0 (by decide) i_Seating rfl rfl (by decide) qw_359 rfl rfl ?_
  refine gw_icmp_ge C 76 d_Seating_find_53 (by decide) (fun hc => ?_) (fun hc => ?_)
  · replace hf1 := mx_t hc hf1
    exact gw_go [0] (hk48 s48.2 (hx48 _ (hb48.trans hf1.symm)).symm) rfl
  · replace hf1 := mx_f hc hf1
    refine gw_aload_n C 0 d_Seating_find_56 rfl rfl ?_
    refine gw_getA C 3 d_Seating_find_57 k_o_0 (by decide) i_Seating rfl rfl (by decide) qw_356 rfl rfl (o + 5) rfl ?_
    refine gw_iload_n C 3 d_Seating_find_60 rfl rfl ?_
    refine gw_aload_n C 2 d_Seating_find_61 rfl rfl ?_
    refine gw_aload_n C 1 d_Seating_find_62 rfl rfl ?_
    refine gw_iload_n C 3 d_Seating_find_63 rfl rfl ?_
    obtain ⟨q64, hq64, hf1⟩ := mx_bd hf1
    refine gw_callI C (c_Hands_feudingWith _ hg k_o2_0 k_o1_0 hq64) d_Seating_find_64 2 qw_902 qw_888 qw_889 qw_8 qw_890 k_o2_0 (by decide) rfl hd_Hands_feudingWith rfl rfl (Nat.le_of_ble_eq_true rfl) ⟨rfl, rfl, Nat.le_of_ble_eq_true rfl, Nat.le_of_ble_eq_true rfl⟩ ⟨Nat.zero_le _, Nat.zero_le _⟩ ?_
    obtain ⟨q67, hq67, hf1⟩ := mx_bd hf1
    refine gw_callV C (c_Row_put _ hg k_o_5 hq67) d_Seating_find_67 2 qw_903 qw_461 qw_462 qw_4 qw_463 k_o_5 (by decide) rfl hd_Row_put rfl rfl (Nat.le_of_ble_eq_true rfl) ⟨rfl, rfl, Nat.le_of_ble_eq_true rfl, Nat.le_of_ble_eq_true rfl⟩ ⟨Nat.zero_le _, Nat.zero_le _⟩ ?_
    obtain ⟨x70, ex70, hf1⟩ := mx_lt hf1
    refine gw_iinc C 3 [(3, .int x70), (0, .ref (ly_a L o)), (1, .ref (ly_a L o1)), (2, .ref (ly_a L o2))] d_Seating_find_70 rfl (by rw [ex70]; rfl) (by decide) rfl ?_
    refine gw_goto C 48 d_Seating_find_73 (by decide) ?_
    exact gw_go [1, 2, 3, 0] (ih48 (x70, q67) (hb48.trans hf1.symm)) rfl

/-! NameHat.seats()I -/
abbrev b_Hat_seats : ByteArray := prog_1_method_31_code
def y_Hat_seats : MethodName := ⟨"NameHat", "seats", "()I"⟩
abbrev rm_Hat_seats : Room := { frames := 13, cells := 0, slots := 0, locals := 709 }
theorem hd_Hat_seats : y_Hat_seats.cls ≠ "java/lang/invoke/MethodHandle" ∧ y_Hat_seats.cls ≠ "java/lang/invoke/VarHandle" ∧ (parseMethodDescriptor y_Hat_seats.desc).map (fun d => d.parameters.length) = some 0 := by decide +kernel
theorem d_Hat_seats_0 : decode b_Hat_seats 0 = .ok (.aload_n 0, 1) := by decide +kernel
theorem d_Hat_seats_1 : decode b_Hat_seats 1 = .ok (.getfield 42, 3) := by decide +kernel
theorem d_Hat_seats_4 : decode b_Hat_seats 4 = .ok (.aload_n 0, 1) := by decide +kernel
theorem d_Hat_seats_5 : decode b_Hat_seats 5 = .ok (.getfield 57, 3) := by decide +kernel
theorem d_Hat_seats_8 : decode b_Hat_seats 8 = .ok (.getfield 121, 3) := by decide +kernel
theorem d_Hat_seats_11 : decode b_Hat_seats 11 = .ok (.aload_n 0, 1) := by decide +kernel
theorem d_Hat_seats_12 : decode b_Hat_seats 12 = .ok (.getfield 57, 3) := by decide +kernel
theorem d_Hat_seats_15 : decode b_Hat_seats 15 = .ok (.getfield 154, 3) := by decide +kernel
theorem d_Hat_seats_18 : decode b_Hat_seats 18 = .ok (.invokevirtual 281, 3) := by decide +kernel
theorem d_Hat_seats_21 : decode b_Hat_seats 21 = .ok (.ireturn, 1) := by decide +kernel
noncomputable def f_Hat_seats (z : Nat → Nat) (σ : Mm) (o : Nat) : Option (Int32 × Mm) :=
  (f_Seating_find z σ (o + 47) (o + 61) (o + 74)).bind fun q18 =>
  some (q18.1, q18.2)
set_option maxHeartbeats 4000000 in
set_option maxRecDepth 100000 in
theorem c_Hat_seats (l : Launch) {L : Ly} (hg : gd_ok L) {σ : Mm} {o : Nat} (k_o_0 : ly_k L o = 10) {res : Int32 × Mm} (hf0 : f_Hat_seats (ly_z L) σ o = some res) : CtI l y_Hat_seats b_Hat_seats 1 (some .int) rm_Hat_seats L [.ref (ly_a L o)] σ res.1 res.2 := by
  refine ct_i hg (by decide) (Nat.le_of_ble_eq_true rfl) ?_
  intro E A Q hE C hN
  subst hE
  have k_o_60 : ly_k L (o + 60) = 4 := gd_Hat_now hg k_o_0
  have k_o_47 : ly_k L (o + 47) = 6 := gd_Hat_seating hg k_o_0
  have k_o_61 : ly_k L (o + 61) = 2 := gd_State_island hg k_o_60
  have k_o_74 : ly_k L (o + 74) = 3 := gd_State_hands hg k_o_60
  unfold f_Hat_seats at hf0
  show GW E L A 1 0 0 Q σ 0 [(0, .ref (ly_a L o))] []
  refine gw_aload_n C 0 d_Hat_seats_0 rfl rfl ?_
  refine gw_getA C 4 d_Hat_seats_1 k_o_0 (by decide) i_Hat rfl rfl (by decide) qw_407 rfl rfl (o + 47) rfl ?_
  refine gw_aload_n C 0 d_Hat_seats_4 rfl rfl ?_
  refine gw_getA C 7 d_Hat_seats_5 k_o_0 (by decide) i_Hat rfl rfl (by decide) qw_410 rfl rfl (o + 60) rfl ?_
  refine gw_getAN C 0 d_Hat_seats_8 k_o_60 (by decide) i_State rfl rfl (by decide) qw_237 rfl rfl (o + 61) rfl ?_
  refine gw_aload_n C 0 d_Hat_seats_11 rfl rfl ?_
  refine gw_getA C 7 d_Hat_seats_12 k_o_0 (by decide) i_Hat rfl rfl (by decide) qw_410 rfl rfl (o + 60) rfl ?_
  refine gw_getAN C 1 d_Hat_seats_15 k_o_60 (by decide) i_State rfl rfl (by decide) qw_239 rfl rfl (o + 74) rfl ?_
  obtain ⟨q18, hq18, hf0⟩ := mx_bd hf0
  refine gw_callI C (c_Seating_find _ hg k_o_47 k_o_61 k_o_74 hq18) d_Hat_seats_18 2 qw_896 qw_897 qw_898 qw_10 qw_899 k_o_47 (by decide) rfl hd_Seating_find rfl rfl (Nat.le_of_ble_eq_true rfl) ⟨rfl, rfl, Nat.le_of_ble_eq_true rfl, Nat.le_of_ble_eq_true rfl⟩ ⟨Nat.zero_le _, Nat.zero_le _⟩ ?_
  exact en_i hN hf0 d_Hat_seats_21

/-! NameHat.seatOf(I)I -/
abbrev b_Hat_seatOf : ByteArray := prog_1_method_32_code
def y_Hat_seatOf : MethodName := ⟨"NameHat", "seatOf", "(I)I"⟩
abbrev rm_Hat_seatOf : Room := { frames := 1, cells := 0, slots := 0, locals := 21 }
theorem hd_Hat_seatOf : y_Hat_seatOf.cls ≠ "java/lang/invoke/MethodHandle" ∧ y_Hat_seatOf.cls ≠ "java/lang/invoke/VarHandle" ∧ (parseMethodDescriptor y_Hat_seatOf.desc).map (fun d => d.parameters.length) = some 1 := by decide +kernel
theorem d_Hat_seatOf_0 : decode b_Hat_seatOf 0 = .ok (.iload_n 1, 1) := by decide +kernel
theorem d_Hat_seatOf_1 : decode b_Hat_seatOf 1 = .ok (.ifCond .lt 14, 3) := by decide +kernel
theorem d_Hat_seatOf_4 : decode b_Hat_seatOf 4 = .ok (.iload_n 1, 1) := by decide +kernel
theorem d_Hat_seatOf_5 : decode b_Hat_seatOf 5 = .ok (.aload_n 0, 1) := by decide +kernel
theorem d_Hat_seatOf_6 : decode b_Hat_seatOf 6 = .ok (.getfield 42, 3) := by decide +kernel
theorem d_Hat_seatOf_9 : decode b_Hat_seatOf 9 = .ok (.getfield 282, 3) := by decide +kernel
theorem d_Hat_seatOf_12 : decode b_Hat_seatOf 12 = .ok (.if_icmp .lt 7, 3) := by decide +kernel
theorem d_Hat_seatOf_15 : decode b_Hat_seatOf 15 = .ok (.iconst (-1), 1) := by decide +kernel
theorem d_Hat_seatOf_16 : decode b_Hat_seatOf 16 = .ok (.goto 14, 3) := by decide +kernel
theorem d_Hat_seatOf_19 : decode b_Hat_seatOf 19 = .ok (.aload_n 0, 1) := by decide +kernel
theorem d_Hat_seatOf_20 : decode b_Hat_seatOf 20 = .ok (.getfield 42, 3) := by decide +kernel
theorem d_Hat_seatOf_23 : decode b_Hat_seatOf 23 = .ok (.getfield 285, 3) := by decide +kernel
theorem d_Hat_seatOf_26 : decode b_Hat_seatOf 26 = .ok (.iload_n 1, 1) := by decide +kernel
theorem d_Hat_seatOf_27 : decode b_Hat_seatOf 27 = .ok (.invokevirtual 147, 3) := by decide +kernel
theorem d_Hat_seatOf_30 : decode b_Hat_seatOf 30 = .ok (.ireturn, 1) := by decide +kernel
noncomputable def f_Hat_seatOf (z : Nat → Nat) (σ : Mm) (o : Nat) (p1 : Int32) : Option (Int32) :=
  if p1 < 0 then (
    some ((-1) : Int32)
  ) else (
    if p1 < (σ.1 (o + 47) 1) then (
      (f_Row_at z σ (o + 48) p1).bind fun q27 =>
      some q27
    ) else (
      some ((-1) : Int32)
    )
  )
set_option maxHeartbeats 4000000 in
set_option maxRecDepth 100000 in
theorem c_Hat_seatOf (l : Launch) {L : Ly} (hg : gd_ok L) {σ : Mm} {o : Nat} {p1 : Int32} (k_o_0 : ly_k L o = 10) {res : Int32} (hf0 : f_Hat_seatOf (ly_z L) σ o p1 = some res) : CtI l y_Hat_seatOf b_Hat_seatOf 2 (some .int) rm_Hat_seatOf L [.ref (ly_a L o), .int p1] σ res σ := by
  refine ct_i hg (by decide) (Nat.le_of_ble_eq_true rfl) ?_
  intro E A Q hE C hN
  subst hE
  have k_o_47 : ly_k L (o + 47) = 6 := gd_Hat_seating hg k_o_0
  have k_o_48 : ly_k L (o + 48) = 0 := gd_Seating_latest hg k_o_47
  unfold f_Hat_seatOf at hf0
  show GW E L A 2 0 0 Q σ 0 [(0, .ref (ly_a L o)), (1, .int p1)] []
  refine gw_iload_n C 1 d_Hat_seatOf_0 rfl rfl ?_
  refine gw_if_lt C 15 d_Hat_seatOf_1 (by decide) (fun hc => ?_) (fun hc => ?_)
  · replace hf0 := mx_t hc hf0
    refine gw_iconst C ((-1) : Int32) d_Hat_seatOf_15 (by decide) ?_
    refine gw_goto C 30 d_Hat_seatOf_16 (by decide) ?_
    exact en_ip hN hf0 d_Hat_seatOf_30
  · replace hf0 := mx_f hc hf0
    refine gw_iload_n C 1 d_Hat_seatOf_4 rfl rfl ?_
    refine gw_aload_n C 0 d_Hat_seatOf_5 rfl rfl ?_
    refine gw_getA C 4 d_Hat_seatOf_6 k_o_0 (by decide) i_Hat rfl rfl (by decide) qw_407 rfl rfl (o + 47) rfl ?_
    refine gw_getIN C 1 d_Hat_seatOf_9 k_o_47 (by decide) i_Seating rfl rfl (by decide) qw_354 rfl rfl ?_
    refine gw_icmp_lt C 19 d_Hat_seatOf_12 (by decide) (fun hc => ?_) (fun hc => ?_)
    · replace hf0 := mx_t hc hf0
      refine gw_aload_n C 0 d_Hat_seatOf_19 rfl rfl ?_
      refine gw_getA C 4 d_Hat_seatOf_20 k_o_0 (by decide) i_Hat rfl rfl (by decide) qw_407 rfl rfl (o + 47) rfl ?_
      refine gw_getAN C 0 d_Hat_seatOf_23 k_o_47 (by decide) i_Seating rfl rfl (by decide) qw_352 rfl rfl (o + 48) rfl ?_
      refine gw_iload_n C 1 d_Hat_seatOf_26 rfl rfl ?_
      obtain ⟨q27, hq27, hf0⟩ := mx_bd hf0
      refine gw_callI C (c_Row_at _ hg k_o_48 hq27) d_Hat_seatOf_27 1 qw_755 qw_489 qw_490 qw_4 qw_491 k_o_48 (by decide) rfl hd_Row_at rfl rfl (Nat.le_of_ble_eq_true rfl) ⟨rfl, rfl, Nat.le_of_ble_eq_true rfl, Nat.le_of_ble_eq_true rfl⟩ ⟨Nat.zero_le _, Nat.zero_le _⟩ ?_
      exact en_ip hN hf0 d_Hat_seatOf_30
    · replace hf0 := mx_f hc hf0
      refine gw_iconst C ((-1) : Int32) d_Hat_seatOf_15 (by decide) ?_
      refine gw_goto C 30 d_Hat_seatOf_16 (by decide) ?_
      exact en_ip hN hf0 d_Hat_seatOf_30

/-! NameHat.sit()Z -/
abbrev b_Hat_sit : ByteArray := prog_1_method_33_code
def y_Hat_sit : MethodName := ⟨"NameHat", "sit", "()Z"⟩
abbrev rm_Hat_sit : Room := { frames := 1, cells := 0, slots := 0, locals := 22 }
theorem hd_Hat_sit : y_Hat_sit.cls ≠ "java/lang/invoke/MethodHandle" ∧ y_Hat_sit.cls ≠ "java/lang/invoke/VarHandle" ∧ (parseMethodDescriptor y_Hat_sit.desc).map (fun d => d.parameters.length) = some 0 := by decide +kernel
theorem d_Hat_sit_0 : decode b_Hat_sit 0 = .ok (.aload_n 0, 1) := by decide +kernel
theorem d_Hat_sit_1 : decode b_Hat_sit 1 = .ok (.getfield 42, 3) := by decide +kernel
theorem d_Hat_sit_4 : decode b_Hat_sit 4 = .ok (.getfield 282, 3) := by decide +kernel
theorem d_Hat_sit_7 : decode b_Hat_sit 7 = .ok (.aload_n 0, 1) := by decide +kernel
theorem d_Hat_sit_8 : decode b_Hat_sit 8 = .ok (.getfield 57, 3) := by decide +kernel
theorem d_Hat_sit_11 : decode b_Hat_sit 11 = .ok (.getfield 121, 3) := by decide +kernel
theorem d_Hat_sit_14 : decode b_Hat_sit 14 = .ok (.getfield 166, 3) := by decide +kernel
theorem d_Hat_sit_17 : decode b_Hat_sit 17 = .ok (.getfield 186, 3) := by decide +kernel
theorem d_Hat_sit_20 : decode b_Hat_sit 20 = .ok (.if_icmp .eq 5, 3) := by decide +kernel
theorem d_Hat_sit_23 : decode b_Hat_sit 23 = .ok (.iconst 0, 1) := by decide +kernel
theorem d_Hat_sit_24 : decode b_Hat_sit 24 = .ok (.ireturn, 1) := by decide +kernel
theorem d_Hat_sit_25 : decode b_Hat_sit 25 = .ok (.iconst 0, 1) := by decide +kernel
theorem d_Hat_sit_26 : decode b_Hat_sit 26 = .ok (.istore_n 1, 1) := by decide +kernel
theorem d_Hat_sit_27 : decode b_Hat_sit 27 = .ok (.iload_n 1, 1) := by decide +kernel
theorem d_Hat_sit_28 : decode b_Hat_sit 28 = .ok (.aload_n 0, 1) := by decide +kernel
theorem d_Hat_sit_29 : decode b_Hat_sit 29 = .ok (.getfield 42, 3) := by decide +kernel
theorem d_Hat_sit_32 : decode b_Hat_sit 32 = .ok (.getfield 282, 3) := by decide +kernel
theorem d_Hat_sit_35 : decode b_Hat_sit 35 = .ok (.if_icmp .ge 35, 3) := by decide +kernel
theorem d_Hat_sit_38 : decode b_Hat_sit 38 = .ok (.aload_n 0, 1) := by decide +kernel
theorem d_Hat_sit_39 : decode b_Hat_sit 39 = .ok (.getfield 42, 3) := by decide +kernel
theorem d_Hat_sit_42 : decode b_Hat_sit 42 = .ok (.getfield 285, 3) := by decide +kernel
theorem d_Hat_sit_45 : decode b_Hat_sit 45 = .ok (.iload_n 1, 1) := by decide +kernel
theorem d_Hat_sit_46 : decode b_Hat_sit 46 = .ok (.invokevirtual 147, 3) := by decide +kernel
theorem d_Hat_sit_49 : decode b_Hat_sit 49 = .ok (.aload_n 0, 1) := by decide +kernel
theorem d_Hat_sit_50 : decode b_Hat_sit 50 = .ok (.getfield 57, 3) := by decide +kernel
theorem d_Hat_sit_53 : decode b_Hat_sit 53 = .ok (.getfield 121, 3) := by decide +kernel
theorem d_Hat_sit_56 : decode b_Hat_sit 56 = .ok (.getfield 286, 3) := by decide +kernel
theorem d_Hat_sit_59 : decode b_Hat_sit 59 = .ok (.if_icmp .lt 5, 3) := by decide +kernel
theorem d_Hat_sit_62 : decode b_Hat_sit 62 = .ok (.iconst 0, 1) := by decide +kernel
theorem d_Hat_sit_63 : decode b_Hat_sit 63 = .ok (.ireturn, 1) := by decide +kernel
theorem d_Hat_sit_64 : decode b_Hat_sit 64 = .ok (.iinc 1 1, 3) := by decide +kernel
theorem d_Hat_sit_67 : decode b_Hat_sit 67 = .ok (.goto (-40), 3) := by decide +kernel
theorem d_Hat_sit_70 : decode b_Hat_sit 70 = .ok (.iconst 0, 1) := by decide +kernel
theorem d_Hat_sit_71 : decode b_Hat_sit 71 = .ok (.istore_n 1, 1) := by decide +kernel
theorem d_Hat_sit_72 : decode b_Hat_sit 72 = .ok (.iload_n 1, 1) := by decide +kernel
theorem d_Hat_sit_73 : decode b_Hat_sit 73 = .ok (.aload_n 0, 1) := by decide +kernel
theorem d_Hat_sit_74 : decode b_Hat_sit 74 = .ok (.getfield 42, 3) := by decide +kernel
theorem d_Hat_sit_77 : decode b_Hat_sit 77 = .ok (.getfield 282, 3) := by decide +kernel
theorem d_Hat_sit_80 : decode b_Hat_sit 80 = .ok (.if_icmp .ge 34, 3) := by decide +kernel
theorem d_Hat_sit_83 : decode b_Hat_sit 83 = .ok (.aload_n 0, 1) := by decide +kernel
theorem d_Hat_sit_84 : decode b_Hat_sit 84 = .ok (.getfield 57, 3) := by decide +kernel
theorem d_Hat_sit_87 : decode b_Hat_sit 87 = .ok (.getfield 154, 3) := by decide +kernel
theorem d_Hat_sit_90 : decode b_Hat_sit 90 = .ok (.getfield 174, 3) := by decide +kernel
theorem d_Hat_sit_93 : decode b_Hat_sit 93 = .ok (.iload_n 1, 1) := by decide +kernel
theorem d_Hat_sit_94 : decode b_Hat_sit 94 = .ok (.aload_n 0, 1) := by decide +kernel
theorem d_Hat_sit_95 : decode b_Hat_sit 95 = .ok (.getfield 42, 3) := by decide +kernel
theorem d_Hat_sit_98 : decode b_Hat_sit 98 = .ok (.getfield 285, 3) := by decide +kernel
theorem d_Hat_sit_101 : decode b_Hat_sit 101 = .ok (.iload_n 1, 1) := by decide +kernel
theorem d_Hat_sit_102 : decode b_Hat_sit 102 = .ok (.invokevirtual 147, 3) := by decide +kernel
theorem d_Hat_sit_105 : decode b_Hat_sit 105 = .ok (.invokevirtual 84, 3) := by decide +kernel
theorem d_Hat_sit_108 : decode b_Hat_sit 108 = .ok (.iinc 1 1, 3) := by decide +kernel
theorem d_Hat_sit_111 : decode b_Hat_sit 111 = .ok (.goto (-39), 3) := by decide +kernel
theorem d_Hat_sit_114 : decode b_Hat_sit 114 = .ok (.iconst 1, 1) := by decide +kernel
theorem d_Hat_sit_115 : decode b_Hat_sit 115 = .ok (.ireturn, 1) := by decide +kernel
noncomputable def f_Hat_sit_L27 (z : Nat → Nat) (σ : Mm) (o : Nat) (s27 : Int32) : Option ((Int32) ⊕ ((Int32 × Mm) ⊕ (Unit))) :=
  if (σ.1 (o + 47) 1) ≤ s27 then (
    some (.inr (.inr ()))
  ) else (
    (f_Row_at z σ (o + 48) s27).bind fun q46 =>
    if q46 < (σ.1 (o + 61) 6) then (
      mm_lt (s27 + (1 : Int32)) fun x64 =>
      some (.inl x64)
    ) else (
      some (.inr (.inl ((0 : Int32), σ)))
    )
  )
noncomputable def f_Hat_sit_L72 (z : Nat → Nat) (o : Nat) (s72 : Int32 × Mm) : Option ((Int32 × Mm) ⊕ (Mm)) :=
  if (s72.2.1 (o + 47) 1) ≤ s72.1 then (
    some (.inr s72.2)
  ) else (
    (f_Row_at z s72.2 (o + 48) s72.1).bind fun q102 =>
    (f_Row_put z s72.2 (o + 77) s72.1 q102).bind fun q105 =>
    mm_lt (s72.1 + (1 : Int32)) fun x108 =>
    some (.inl (x108, q105))
  )
noncomputable def f_Hat_sit (z : Nat → Nat) (σ : Mm) (o : Nat) : Option (Int32 × Mm) :=
  if (σ.1 (o + 47) 1) = (σ.1 (o + 64) 1) then (
    (mm_lp (f_Hat_sit_L27 z σ o) (0 : Int32)).bind (Sum.elim (fun r9 => some r9) (fun x27_ =>
      (mm_lp (f_Hat_sit_L72 z o) ((0 : Int32), σ)).bind (fun q72 =>
        some ((1 : Int32), q72))))
  ) else (
    some ((0 : Int32), σ)
  )
set_option maxHeartbeats 4000000 in
set_option maxRecDepth 100000 in
theorem c_Hat_sit (l : Launch) {L : Ly} (hg : gd_ok L) {σ : Mm} {o : Nat} (k_o_0 : ly_k L o = 10) {res : Int32 × Mm} (hf0 : f_Hat_sit (ly_z L) σ o = some res) : CtI l y_Hat_sit b_Hat_sit 2 (some .boolean) rm_Hat_sit L [.ref (ly_a L o)] σ res.1 res.2 := by
  refine ct_z hg (by decide) (Nat.le_of_ble_eq_true rfl) ?_
  intro E A Q hE C hN
  subst hE
  have k_o_47 : ly_k L (o + 47) = 6 := gd_Hat_seating hg k_o_0
  have k_o_60 : ly_k L (o + 60) = 4 := gd_Hat_now hg k_o_0
  have k_o_61 : ly_k L (o + 61) = 2 := gd_State_island hg k_o_60
  have k_o_64 : ly_k L (o + 64) = 1 := gd_Island_houses hg k_o_61
  have k_o_48 : ly_k L (o + 48) = 0 := gd_Seating_latest hg k_o_47
  have k_o_74 : ly_k L (o + 74) = 3 := gd_State_hands hg k_o_60
  have k_o_77 : ly_k L (o + 77) = 0 := gd_Hands_sits hg k_o_74
  unfold f_Hat_sit at hf0
  show GW E L A 2 0 0 Q σ 0 [(0, .ref (ly_a L o))] []
  refine gw_aload_n C 0 d_Hat_sit_0 rfl rfl ?_
  refine gw_getA C 4 d_Hat_sit_1 k_o_0 (by decide) i_Hat rfl rfl (by decide) qw_407 rfl rfl (o + 47) rfl ?_
  refine gw_getIN C 1 d_Hat_sit_4 k_o_47 (by decide) i_Seating rfl rfl (by decide) qw_354 rfl rfl ?_
  refine gw_aload_n C 0 d_Hat_sit_7 rfl rfl ?_
  refine gw_getA C 7 d_Hat_sit_8 k_o_0 (by decide) i_Hat rfl rfl (by decide) qw_410 rfl rfl (o + 60) rfl ?_
  refine gw_getAN C 0 d_Hat_sit_11 k_o_60 (by decide) i_State rfl rfl (by decide) qw_237 rfl rfl (o + 61) rfl ?_
  refine gw_getAN C 1 d_Hat_sit_14 k_o_61 (by decide) i_Island rfl rfl (by decide) qw_136 rfl rfl (o + 64) rfl ?_
  refine gw_getIN C 1 d_Hat_sit_17 k_o_64 (by decide) i_Names rfl rfl (by decide) qw_115 rfl rfl ?_
  refine gw_icmp_eq C 25 d_Hat_sit_20 (by decide) (fun hc => ?_) (fun hc => ?_)
  · replace hf0 := mx_t hc hf0
    refine gw_iconst C (0 : Int32) d_Hat_sit_25 (by decide) ?_
    refine gw_istore_n C [(1, .int (0 : Int32)), (0, .ref (ly_a L o))] d_Hat_sit_26 rfl (by decide) rfl ?_
    obtain ⟨q27, hq27, hf0⟩ := mx_bd hf0
    have hk27 : ∀ x27_, q27 = .inr x27_ → GW E L A 2 0 0 Q σ 70 [(0, .ref (ly_a L o))] [] := by
      intro x27_ hx9
      subst hx9
      replace hf0 := mx_sr hf0
      refine gw_iconst C (0 : Int32) d_Hat_sit_70 (by decide) ?_
      refine gw_istore_n C [(1, .int (0 : Int32)), (0, .ref (ly_a L o))] d_Hat_sit_71 rfl (by decide) rfl ?_
      obtain ⟨q72, hq72, hf0⟩ := mx_bd hf0
      have hk72 : ∀ x9, q72 = x9 → GW E L A 2 0 0 Q x9 114 [] [] := by
        intro x9 hx9
        subst hx9
        refine gw_iconst C (1 : Int32) d_Hat_sit_114 (by decide) ?_
        exact en_z hN (Or.inr rfl) hf0 d_Hat_sit_115
      refine gw_sub [1, 0] (lv' := [(0, .ref (ly_a L o)), (1, .int (0 : Int32))]) rfl ?_
      refine mm_rule hq72 (P := fun (s72 : Int32 × Mm) => GW E L A 2 0 0 Q s72.2 72 [(0, .ref (ly_a L o)), (1, .int s72.1)] []) ?_
      intro s72 ih72 hx72 ⟨w72, hb72⟩
      have hf1 := hb72
      unfold f_Hat_sit_L72 at hf1
      refine gw_iload_n C 1 d_Hat_sit_72 rfl rfl ?_
      refine gw_aload_n C 0 d_Hat_sit_73 rfl rfl ?_
      refine gw_getA C 4 d_Hat_sit_74 k_o_0 (by decide) i_Hat rfl rfl (by decide) qw_407 rfl rfl (o + 47) rfl ?_
      refine gw_getIN C 1 d_Hat_sit_77 k_o_47 (by decide) i_Seating rfl rfl (by decide) qw_354 rfl rfl ?_
      refine gw_icmp_ge C 114 d_Hat_sit_80 (by decide) (fun hc => ?_) (fun hc => ?_)
      · replace hf1 := mx_t hc hf1
        exact gw_go [] (hk72 s72.2 (hx72 _ (hb72.trans hf1.symm)).symm) rfl
      · replace hf1 := mx_f hc hf1
        refine gw_aload_n C 0 d_Hat_sit_83 rfl rfl ?_
        refine gw_getA C 7 d_Hat_sit_84 k_o_0 (by decide) i_Hat rfl rfl (by decide) qw_410 rfl rfl (o + 60) rfl ?_
        refine gw_getAN C 1 d_Hat_sit_87 k_o_60 (by decide) i_State rfl rfl (by decide) qw_239 rfl rfl (o + 74) rfl ?_
        refine gw_getAN C 1 d_Hat_sit_90 k_o_74 (by decide) i_Hands rfl rfl (by decide) qw_193 rfl rfl (o + 77) rfl ?_
        refine gw_iload_n C 1 d_Hat_sit_93 rfl rfl ?_
        refine gw_aload_n C 0 d_Hat_sit_94 rfl rfl ?_
        refine gw_getA C 4 d_Hat_sit_95 k_o_0 (by decide) i_Hat rfl rfl (by decide) qw_407 rfl rfl (o + 47) rfl ?_
        refine gw_getAN C 0 d_Hat_sit_98 k_o_47 (by decide) i_Seating rfl rfl (by decide) qw_352 rfl rfl (o + 48) rfl ?_
        refine gw_iload_n C 1 d_Hat_sit_101 rfl rfl ?_
        obtain ⟨q102, hq102, hf1⟩ := mx_bd hf1
        refine gw_callI C (c_Row_at _ hg k_o_48 hq102) d_Hat_sit_102 1 qw_755 qw_489 qw_490 qw_4 qw_491 k_o_48 (by decide) rfl hd_Row_at rfl rfl (Nat.le_of_ble_eq_true rfl) ⟨rfl, rfl, Nat.le_of_ble_eq_true rfl, Nat.le_of_ble_eq_true rfl⟩ ⟨Nat.zero_le _, Nat.zero_le _⟩ ?_
        obtain ⟨q105, hq105, hf1⟩ := mx_bd hf1
        refine gw_callV C (c_Row_put _ hg k_o_77 hq105) d_Hat_sit_105 2 qw_460 qw_461 qw_462 qw_4 qw_463 k_o_77 (by decide) rfl hd_Row_put rfl rfl (Nat.le_of_ble_eq_true rfl) ⟨rfl, rfl, Nat.le_of_ble_eq_true rfl, Nat.le_of_ble_eq_true rfl⟩ ⟨Nat.zero_le _, Nat.zero_le _⟩ ?_
        obtain ⟨x108, ex108, hf1⟩ := mx_lt hf1
        refine gw_iinc C 1 [(1, .int x108), (0, .ref (ly_a L o))] d_Hat_sit_108 rfl (by rw [ex108]; rfl) (by decide) rfl ?_
        refine gw_goto C 72 d_Hat_sit_111 (by decide) ?_
        exact gw_go [1, 0] (ih72 (x108, q105) (hb72.trans hf1.symm)) rfl
    refine gw_sub [1, 0] (lv' := [(0, .ref (ly_a L o)), (1, .int (0 : Int32))]) rfl ?_
    refine mm_rule hq27 (P := fun (s27 : Int32) => GW E L A 2 0 0 Q σ 27 [(0, .ref (ly_a L o)), (1, .int s27)] []) ?_
    intro s27 ih27 hx27 ⟨w27, hb27⟩
    have hf1 := hb27
    unfold f_Hat_sit_L27 at hf1
    refine gw_iload_n C 1 d_Hat_sit_27 rfl rfl ?_
    refine gw_aload_n C 0 d_Hat_sit_28 rfl rfl ?_
    refine gw_getA C 4 d_Hat_sit_29 k_o_0 (by decide) i_Hat rfl rfl (by decide) qw_407 rfl rfl (o + 47) rfl ?_
    refine gw_getIN C 1 d_Hat_sit_32 k_o_47 (by decide) i_Seating rfl rfl (by decide) qw_354 rfl rfl ?_
    refine gw_icmp_ge C 70 d_Hat_sit_35 (by decide) (fun hc => ?_) (fun hc => ?_)
    · replace hf1 := mx_t hc hf1
      exact gw_go [0] (hk27 () (hx27 _ (hb27.trans hf1.symm)).symm) rfl
    · replace hf1 := mx_f hc hf1
      refine gw_aload_n C 0 d_Hat_sit_38 rfl rfl ?_
      refine gw_getA C 4 d_Hat_sit_39 k_o_0 (by decide) i_Hat rfl rfl (by decide) qw_407 rfl rfl (o + 47) rfl ?_
      refine gw_getAN C 0 d_Hat_sit_42 k_o_47 (by decide) i_Seating rfl rfl (by decide) qw_352 rfl rfl (o + 48) rfl ?_
      refine gw_iload_n C 1 d_Hat_sit_45 rfl rfl ?_
      obtain ⟨q46, hq46, hf1⟩ := mx_bd hf1
      refine gw_callI C (c_Row_at _ hg k_o_48 hq46) d_Hat_sit_46 1 qw_755 qw_489 qw_490 qw_4 qw_491 k_o_48 (by decide) rfl hd_Row_at rfl rfl (Nat.le_of_ble_eq_true rfl) ⟨rfl, rfl, Nat.le_of_ble_eq_true rfl, Nat.le_of_ble_eq_true rfl⟩ ⟨Nat.zero_le _, Nat.zero_le _⟩ ?_
      refine gw_aload_n C 0 d_Hat_sit_49 rfl rfl ?_
      refine gw_getA C 7 d_Hat_sit_50 k_o_0 (by decide) i_Hat rfl rfl (by decide) qw_410 rfl rfl (o + 60) rfl ?_
      refine gw_getAN C 0 d_Hat_sit_53 k_o_60 (by decide) i_State rfl rfl (by decide) qw_237 rfl rfl (o + 61) rfl ?_
      refine gw_getIN C 6 d_Hat_sit_56 k_o_61 (by decide) i_Island rfl rfl (by decide) qw_150 rfl rfl ?_
      refine gw_icmp_lt C 64 d_Hat_sit_59 (by decide) (fun hc => ?_) (fun hc => ?_)
      · replace hf1 := mx_t hc hf1
        obtain ⟨x64, ex64, hf1⟩ := mx_lt hf1
        refine gw_iinc C 1 [(1, .int x64), (0, .ref (ly_a L o))] d_Hat_sit_64 rfl (by rw [ex64]; rfl) (by decide) rfl ?_
        refine gw_goto C 27 d_Hat_sit_67 (by decide) ?_
        exact gw_go [1, 0] (ih27 x64 (hb27.trans hf1.symm)) rfl
      · replace hf1 := mx_f hc hf1
        refine gw_iconst C (0 : Int32) d_Hat_sit_62 (by decide) ?_
        have hr27 := hx27 _ (hb27.trans hf1.symm)
        subst hr27
        replace hf0 := mx_sl hf0
        exact en_z hN (Or.inl rfl) hf0 d_Hat_sit_63
  · replace hf0 := mx_f hc hf0
    refine gw_iconst C (0 : Int32) d_Hat_sit_23 (by decide) ?_
    exact en_z hN (Or.inl rfl) hf0 d_Hat_sit_24

/-! NameHat.Dealings.layOut(LNameHat.State;I)V -/
abbrev b_Dealings_layOut : ByteArray := prog_2_method_2_code
def y_Dealings_layOut : MethodName := ⟨"NameHat$Dealings", "layOut", "(LNameHat$State;I)V"⟩
abbrev rm_Dealings_layOut : Room := { frames := 1, cells := 0, slots := 0, locals := 22 }
theorem hd_Dealings_layOut : y_Dealings_layOut.cls ≠ "java/lang/invoke/MethodHandle" ∧ y_Dealings_layOut.cls ≠ "java/lang/invoke/VarHandle" ∧ (parseMethodDescriptor y_Dealings_layOut.desc).map (fun d => d.parameters.length) = some 2 := by decide +kernel
theorem d_Dealings_layOut_0 : decode b_Dealings_layOut 0 = .ok (.aload_n 0, 1) := by decide +kernel
theorem d_Dealings_layOut_1 : decode b_Dealings_layOut 1 = .ok (.aload_n 1, 1) := by decide +kernel
theorem d_Dealings_layOut_2 : decode b_Dealings_layOut 2 = .ok (.getfield 20, 3) := by decide +kernel
theorem d_Dealings_layOut_5 : decode b_Dealings_layOut 5 = .ok (.getfield 26, 3) := by decide +kernel
theorem d_Dealings_layOut_8 : decode b_Dealings_layOut 8 = .ok (.getfield 32, 3) := by decide +kernel
theorem d_Dealings_layOut_11 : decode b_Dealings_layOut 11 = .ok (.iload_n 2, 1) := by decide +kernel
theorem d_Dealings_layOut_12 : decode b_Dealings_layOut 12 = .ok (.iconst (-1), 1) := by decide +kernel
theorem d_Dealings_layOut_13 : decode b_Dealings_layOut 13 = .ok (.if_icmp .ne 7, 3) := by decide +kernel
theorem d_Dealings_layOut_16 : decode b_Dealings_layOut 16 = .ok (.iconst 0, 1) := by decide +kernel
theorem d_Dealings_layOut_17 : decode b_Dealings_layOut 17 = .ok (.goto 4, 3) := by decide +kernel
theorem d_Dealings_layOut_20 : decode b_Dealings_layOut 20 = .ok (.iconst 1, 1) := by decide +kernel
theorem d_Dealings_layOut_21 : decode b_Dealings_layOut 21 = .ok (.isub, 1) := by decide +kernel
theorem d_Dealings_layOut_22 : decode b_Dealings_layOut 22 = .ok (.putfield 38, 3) := by decide +kernel
theorem d_Dealings_layOut_25 : decode b_Dealings_layOut 25 = .ok (.aload_n 0, 1) := by decide +kernel
theorem d_Dealings_layOut_26 : decode b_Dealings_layOut 26 = .ok (.iconst 1, 1) := by decide +kernel
theorem d_Dealings_layOut_27 : decode b_Dealings_layOut 27 = .ok (.aload_n 1, 1) := by decide +kernel
theorem d_Dealings_layOut_28 : decode b_Dealings_layOut 28 = .ok (.getfield 20, 3) := by decide +kernel
theorem d_Dealings_layOut_31 : decode b_Dealings_layOut 31 = .ok (.getfield 41, 3) := by decide +kernel
theorem d_Dealings_layOut_34 : decode b_Dealings_layOut 34 = .ok (.getfield 32, 3) := by decide +kernel
theorem d_Dealings_layOut_37 : decode b_Dealings_layOut 37 = .ok (.ishl, 1) := by decide +kernel
theorem d_Dealings_layOut_38 : decode b_Dealings_layOut 38 = .ok (.putfield 44, 3) := by decide +kernel
theorem d_Dealings_layOut_41 : decode b_Dealings_layOut 41 = .ok (.aload_n 0, 1) := by decide +kernel
theorem d_Dealings_layOut_42 : decode b_Dealings_layOut 42 = .ok (.getfield 14, 3) := by decide +kernel
theorem d_Dealings_layOut_45 : decode b_Dealings_layOut 45 = .ok (.iconst 0, 1) := by decide +kernel
theorem d_Dealings_layOut_46 : decode b_Dealings_layOut 46 = .ok (.iconst 1, 1) := by decide +kernel
theorem d_Dealings_layOut_47 : decode b_Dealings_layOut 47 = .ok (.invokevirtual 47, 3) := by decide +kernel
theorem d_Dealings_layOut_50 : decode b_Dealings_layOut 50 = .ok (.iconst 1, 1) := by decide +kernel
theorem d_Dealings_layOut_51 : decode b_Dealings_layOut 51 = .ok (.istore_n 3, 1) := by decide +kernel
theorem d_Dealings_layOut_52 : decode b_Dealings_layOut 52 = .ok (.iload_n 3, 1) := by decide +kernel
theorem d_Dealings_layOut_53 : decode b_Dealings_layOut 53 = .ok (.aload_n 0, 1) := by decide +kernel
theorem d_Dealings_layOut_54 : decode b_Dealings_layOut 54 = .ok (.getfield 44, 3) := by decide +kernel
theorem d_Dealings_layOut_57 : decode b_Dealings_layOut 57 = .ok (.if_icmp .ge 133, 3) := by decide +kernel
theorem d_Dealings_layOut_60 : decode b_Dealings_layOut 60 = .ok (.iload_n 3, 1) := by decide +kernel
theorem d_Dealings_layOut_61 : decode b_Dealings_layOut 61 = .ok (.invokestatic 51, 3) := by decide +kernel
theorem d_Dealings_layOut_64 : decode b_Dealings_layOut 64 = .ok (.istore 4, 2) := by decide +kernel
theorem d_Dealings_layOut_66 : decode b_Dealings_layOut 66 = .ok (.iload_n 2, 1) := by decide +kernel
theorem d_Dealings_layOut_67 : decode b_Dealings_layOut 67 = .ok (.iconst (-1), 1) := by decide +kernel
theorem d_Dealings_layOut_68 : decode b_Dealings_layOut 68 = .ok (.if_icmp .eq 16, 3) := by decide +kernel
theorem d_Dealings_layOut_71 : decode b_Dealings_layOut 71 = .ok (.iload 4, 2) := by decide +kernel
theorem d_Dealings_layOut_73 : decode b_Dealings_layOut 73 = .ok (.iconst 1, 1) := by decide +kernel
theorem d_Dealings_layOut_74 : decode b_Dealings_layOut 74 = .ok (.isub, 1) := by decide +kernel
theorem d_Dealings_layOut_75 : decode b_Dealings_layOut 75 = .ok (.iload_n 2, 1) := by decide +kernel
theorem d_Dealings_layOut_76 : decode b_Dealings_layOut 76 = .ok (.if_icmp .lt 8, 3) := by decide +kernel
theorem d_Dealings_layOut_79 : decode b_Dealings_layOut 79 = .ok (.iload 4, 2) := by decide +kernel
theorem d_Dealings_layOut_81 : decode b_Dealings_layOut 81 = .ok (.goto 7, 3) := by decide +kernel
theorem d_Dealings_layOut_84 : decode b_Dealings_layOut 84 = .ok (.iload 4, 2) := by decide +kernel
theorem d_Dealings_layOut_86 : decode b_Dealings_layOut 86 = .ok (.iconst 1, 1) := by decide +kernel
theorem d_Dealings_layOut_87 : decode b_Dealings_layOut 87 = .ok (.isub, 1) := by decide +kernel
theorem d_Dealings_layOut_88 : decode b_Dealings_layOut 88 = .ok (.istore 5, 2) := by decide +kernel
theorem d_Dealings_layOut_90 : decode b_Dealings_layOut 90 = .ok (.iconst 0, 1) := by decide +kernel
theorem d_Dealings_layOut_91 : decode b_Dealings_layOut 91 = .ok (.istore 6, 2) := by decide +kernel
theorem d_Dealings_layOut_93 : decode b_Dealings_layOut 93 = .ok (.iload 4, 2) := by decide +kernel
theorem d_Dealings_layOut_95 : decode b_Dealings_layOut 95 = .ok (.aload_n 0, 1) := by decide +kernel
theorem d_Dealings_layOut_96 : decode b_Dealings_layOut 96 = .ok (.getfield 38, 3) := by decide +kernel
theorem d_Dealings_layOut_99 : decode b_Dealings_layOut 99 = .ok (.if_icmp .gt 17, 3) := by decide +kernel
theorem d_Dealings_layOut_102 : decode b_Dealings_layOut 102 = .ok (.iload_n 3, 1) := by decide +kernel
theorem d_Dealings_layOut_103 : decode b_Dealings_layOut 103 = .ok (.aload_n 1, 1) := by decide +kernel
theorem d_Dealings_layOut_104 : decode b_Dealings_layOut 104 = .ok (.getfield 57, 3) := by decide +kernel
theorem d_Dealings_layOut_107 : decode b_Dealings_layOut 107 = .ok (.iload 5, 2) := by decide +kernel
theorem d_Dealings_layOut_109 : decode b_Dealings_layOut 109 = .ok (.invokevirtual 60, 3) := by decide +kernel
theorem d_Dealings_layOut_112 : decode b_Dealings_layOut 112 = .ok (.iand, 1) := by decide +kernel
theorem d_Dealings_layOut_113 : decode b_Dealings_layOut 113 = .ok (.goto 4, 3) := by decide +kernel
theorem d_Dealings_layOut_116 : decode b_Dealings_layOut 116 = .ok (.iconst 0, 1) := by decide +kernel
theorem d_Dealings_layOut_117 : decode b_Dealings_layOut 117 = .ok (.istore 7, 2) := by decide +kernel
theorem d_Dealings_layOut_119 : decode b_Dealings_layOut 119 = .ok (.iconst 0, 1) := by decide +kernel
theorem d_Dealings_layOut_120 : decode b_Dealings_layOut 120 = .ok (.istore 8, 2) := by decide +kernel
theorem d_Dealings_layOut_122 : decode b_Dealings_layOut 122 = .ok (.iload 8, 2) := by decide +kernel
theorem d_Dealings_layOut_124 : decode b_Dealings_layOut 124 = .ok (.bipush 10, 2) := by decide +kernel
theorem d_Dealings_layOut_126 : decode b_Dealings_layOut 126 = .ok (.if_icmp .ge 48, 3) := by decide +kernel
theorem d_Dealings_layOut_129 : decode b_Dealings_layOut 129 = .ok (.iload 7, 2) := by decide +kernel
theorem d_Dealings_layOut_131 : decode b_Dealings_layOut 131 = .ok (.iload 8, 2) := by decide +kernel
theorem d_Dealings_layOut_133 : decode b_Dealings_layOut 133 = .ok (.ishr, 1) := by decide +kernel
theorem d_Dealings_layOut_134 : decode b_Dealings_layOut 134 = .ok (.ifCond .eq 40, 3) := by decide +kernel
theorem d_Dealings_layOut_137 : decode b_Dealings_layOut 137 = .ok (.iload 7, 2) := by decide +kernel
theorem d_Dealings_layOut_139 : decode b_Dealings_layOut 139 = .ok (.iload 8, 2) := by decide +kernel
theorem d_Dealings_layOut_141 : decode b_Dealings_layOut 141 = .ok (.ishr, 1) := by decide +kernel
theorem d_Dealings_layOut_142 : decode b_Dealings_layOut 142 = .ok (.iconst 1, 1) := by decide +kernel
theorem d_Dealings_layOut_143 : decode b_Dealings_layOut 143 = .ok (.iand, 1) := by decide +kernel
theorem d_Dealings_layOut_144 : decode b_Dealings_layOut 144 = .ok (.iconst 1, 1) := by decide +kernel
theorem d_Dealings_layOut_145 : decode b_Dealings_layOut 145 = .ok (.if_icmp .ne 23, 3) := by decide +kernel
theorem d_Dealings_layOut_148 : decode b_Dealings_layOut 148 = .ok (.iload 6, 2) := by decide +kernel
theorem d_Dealings_layOut_150 : decode b_Dealings_layOut 150 = .ok (.aload_n 0, 1) := by decide +kernel
theorem d_Dealings_layOut_151 : decode b_Dealings_layOut 151 = .ok (.getfield 14, 3) := by decide +kernel
theorem d_Dealings_layOut_154 : decode b_Dealings_layOut 154 = .ok (.iload_n 3, 1) := by decide +kernel
theorem d_Dealings_layOut_155 : decode b_Dealings_layOut 155 = .ok (.iconst 1, 1) := by decide +kernel
theorem d_Dealings_layOut_156 : decode b_Dealings_layOut 156 = .ok (.iload 8, 2) := by decide +kernel
theorem d_Dealings_layOut_158 : decode b_Dealings_layOut 158 = .ok (.ishl, 1) := by decide +kernel
theorem d_Dealings_layOut_159 : decode b_Dealings_layOut 159 = .ok (.iconst (-1), 1) := by decide +kernel
theorem d_Dealings_layOut_160 : decode b_Dealings_layOut 160 = .ok (.ixor, 1) := by decide +kernel
theorem d_Dealings_layOut_161 : decode b_Dealings_layOut 161 = .ok (.iand, 1) := by decide +kernel
theorem d_Dealings_layOut_162 : decode b_Dealings_layOut 162 = .ok (.invokevirtual 60, 3) := by decide +kernel
theorem d_Dealings_layOut_165 : decode b_Dealings_layOut 165 = .ok (.iadd, 1) := by decide +kernel
theorem d_Dealings_layOut_166 : decode b_Dealings_layOut 166 = .ok (.istore 6, 2) := by decide +kernel
theorem d_Dealings_layOut_168 : decode b_Dealings_layOut 168 = .ok (.iinc 8 1, 3) := by decide +kernel
theorem d_Dealings_layOut_171 : decode b_Dealings_layOut 171 = .ok (.goto (-49), 3) := by decide +kernel
theorem d_Dealings_layOut_174 : decode b_Dealings_layOut 174 = .ok (.aload_n 0, 1) := by decide +kernel
theorem d_Dealings_layOut_175 : decode b_Dealings_layOut 175 = .ok (.getfield 14, 3) := by decide +kernel
theorem d_Dealings_layOut_178 : decode b_Dealings_layOut 178 = .ok (.iload_n 3, 1) := by decide +kernel
theorem d_Dealings_layOut_179 : decode b_Dealings_layOut 179 = .ok (.iload 6, 2) := by decide +kernel
theorem d_Dealings_layOut_181 : decode b_Dealings_layOut 181 = .ok (.invokevirtual 47, 3) := by decide +kernel
theorem d_Dealings_layOut_184 : decode b_Dealings_layOut 184 = .ok (.iinc 3 1, 3) := by decide +kernel
theorem d_Dealings_layOut_187 : decode b_Dealings_layOut 187 = .ok (.goto (-135), 3) := by decide +kernel
theorem d_Dealings_layOut_190 : decode b_Dealings_layOut 190 = .ok (.return_, 1) := by decide +kernel
noncomputable def f_Dealings_layOut_J174 (z : Nat → Nat) (o : Nat) (o1 : Nat) (v2 : Int32) (v3 : Int32) (v6 : Int32) (m174 : Mm) : Option ((Int32 × Mm) ⊕ (Mm)) :=
  (f_Row_put z m174 (o + 1) v3 v6).bind fun q181 =>
  mm_lt (v3 + (1 : Int32)) fun x184 =>
  some (.inl (x184, q181))
noncomputable def f_Dealings_layOut_L122 (z : Nat → Nat) (σ : Mm) (o : Nat) (o1 : Nat) (v2 : Int32) (v3 : Int32) (v7 : Int32) (s122 : Int32 × Int32) : Option ((Int32 × Int32) ⊕ (Int32)) :=
  if (10 : Int32) ≤ s122.2 then (
    some (.inr s122.1)
  ) else (
    if (v7 >>> (s122.2 &&& 31)) = 0 then (
      some (.inr s122.1)
    ) else (
      if ((v7 >>> (s122.2 &&& 31)) &&& (1 : Int32)) = (1 : Int32) then (
        (f_Row_at z σ (o + 1) (v3 &&& (((1 : Int32) <<< (s122.2 &&& 31)) ^^^ ((-1) : Int32)))).bind fun q162 =>
        mm_lt ((s122.1 + q162)) fun x166 =>
        mm_lt (s122.2 + (1 : Int32)) fun x168 =>
        some (.inl (x166, x168))
      ) else (
        mm_lt (s122.2 + (1 : Int32)) fun x168 =>
        some (.inl (s122.1, x168))
      )
    )
  )
noncomputable def f_Dealings_layOut_J117 (z : Nat → Nat) (o : Nat) (o1 : Nat) (v2 : Int32) (v3 : Int32) (v6 : Int32) (t117_0 : Int32) (m117 : Mm) : Option ((Int32 × Mm) ⊕ (Mm)) :=
  (mm_lp (f_Dealings_layOut_L122 z m117 o o1 v2 v3 t117_0) (v6, (0 : Int32))).bind (fun q122 =>
    f_Dealings_layOut_J174 z o o1 v2 v3 q122 m117)
noncomputable def f_Dealings_layOut_J88 (z : Nat → Nat) (o : Nat) (o1 : Nat) (v2 : Int32) (v3 : Int32) (v4 : Int32) (t88_0 : Int32) (m88 : Mm) : Option ((Int32 × Mm) ⊕ (Mm)) :=
  if (m88.1 o 1) < v4 then (
    f_Dealings_layOut_J117 z o o1 v2 v3 (0 : Int32) (0 : Int32) m88
  ) else (
    (f_Row_at z m88 (o1 + 27) t88_0).bind fun q109 =>
    f_Dealings_layOut_J117 z o o1 v2 v3 (0 : Int32) (v3 &&& q109) m88
  )
noncomputable def f_Dealings_layOut_L52 (z : Nat → Nat) (o : Nat) (o1 : Nat) (v2 : Int32) (s52 : Int32 × Mm) : Option ((Int32 × Mm) ⊕ (Mm)) :=
  if (s52.2.1 o 2) ≤ s52.1 then (
    some (.inr s52.2)
  ) else (
    (f_Int_bitCount z s52.2 s52.1).bind fun q61 =>
    if v2 = ((-1) : Int32) then (
      f_Dealings_layOut_J88 z o o1 v2 s52.1 q61 (q61 - (1 : Int32)) s52.2
    ) else (
      if (q61 - (1 : Int32)) < v2 then (
        f_Dealings_layOut_J88 z o o1 v2 s52.1 q61 (q61 - (1 : Int32)) s52.2
      ) else (
        f_Dealings_layOut_J88 z o o1 v2 s52.1 q61 q61 s52.2
      )
    )
  )
noncomputable def f_Dealings_layOut_J21 (z : Nat → Nat) (o : Nat) (o1 : Nat) (v2 : Int32) (t21_1 : Int32) (t21_2 : Int32) (m21 : Mm) : Option (Mm) :=
  mm_lt (kI m21 o 1 (t21_1 - t21_2)) fun m22 =>
  mm_lt (kI m22 o 2 ((1 : Int32) <<< ((m22.1 (o1 + 2) 1) &&& 31))) fun m38 =>
  (f_Row_put z m38 (o + 1) (0 : Int32) (1 : Int32)).bind fun q47 =>
  (mm_lp (f_Dealings_layOut_L52 z o o1 v2) ((1 : Int32), q47)).bind (fun q52 =>
    some q52)
noncomputable def f_Dealings_layOut (z : Nat → Nat) (σ : Mm) (o : Nat) (o1 : Nat) (p2 : Int32) : Option (Mm) :=
  if p2 = ((-1) : Int32) then (
    f_Dealings_layOut_J21 z o o1 p2 (σ.1 (o1 + 4) 1) (0 : Int32) σ
  ) else (
    f_Dealings_layOut_J21 z o o1 p2 (σ.1 (o1 + 4) 1) (1 : Int32) σ
  )
set_option maxHeartbeats 4000000 in
set_option maxRecDepth 100000 in
theorem c_Dealings_layOut (l : Launch) {L : Ly} (hg : gd_ok L) {σ : Mm} {o : Nat} {o1 : Nat} {p2 : Int32} (k_o_0 : ly_k L o = 7) (k_o1_0 : ly_k L o1 = 4) {res : Mm} (hf0 : f_Dealings_layOut (ly_z L) σ o o1 p2 = some res) : CtV l y_Dealings_layOut b_Dealings_layOut 9 (none) rm_Dealings_layOut L [.ref (ly_a L o), .ref (ly_a L o1), .int p2] σ res := by
  refine ct_v hg (by decide) (Nat.le_of_ble_eq_true rfl) ?_
  intro E A Q hE C hN
  subst hE
  have k_o1_1 : ly_k L (o1 + 1) = 2 := gd_State_island hg k_o1_0
  have k_o1_2 : ly_k L (o1 + 2) = 1 := gd_Island_surnames hg k_o1_1
  have k_o_1 : ly_k L (o + 1) = 0 := gd_Dealings_ways hg k_o_0
  have k_o1_27 : ly_k L (o1 + 27) = 0 := gd_State_fits hg k_o1_0
  have k_o1_4 : ly_k L (o1 + 4) = 1 := gd_Island_houses hg k_o1_1
  unfold f_Dealings_layOut at hf0
  show GW E L A 9 0 0 Q σ 0 [(0, .ref (ly_a L o)), (1, .ref (ly_a L o1)), (2, .int p2)] []
  have hj21 : ∀ (v2 : Int32) (t21_1 : Int32) (t21_2 : Int32) (m21 : Mm), f_Dealings_layOut_J21 (ly_z L) o o1 v2 t21_1 t21_2 m21 = some res → GW E L A 9 0 0 Q m21 21 [(0, .ref (ly_a L o)), (1, .ref (ly_a L o1)), (2, .int v2)] [.int t21_2, .int t21_1, .ref (ly_a L o)] := by
    intro v2 t21_1 t21_2 m21 hf0
    unfold f_Dealings_layOut_J21 at hf0
    refine gw_isub C d_Dealings_layOut_21 ?_
    obtain ⟨m22, em22, hf0⟩ := mx_lt hf0
    refine gw_putI t_Dealings C 1 d_Dealings_layOut_22 k_o_0 (by decide) i_Dealings rfl rfl (by decide) qw_394 rfl rfl t_Dealings_ok n_Dealings rfl (t_Dealings_ok 1 (by decide)) rfl rfl em22 ?_
    refine gw_aload_n C 0 d_Dealings_layOut_25 rfl rfl ?_
    refine gw_iconst C (1 : Int32) d_Dealings_layOut_26 (by decide) ?_
    refine gw_aload_n C 1 d_Dealings_layOut_27 rfl rfl ?_
    refine gw_getAN C 0 d_Dealings_layOut_28 k_o1_0 (by decide) i_State rfl rfl (by decide) qw_235 rfl rfl (o1 + 1) rfl ?_
    refine gw_getAN C 0 d_Dealings_layOut_31 k_o1_1 (by decide) i_Island rfl rfl (by decide) qw_125 rfl rfl (o1 + 2) rfl ?_
    refine gw_getIN C 1 d_Dealings_layOut_34 k_o1_2 (by decide) i_Names rfl rfl (by decide) qw_110 rfl rfl ?_
    refine gw_ishl C d_Dealings_layOut_37 ?_
    obtain ⟨m38, em38, hf0⟩ := mx_lt hf0
    refine gw_putI t_Dealings C 2 d_Dealings_layOut_38 k_o_0 (by decide) i_Dealings rfl rfl (by decide) qw_395 rfl rfl t_Dealings_ok n_Dealings rfl (t_Dealings_ok 2 (by decide)) rfl rfl em38 ?_
    refine gw_aload_n C 0 d_Dealings_layOut_41 rfl rfl ?_
    refine gw_getA C 0 d_Dealings_layOut_42 k_o_0 (by decide) i_Dealings rfl rfl (by decide) qw_393 rfl rfl (o + 1) rfl ?_
    refine gw_iconst C (0 : Int32) d_Dealings_layOut_45 (by decide) ?_
    refine gw_iconst C (1 : Int32) d_Dealings_layOut_46 (by decide) ?_
    obtain ⟨q47, hq47, hf0⟩ := mx_bd hf0
    refine gw_callV C (c_Row_put _ hg k_o_1 hq47) d_Dealings_layOut_47 2 qw_925 qw_461 qw_462 qw_4 qw_463 k_o_1 (by decide) rfl hd_Row_put rfl rfl (Nat.le_of_ble_eq_true rfl) ⟨rfl, rfl, Nat.le_of_ble_eq_true rfl, Nat.le_of_ble_eq_true rfl⟩ ⟨Nat.zero_le _, Nat.zero_le _⟩ ?_
    refine gw_iconst C (1 : Int32) d_Dealings_layOut_50 (by decide) ?_
    refine gw_istore_n C [(3, .int (1 : Int32)), (0, .ref (ly_a L o)), (1, .ref (ly_a L o1)), (2, .int v2)] d_Dealings_layOut_51 rfl (by decide) rfl ?_
    obtain ⟨q52, hq52, hf0⟩ := mx_bd hf0
    have hk52 : ∀ x9, q52 = x9 → GW E L A 9 0 0 Q x9 190 [] [] := by
      intro x9 hx9
      subst hx9
      exact en_v hN hf0 d_Dealings_layOut_190
    refine gw_sub [1, 2, 3, 0] (lv' := [(0, .ref (ly_a L o)), (1, .ref (ly_a L o1)), (2, .int v2), (3, .int (1 : Int32))]) rfl ?_
    refine mm_rule hq52 (P := fun (s52 : Int32 × Mm) => GW E L A 9 0 0 Q s52.2 52 [(0, .ref (ly_a L o)), (1, .ref (ly_a L o1)), (2, .int v2), (3, .int s52.1)] []) ?_
    intro s52 ih52 hx52 ⟨w52, hb52⟩
    have hj174 : ∀ (v3 : Int32) (v6 : Int32) (m174 : Mm), f_Dealings_layOut_J174 (ly_z L) o o1 v2 v3 v6 m174 = some w52 → GW E L A 9 0 0 Q m174 174 [(0, .ref (ly_a L o)), (1, .ref (ly_a L o1)), (2, .int v2), (3, .int v3), (6, .int v6)] [] := by
      intro v3 v6 m174 hf1
      unfold f_Dealings_layOut_J174 at hf1
      refine gw_aload_n C 0 d_Dealings_layOut_174 rfl rfl ?_
      refine gw_getA C 0 d_Dealings_layOut_175 k_o_0 (by decide) i_Dealings rfl rfl (by decide) qw_393 rfl rfl (o + 1) rfl ?_
      refine gw_iload_n C 3 d_Dealings_layOut_178 rfl rfl ?_
      refine gw_iload C 4 d_Dealings_layOut_179 rfl ?_
      obtain ⟨q181, hq181, hf1⟩ := mx_bd hf1
      refine gw_callV C (c_Row_put _ hg k_o_1 hq181) d_Dealings_layOut_181 2 qw_925 qw_461 qw_462 qw_4 qw_463 k_o_1 (by decide) rfl hd_Row_put rfl rfl (Nat.le_of_ble_eq_true rfl) ⟨rfl, rfl, Nat.le_of_ble_eq_true rfl, Nat.le_of_ble_eq_true rfl⟩ ⟨Nat.zero_le _, Nat.zero_le _⟩ ?_
      obtain ⟨x184, ex184, hf1⟩ := mx_lt hf1
      refine gw_iinc C 3 [(3, .int x184), (0, .ref (ly_a L o)), (1, .ref (ly_a L o1)), (2, .int v2), (6, .int v6)] d_Dealings_layOut_184 rfl (by rw [ex184]; rfl) (by decide) rfl ?_
      refine gw_goto C 52 d_Dealings_layOut_187 (by decide) ?_
      exact gw_go [1, 2, 3, 0] (ih52 (x184, q181) (hb52.trans hf1.symm)) rfl
    have hj117 : ∀ (v3 : Int32) (v6 : Int32) (t117_0 : Int32) (m117 : Mm), f_Dealings_layOut_J117 (ly_z L) o o1 v2 v3 v6 t117_0 m117 = some w52 → GW E L A 9 0 0 Q m117 117 [(0, .ref (ly_a L o)), (1, .ref (ly_a L o1)), (2, .int v2), (3, .int v3), (6, .int v6)] [.int t117_0] := by
      intro v3 v6 t117_0 m117 hf1
      unfold f_Dealings_layOut_J117 at hf1
      refine gw_istore C [(7, .int t117_0), (0, .ref (ly_a L o)), (1, .ref (ly_a L o1)), (2, .int v2), (3, .int v3), (6, .int v6)] d_Dealings_layOut_117 (by decide) rfl ?_
      refine gw_iconst C (0 : Int32) d_Dealings_layOut_119 (by decide) ?_
      refine gw_istore C [(8, .int (0 : Int32)), (7, .int t117_0), (0, .ref (ly_a L o)), (1, .ref (ly_a L o1)), (2, .int v2), (3, .int v3), (6, .int v6)] d_Dealings_layOut_120 (by decide) rfl ?_
      obtain ⟨q122, hq122, hf1⟩ := mx_bd hf1
      have hk122 : ∀ x9, q122 = x9 → GW E L A 9 0 0 Q m117 174 [(0, .ref (ly_a L o)), (1, .ref (ly_a L o1)), (2, .int v2), (3, .int v3), (6, .int x9)] [] := by
        intro x9 hx9
        subst hx9
        exact gw_go [0, 1, 2, 3, 4] (hj174 _ _ _ hf1) rfl
      refine gw_sub [2, 3, 4, 5, 6, 1, 0] (lv' := [(0, .ref (ly_a L o)), (1, .ref (ly_a L o1)), (2, .int v2), (3, .int v3), (6, .int v6), (7, .int t117_0), (8, .int (0 : Int32))]) rfl ?_
      refine mm_rule hq122 (P := fun (s122 : Int32 × Int32) => GW E L A 9 0 0 Q m117 122 [(0, .ref (ly_a L o)), (1, .ref (ly_a L o1)), (2, .int v2), (3, .int v3), (6, .int s122.1), (7, .int t117_0), (8, .int s122.2)] []) ?_
      intro s122 ih122 hx122 ⟨w122, hb122⟩
      have hf2 := hb122
      unfold f_Dealings_layOut_L122 at hf2
      refine gw_iload C 6 d_Dealings_layOut_122 rfl ?_
      refine gw_bipush C (10 : Int32) d_Dealings_layOut_124 (by decide) ?_
      refine gw_icmp_ge C 174 d_Dealings_layOut_126 (by decide) (fun hc => ?_) (fun hc => ?_)
      · replace hf2 := mx_t hc hf2
        exact gw_go [0, 1, 2, 3, 4] (hk122 s122.1 (hx122 _ (hb122.trans hf2.symm)).symm) rfl
      · replace hf2 := mx_f hc hf2
        refine gw_iload C 5 d_Dealings_layOut_129 rfl ?_
        refine gw_iload C 6 d_Dealings_layOut_131 rfl ?_
        refine gw_ishr C d_Dealings_layOut_133 ?_
        refine gw_if_eq C 174 d_Dealings_layOut_134 (by decide) (fun hc => ?_) (fun hc => ?_)
        · replace hf2 := mx_t hc hf2
          exact gw_go [0, 1, 2, 3, 4] (hk122 s122.1 (hx122 _ (hb122.trans hf2.symm)).symm) rfl
        · replace hf2 := mx_f hc hf2
          refine gw_iload C 5 d_Dealings_layOut_137 rfl ?_
          refine gw_iload C 6 d_Dealings_layOut_139 rfl ?_
          refine gw_ishr C d_Dealings_layOut_141 ?_
          refine gw_iconst C (1 : Int32) d_Dealings_layOut_142 (by decide) ?_
          refine gw_iand C d_Dealings_layOut_143 ?_
          refine gw_iconst C (1 : Int32) d_Dealings_layOut_144 (by decide) ?_
          refine gw_icmp_ne C 168 d_Dealings_layOut_145 (by decide) (fun hc => ?_) (fun hc => ?_)
          · replace hf2 := mx_f hc hf2
            obtain ⟨x168, ex168, hf2⟩ := mx_lt hf2
            refine gw_iinc C 6 [(8, .int x168), (0, .ref (ly_a L o)), (1, .ref (ly_a L o1)), (2, .int v2), (3, .int v3), (6, .int s122.1), (7, .int t117_0)] d_Dealings_layOut_168 rfl (by rw [ex168]; rfl) (by decide) rfl ?_
            refine gw_goto C 122 d_Dealings_layOut_171 (by decide) ?_
            exact gw_go [1, 2, 3, 4, 5, 6, 0] (ih122 (s122.1, x168) (hb122.trans hf2.symm)) rfl
          · replace hf2 := mx_t hc hf2
            refine gw_iload C 4 d_Dealings_layOut_148 rfl ?_
            refine gw_aload_n C 0 d_Dealings_layOut_150 rfl rfl ?_
            refine gw_getA C 0 d_Dealings_layOut_151 k_o_0 (by decide) i_Dealings rfl rfl (by decide) qw_393 rfl rfl (o + 1) rfl ?_
            refine gw_iload_n C 3 d_Dealings_layOut_154 rfl rfl ?_
            refine gw_iconst C (1 : Int32) d_Dealings_layOut_155 (by decide) ?_
            refine gw_iload C 6 d_Dealings_layOut_156 rfl ?_
            refine gw_ishl C d_Dealings_layOut_158 ?_
            refine gw_iconst C ((-1) : Int32) d_Dealings_layOut_159 (by decide) ?_
            refine gw_ixor C d_Dealings_layOut_160 ?_
            refine gw_iand C d_Dealings_layOut_161 ?_
            obtain ⟨q162, hq162, hf2⟩ := mx_bd hf2
            refine gw_callI C (c_Row_at _ hg k_o_1 hq162) d_Dealings_layOut_162 1 qw_927 qw_489 qw_490 qw_4 qw_491 k_o_1 (by decide) rfl hd_Row_at rfl rfl (Nat.le_of_ble_eq_true rfl) ⟨rfl, rfl, Nat.le_of_ble_eq_true rfl, Nat.le_of_ble_eq_true rfl⟩ ⟨Nat.zero_le _, Nat.zero_le _⟩ ?_
            refine gw_iadd C d_Dealings_layOut_165 ?_
            obtain ⟨x166, ex166, hf2⟩ := mx_lt hf2
            refine gw_topi ex166 ?_
            refine gw_istore C [(6, .int x166), (0, .ref (ly_a L o)), (1, .ref (ly_a L o1)), (2, .int v2), (3, .int v3), (7, .int t117_0), (8, .int s122.2)] d_Dealings_layOut_166 (by decide) rfl ?_
            obtain ⟨x168, ex168, hf2⟩ := mx_lt hf2
            refine gw_iinc C 6 [(8, .int x168), (6, .int x166), (0, .ref (ly_a L o)), (1, .ref (ly_a L o1)), (2, .int v2), (3, .int v3), (7, .int t117_0)] d_Dealings_layOut_168 rfl (by rw [ex168]; rfl) (by decide) rfl ?_
            refine gw_goto C 122 d_Dealings_layOut_171 (by decide) ?_
            exact gw_go [2, 3, 4, 5, 1, 6, 0] (ih122 (x166, x168) (hb122.trans hf2.symm)) rfl
    have hj88 : ∀ (v3 : Int32) (v4 : Int32) (t88_0 : Int32) (m88 : Mm), f_Dealings_layOut_J88 (ly_z L) o o1 v2 v3 v4 t88_0 m88 = some w52 → GW E L A 9 0 0 Q m88 88 [(0, .ref (ly_a L o)), (1, .ref (ly_a L o1)), (2, .int v2), (3, .int v3), (4, .int v4)] [.int t88_0] := by
      intro v3 v4 t88_0 m88 hf1
      unfold f_Dealings_layOut_J88 at hf1
      refine gw_istore C [(5, .int t88_0), (0, .ref (ly_a L o)), (1, .ref (ly_a L o1)), (2, .int v2), (3, .int v3), (4, .int v4)] d_Dealings_layOut_88 (by decide) rfl ?_
      refine gw_iconst C (0 : Int32) d_Dealings_layOut_90 (by decide) ?_
      refine gw_istore C [(6, .int (0 : Int32)), (5, .int t88_0), (0, .ref (ly_a L o)), (1, .ref (ly_a L o1)), (2, .int v2), (3, .int v3), (4, .int v4)] d_Dealings_layOut_91 (by decide) rfl ?_
      refine gw_iload C 6 d_Dealings_layOut_93 rfl ?_
      refine gw_aload_n C 2 d_Dealings_layOut_95 rfl rfl ?_
      refine gw_getI C 1 d_Dealings_layOut_96 k_o_0 (by decide) i_Dealings rfl rfl (by decide) qw_394 rfl rfl ?_
      refine gw_icmp_gt C 116 d_Dealings_layOut_99 (by decide) (fun hc => ?_) (fun hc => ?_)
      · replace hf1 := mx_t hc hf1
        refine gw_iconst C (0 : Int32) d_Dealings_layOut_116 (by decide) ?_
        exact gw_go [2, 3, 4, 5, 0] (hj117 _ _ _ _ hf1) rfl
      · replace hf1 := mx_f hc hf1
        refine gw_iload_n C 5 d_Dealings_layOut_102 rfl rfl ?_
        refine gw_aload_n C 3 d_Dealings_layOut_103 rfl rfl ?_
        refine gw_getAN C 6 d_Dealings_layOut_104 k_o1_0 (by decide) i_State rfl rfl (by decide) qw_249 rfl rfl (o1 + 27) rfl ?_
        refine gw_iload C 1 d_Dealings_layOut_107 rfl ?_
        obtain ⟨q109, hq109, hf1⟩ := mx_bd hf1
        refine gw_callI C (c_Row_at _ hg k_o1_27 hq109) d_Dealings_layOut_109 1 qw_927 qw_489 qw_490 qw_4 qw_491 k_o1_27 (by decide) rfl hd_Row_at rfl rfl (Nat.le_of_ble_eq_true rfl) ⟨rfl, rfl, Nat.le_of_ble_eq_true rfl, Nat.le_of_ble_eq_true rfl⟩ ⟨Nat.zero_le _, Nat.zero_le _⟩ ?_
        refine gw_iand C d_Dealings_layOut_112 ?_
        refine gw_goto C 117 d_Dealings_layOut_113 (by decide) ?_
        exact gw_go [2, 3, 4, 5, 0] (hj117 _ _ _ _ hf1) rfl
    have hf1 := hb52
    unfold f_Dealings_layOut_L52 at hf1
    refine gw_iload_n C 3 d_Dealings_layOut_52 rfl rfl ?_
    refine gw_aload_n C 0 d_Dealings_layOut_53 rfl rfl ?_
    refine gw_getI C 2 d_Dealings_layOut_54 k_o_0 (by decide) i_Dealings rfl rfl (by decide) qw_395 rfl rfl ?_
    refine gw_icmp_ge C 190 d_Dealings_layOut_57 (by decide) (fun hc => ?_) (fun hc => ?_)
    · replace hf1 := mx_t hc hf1
      exact gw_go [] (hk52 s52.2 (hx52 _ (hb52.trans hf1.symm)).symm) rfl
    · replace hf1 := mx_f hc hf1
      refine gw_iload_n C 3 d_Dealings_layOut_60 rfl rfl ?_
      obtain ⟨q61, hq61, hf1⟩ := mx_bd hf1
      refine gw_callIS C (c_Int_bitCount _ hg hq61) d_Dealings_layOut_61 1 qw_926 qw_720 qw_23 qw_721 hd_Int_bitCount rfl rfl (Nat.le_of_ble_eq_true rfl) ⟨rfl, rfl, Nat.le_of_ble_eq_true rfl, Nat.le_of_ble_eq_true rfl⟩ ⟨Nat.zero_le _, Nat.zero_le _⟩ ?_
      refine gw_istore C [(4, .int q61), (0, .ref (ly_a L o)), (1, .ref (ly_a L o1)), (2, .int v2), (3, .int s52.1)] d_Dealings_layOut_64 (by decide) rfl ?_
      refine gw_iload_n C 3 d_Dealings_layOut_66 rfl rfl ?_
      refine gw_iconst C ((-1) : Int32) d_Dealings_layOut_67 (by decide) ?_
      refine gw_icmp_eq C 84 d_Dealings_layOut_68 (by decide) (fun hc => ?_) (fun hc => ?_)
      · replace hf1 := mx_t hc hf1
        refine gw_iload C 0 d_Dealings_layOut_84 rfl ?_
        refine gw_iconst C (1 : Int32) d_Dealings_layOut_86 (by decide) ?_
        refine gw_isub C d_Dealings_layOut_87 ?_
        exact gw_go [1, 2, 3, 4, 0] (hj88 _ _ _ _ hf1) rfl
      · replace hf1 := mx_f hc hf1
        refine gw_iload C 0 d_Dealings_layOut_71 rfl ?_
        refine gw_iconst C (1 : Int32) d_Dealings_layOut_73 (by decide) ?_
        refine gw_isub C d_Dealings_layOut_74 ?_
        refine gw_iload_n C 3 d_Dealings_layOut_75 rfl rfl ?_
        refine gw_icmp_lt C 84 d_Dealings_layOut_76 (by decide) (fun hc => ?_) (fun hc => ?_)
        · replace hf1 := mx_t hc hf1
          refine gw_iload C 0 d_Dealings_layOut_84 rfl ?_
          refine gw_iconst C (1 : Int32) d_Dealings_layOut_86 (by decide) ?_
          refine gw_isub C d_Dealings_layOut_87 ?_
          exact gw_go [1, 2, 3, 4, 0] (hj88 _ _ _ _ hf1) rfl
        · replace hf1 := mx_f hc hf1
          refine gw_iload C 0 d_Dealings_layOut_79 rfl ?_
          refine gw_goto C 88 d_Dealings_layOut_81 (by decide) ?_
          exact gw_go [1, 2, 3, 4, 0] (hj88 _ _ _ _ hf1) rfl
  refine gw_aload_n C 0 d_Dealings_layOut_0 rfl rfl ?_
  refine gw_aload_n C 1 d_Dealings_layOut_1 rfl rfl ?_
  refine gw_getAN C 0 d_Dealings_layOut_2 k_o1_0 (by decide) i_State rfl rfl (by decide) qw_235 rfl rfl (o1 + 1) rfl ?_
  refine gw_getAN C 1 d_Dealings_layOut_5 k_o1_1 (by decide) i_Island rfl rfl (by decide) qw_131 rfl rfl (o1 + 4) rfl ?_
  refine gw_getIN C 1 d_Dealings_layOut_8 k_o1_4 (by decide) i_Names rfl rfl (by decide) qw_110 rfl rfl ?_
  refine gw_iload_n C 2 d_Dealings_layOut_11 rfl rfl ?_
  refine gw_iconst C ((-1) : Int32) d_Dealings_layOut_12 (by decide) ?_
  refine gw_icmp_ne C 20 d_Dealings_layOut_13 (by decide) (fun hc => ?_) (fun hc => ?_)
  · replace hf0 := mx_f hc hf0
    refine gw_iconst C (1 : Int32) d_Dealings_layOut_20 (by decide) ?_
    exact gw_go [0, 1, 2] (hj21 _ _ _ _ hf0) rfl
  · replace hf0 := mx_t hc hf0
    refine gw_iconst C (0 : Int32) d_Dealings_layOut_16 (by decide) ?_
    refine gw_goto C 21 d_Dealings_layOut_17 (by decide) ?_
    exact gw_go [0, 1, 2] (hj21 _ _ _ _ hf0) rfl

/-! NameHat.Dealings.waysWithout(I)I -/
abbrev b_Dealings_waysWithout : ByteArray := prog_2_method_3_code
def y_Dealings_waysWithout : MethodName := ⟨"NameHat$Dealings", "waysWithout", "(I)I"⟩
abbrev rm_Dealings_waysWithout : Room := { frames := 1, cells := 0, slots := 0, locals := 21 }
theorem hd_Dealings_waysWithout : y_Dealings_waysWithout.cls ≠ "java/lang/invoke/MethodHandle" ∧ y_Dealings_waysWithout.cls ≠ "java/lang/invoke/VarHandle" ∧ (parseMethodDescriptor y_Dealings_waysWithout.desc).map (fun d => d.parameters.length) = some 1 := by decide +kernel
theorem d_Dealings_waysWithout_0 : decode b_Dealings_waysWithout 0 = .ok (.iconst 0, 1) := by decide +kernel
theorem d_Dealings_waysWithout_1 : decode b_Dealings_waysWithout 1 = .ok (.istore_n 2, 1) := by decide +kernel
theorem d_Dealings_waysWithout_2 : decode b_Dealings_waysWithout 2 = .ok (.iconst 0, 1) := by decide +kernel
theorem d_Dealings_waysWithout_3 : decode b_Dealings_waysWithout 3 = .ok (.istore_n 3, 1) := by decide +kernel
theorem d_Dealings_waysWithout_4 : decode b_Dealings_waysWithout 4 = .ok (.iload_n 3, 1) := by decide +kernel
theorem d_Dealings_waysWithout_5 : decode b_Dealings_waysWithout 5 = .ok (.aload_n 0, 1) := by decide +kernel
theorem d_Dealings_waysWithout_6 : decode b_Dealings_waysWithout 6 = .ok (.getfield 44, 3) := by decide +kernel
theorem d_Dealings_waysWithout_9 : decode b_Dealings_waysWithout 9 = .ok (.if_icmp .ge 37, 3) := by decide +kernel
theorem d_Dealings_waysWithout_12 : decode b_Dealings_waysWithout 12 = .ok (.iload_n 3, 1) := by decide +kernel
theorem d_Dealings_waysWithout_13 : decode b_Dealings_waysWithout 13 = .ok (.invokestatic 51, 3) := by decide +kernel
theorem d_Dealings_waysWithout_16 : decode b_Dealings_waysWithout 16 = .ok (.aload_n 0, 1) := by decide +kernel
theorem d_Dealings_waysWithout_17 : decode b_Dealings_waysWithout 17 = .ok (.getfield 38, 3) := by decide +kernel
theorem d_Dealings_waysWithout_20 : decode b_Dealings_waysWithout 20 = .ok (.if_icmp .ne 20, 3) := by decide +kernel
theorem d_Dealings_waysWithout_23 : decode b_Dealings_waysWithout 23 = .ok (.iload_n 3, 1) := by decide +kernel
theorem d_Dealings_waysWithout_24 : decode b_Dealings_waysWithout 24 = .ok (.iload_n 1, 1) := by decide +kernel
theorem d_Dealings_waysWithout_25 : decode b_Dealings_waysWithout 25 = .ok (.iand, 1) := by decide +kernel
theorem d_Dealings_waysWithout_26 : decode b_Dealings_waysWithout 26 = .ok (.ifCond .ne 14, 3) := by decide +kernel
theorem d_Dealings_waysWithout_29 : decode b_Dealings_waysWithout 29 = .ok (.iload_n 2, 1) := by decide +kernel
theorem d_Dealings_waysWithout_30 : decode b_Dealings_waysWithout 30 = .ok (.aload_n 0, 1) := by decide +kernel
theorem d_Dealings_waysWithout_31 : decode b_Dealings_waysWithout 31 = .ok (.getfield 14, 3) := by decide +kernel
theorem d_Dealings_waysWithout_34 : decode b_Dealings_waysWithout 34 = .ok (.iload_n 3, 1) := by decide +kernel
theorem d_Dealings_waysWithout_35 : decode b_Dealings_waysWithout 35 = .ok (.invokevirtual 60, 3) := by decide +kernel
theorem d_Dealings_waysWithout_38 : decode b_Dealings_waysWithout 38 = .ok (.iadd, 1) := by decide +kernel
theorem d_Dealings_waysWithout_39 : decode b_Dealings_waysWithout 39 = .ok (.istore_n 2, 1) := by decide +kernel
theorem d_Dealings_waysWithout_40 : decode b_Dealings_waysWithout 40 = .ok (.iinc 3 1, 3) := by decide +kernel
theorem d_Dealings_waysWithout_43 : decode b_Dealings_waysWithout 43 = .ok (.goto (-39), 3) := by decide +kernel
theorem d_Dealings_waysWithout_46 : decode b_Dealings_waysWithout 46 = .ok (.iload_n 2, 1) := by decide +kernel
theorem d_Dealings_waysWithout_47 : decode b_Dealings_waysWithout 47 = .ok (.ireturn, 1) := by decide +kernel
noncomputable def f_Dealings_waysWithout_L4 (z : Nat → Nat) (σ : Mm) (o : Nat) (v1 : Int32) (s4 : Int32 × Int32) : Option ((Int32 × Int32) ⊕ (Int32)) :=
  if (σ.1 o 2) ≤ s4.2 then (
    some (.inr s4.1)
  ) else (
    (f_Int_bitCount z σ s4.2).bind fun q13 =>
    if q13 = (σ.1 o 1) then (
      if (s4.2 &&& v1) = 0 then (
        (f_Row_at z σ (o + 1) s4.2).bind fun q35 =>
        mm_lt ((s4.1 + q35)) fun x39 =>
        mm_lt (s4.2 + (1 : Int32)) fun x40 =>
        some (.inl (x39, x40))
      ) else (
        mm_lt (s4.2 + (1 : Int32)) fun x40 =>
        some (.inl (s4.1, x40))
      )
    ) else (
      mm_lt (s4.2 + (1 : Int32)) fun x40 =>
      some (.inl (s4.1, x40))
    )
  )
noncomputable def f_Dealings_waysWithout (z : Nat → Nat) (σ : Mm) (o : Nat) (p1 : Int32) : Option (Int32) :=
  (mm_lp (f_Dealings_waysWithout_L4 z σ o p1) ((0 : Int32), (0 : Int32))).bind (fun q4 =>
    some q4)
set_option maxHeartbeats 4000000 in
set_option maxRecDepth 100000 in
theorem c_Dealings_waysWithout (l : Launch) {L : Ly} (hg : gd_ok L) {σ : Mm} {o : Nat} {p1 : Int32} (k_o_0 : ly_k L o = 7) {res : Int32} (hf0 : f_Dealings_waysWithout (ly_z L) σ o p1 = some res) : CtI l y_Dealings_waysWithout b_Dealings_waysWithout 4 (some .int) rm_Dealings_waysWithout L [.ref (ly_a L o), .int p1] σ res σ := by
  refine ct_i hg (by decide) (Nat.le_of_ble_eq_true rfl) ?_
  intro E A Q hE C hN
  subst hE
  have k_o_1 : ly_k L (o + 1) = 0 := gd_Dealings_ways hg k_o_0
  unfold f_Dealings_waysWithout at hf0
  show GW E L A 4 0 0 Q σ 0 [(0, .ref (ly_a L o)), (1, .int p1)] []
  refine gw_iconst C (0 : Int32) d_Dealings_waysWithout_0 (by decide) ?_
  refine gw_istore_n C [(2, .int (0 : Int32)), (0, .ref (ly_a L o)), (1, .int p1)] d_Dealings_waysWithout_1 rfl (by decide) rfl ?_
  refine gw_iconst C (0 : Int32) d_Dealings_waysWithout_2 (by decide) ?_
  refine gw_istore_n C [(3, .int (0 : Int32)), (2, .int (0 : Int32)), (0, .ref (ly_a L o)), (1, .int p1)] d_Dealings_waysWithout_3 rfl (by decide) rfl ?_
  obtain ⟨q4, hq4, hf0⟩ := mx_bd hf0
  have hk4 : ∀ x9, q4 = x9 → GW E L A 4 0 0 Q σ 46 [(2, .int x9)] [] := by
    intro x9 hx9
    subst hx9
    refine gw_iload_n C 0 d_Dealings_waysWithout_46 rfl rfl ?_
    exact en_ip hN hf0 d_Dealings_waysWithout_47
  refine gw_sub [2, 3, 1, 0] (lv' := [(0, .ref (ly_a L o)), (1, .int p1), (2, .int (0 : Int32)), (3, .int (0 : Int32))]) rfl ?_
  refine mm_rule hq4 (P := fun (s4 : Int32 × Int32) => GW E L A 4 0 0 Q σ 4 [(0, .ref (ly_a L o)), (1, .int p1), (2, .int s4.1), (3, .int s4.2)] []) ?_
  intro s4 ih4 hx4 ⟨w4, hb4⟩
  have hf1 := hb4
  unfold f_Dealings_waysWithout_L4 at hf1
  refine gw_iload_n C 3 d_Dealings_waysWithout_4 rfl rfl ?_
  refine gw_aload_n C 0 d_Dealings_waysWithout_5 rfl rfl ?_
  refine gw_getI C 2 d_Dealings_waysWithout_6 k_o_0 (by decide) i_Dealings rfl rfl (by decide) qw_395 rfl rfl ?_
  refine gw_icmp_ge C 46 d_Dealings_waysWithout_9 (by decide) (fun hc => ?_) (fun hc => ?_)
  · replace hf1 := mx_t hc hf1
    exact gw_go [2] (hk4 s4.1 (hx4 _ (hb4.trans hf1.symm)).symm) rfl
  · replace hf1 := mx_f hc hf1
    refine gw_iload_n C 3 d_Dealings_waysWithout_12 rfl rfl ?_
    obtain ⟨q13, hq13, hf1⟩ := mx_bd hf1
    refine gw_callIS C (c_Int_bitCount _ hg hq13) d_Dealings_waysWithout_13 1 qw_926 qw_720 qw_23 qw_721 hd_Int_bitCount rfl rfl (Nat.le_of_ble_eq_true rfl) ⟨rfl, rfl, Nat.le_of_ble_eq_true rfl, Nat.le_of_ble_eq_true rfl⟩ ⟨Nat.zero_le _, Nat.zero_le _⟩ ?_
    refine gw_aload_n C 0 d_Dealings_waysWithout_16 rfl rfl ?_
    refine gw_getI C 1 d_Dealings_waysWithout_17 k_o_0 (by decide) i_Dealings rfl rfl (by decide) qw_394 rfl rfl ?_
    refine gw_icmp_ne C 40 d_Dealings_waysWithout_20 (by decide) (fun hc => ?_) (fun hc => ?_)
    · replace hf1 := mx_f hc hf1
      obtain ⟨x40, ex40, hf1⟩ := mx_lt hf1
      refine gw_iinc C 3 [(3, .int x40), (0, .ref (ly_a L o)), (1, .int p1), (2, .int s4.1)] d_Dealings_waysWithout_40 rfl (by rw [ex40]; rfl) (by decide) rfl ?_
      refine gw_goto C 4 d_Dealings_waysWithout_43 (by decide) ?_
      exact gw_go [1, 2, 3, 0] (ih4 (s4.1, x40) (hb4.trans hf1.symm)) rfl
    · replace hf1 := mx_t hc hf1
      refine gw_iload_n C 3 d_Dealings_waysWithout_23 rfl rfl ?_
      refine gw_iload_n C 1 d_Dealings_waysWithout_24 rfl rfl ?_
      refine gw_iand C d_Dealings_waysWithout_25 ?_
      refine gw_if_ne C 40 d_Dealings_waysWithout_26 (by decide) (fun hc => ?_) (fun hc => ?_)
      · replace hf1 := mx_f hc hf1
        obtain ⟨x40, ex40, hf1⟩ := mx_lt hf1
        refine gw_iinc C 3 [(3, .int x40), (0, .ref (ly_a L o)), (1, .int p1), (2, .int s4.1)] d_Dealings_waysWithout_40 rfl (by rw [ex40]; rfl) (by decide) rfl ?_
        refine gw_goto C 4 d_Dealings_waysWithout_43 (by decide) ?_
        exact gw_go [1, 2, 3, 0] (ih4 (s4.1, x40) (hb4.trans hf1.symm)) rfl
      · replace hf1 := mx_t hc hf1
        refine gw_iload_n C 2 d_Dealings_waysWithout_29 rfl rfl ?_
        refine gw_aload_n C 0 d_Dealings_waysWithout_30 rfl rfl ?_
        refine gw_getA C 0 d_Dealings_waysWithout_31 k_o_0 (by decide) i_Dealings rfl rfl (by decide) qw_393 rfl rfl (o + 1) rfl ?_
        refine gw_iload_n C 3 d_Dealings_waysWithout_34 rfl rfl ?_
        obtain ⟨q35, hq35, hf1⟩ := mx_bd hf1
        refine gw_callI C (c_Row_at _ hg k_o_1 hq35) d_Dealings_waysWithout_35 1 qw_927 qw_489 qw_490 qw_4 qw_491 k_o_1 (by decide) rfl hd_Row_at rfl rfl (Nat.le_of_ble_eq_true rfl) ⟨rfl, rfl, Nat.le_of_ble_eq_true rfl, Nat.le_of_ble_eq_true rfl⟩ ⟨Nat.zero_le _, Nat.zero_le _⟩ ?_
        refine gw_iadd C d_Dealings_waysWithout_38 ?_
        obtain ⟨x39, ex39, hf1⟩ := mx_lt hf1
        refine gw_topi ex39 ?_
        refine gw_istore_n C [(2, .int x39), (0, .ref (ly_a L o)), (1, .int p1), (3, .int s4.2)] d_Dealings_waysWithout_39 rfl (by decide) rfl ?_
        obtain ⟨x40, ex40, hf1⟩ := mx_lt hf1
        refine gw_iinc C 3 [(3, .int x40), (2, .int x39), (0, .ref (ly_a L o)), (1, .int p1)] d_Dealings_waysWithout_40 rfl (by rw [ex40]; rfl) (by decide) rfl ?_
        refine gw_goto C 4 d_Dealings_waysWithout_43 (by decide) ?_
        exact gw_go [2, 3, 1, 0] (ih4 (x39, x40) (hb4.trans hf1.symm)) rfl

/-! NameHat.dealings()I -/
abbrev b_Hat_dealings : ByteArray := prog_1_method_34_code
def y_Hat_dealings : MethodName := ⟨"NameHat", "dealings", "()I"⟩
abbrev rm_Hat_dealings : Room := { frames := 2, cells := 0, slots := 0, locals := 50 }
theorem hd_Hat_dealings : y_Hat_dealings.cls ≠ "java/lang/invoke/MethodHandle" ∧ y_Hat_dealings.cls ≠ "java/lang/invoke/VarHandle" ∧ (parseMethodDescriptor y_Hat_dealings.desc).map (fun d => d.parameters.length) = some 0 := by decide +kernel
theorem d_Hat_dealings_0 : decode b_Hat_dealings 0 = .ok (.aload_n 0, 1) := by decide +kernel
theorem d_Hat_dealings_1 : decode b_Hat_dealings 1 = .ok (.getfield 69, 3) := by decide +kernel
theorem d_Hat_dealings_4 : decode b_Hat_dealings 4 = .ok (.aload_n 0, 1) := by decide +kernel
theorem d_Hat_dealings_5 : decode b_Hat_dealings 5 = .ok (.getfield 57, 3) := by decide +kernel
theorem d_Hat_dealings_8 : decode b_Hat_dealings 8 = .ok (.iconst (-1), 1) := by decide +kernel
theorem d_Hat_dealings_9 : decode b_Hat_dealings 9 = .ok (.invokevirtual 289, 3) := by decide +kernel
theorem d_Hat_dealings_12 : decode b_Hat_dealings 12 = .ok (.aload_n 0, 1) := by decide +kernel
theorem d_Hat_dealings_13 : decode b_Hat_dealings 13 = .ok (.getfield 69, 3) := by decide +kernel
theorem d_Hat_dealings_16 : decode b_Hat_dealings 16 = .ok (.iconst 0, 1) := by decide +kernel
theorem d_Hat_dealings_17 : decode b_Hat_dealings 17 = .ok (.invokevirtual 293, 3) := by decide +kernel
theorem d_Hat_dealings_20 : decode b_Hat_dealings 20 = .ok (.ireturn, 1) := by decide +kernel
noncomputable def f_Hat_dealings (z : Nat → Nat) (σ : Mm) (o : Nat) : Option (Int32 × Mm) :=
  (f_Dealings_layOut z σ (o + 165) (o + 60) ((-1) : Int32)).bind fun q9 =>
  (f_Dealings_waysWithout z q9 (o + 165) (0 : Int32)).bind fun q17 =>
  some (q17, q9)
set_option maxHeartbeats 4000000 in
set_option maxRecDepth 100000 in
theorem c_Hat_dealings (l : Launch) {L : Ly} (hg : gd_ok L) {σ : Mm} {o : Nat} (k_o_0 : ly_k L o = 10) {res : Int32 × Mm} (hf0 : f_Hat_dealings (ly_z L) σ o = some res) : CtI l y_Hat_dealings b_Hat_dealings 1 (some .int) rm_Hat_dealings L [.ref (ly_a L o)] σ res.1 res.2 := by
  refine ct_i hg (by decide) (Nat.le_of_ble_eq_true rfl) ?_
  intro E A Q hE C hN
  subst hE
  have k_o_165 : ly_k L (o + 165) = 7 := gd_Hat_deals hg k_o_0
  have k_o_60 : ly_k L (o + 60) = 4 := gd_Hat_now hg k_o_0
  unfold f_Hat_dealings at hf0
  show GW E L A 1 0 0 Q σ 0 [(0, .ref (ly_a L o))] []
  refine gw_aload_n C 0 d_Hat_dealings_0 rfl rfl ?_
  refine gw_getA C 14 d_Hat_dealings_1 k_o_0 (by decide) i_Hat rfl rfl (by decide) qw_417 rfl rfl (o + 165) rfl ?_
  refine gw_aload_n C 0 d_Hat_dealings_4 rfl rfl ?_
  refine gw_getA C 7 d_Hat_dealings_5 k_o_0 (by decide) i_Hat rfl rfl (by decide) qw_410 rfl rfl (o + 60) rfl ?_
  refine gw_iconst C ((-1) : Int32) d_Hat_dealings_8 (by decide) ?_
  obtain ⟨q9, hq9, hf0⟩ := mx_bd hf0
  refine gw_callV C (c_Dealings_layOut _ hg k_o_165 k_o_60 hq9) d_Hat_dealings_9 2 qw_921 qw_922 qw_923 qw_11 qw_924 k_o_165 (by decide) rfl hd_Dealings_layOut rfl rfl (Nat.le_of_ble_eq_true rfl) ⟨rfl, rfl, Nat.le_of_ble_eq_true rfl, Nat.le_of_ble_eq_true rfl⟩ ⟨Nat.zero_le _, Nat.zero_le _⟩ ?_
  refine gw_aload_n C 0 d_Hat_dealings_12 rfl rfl ?_
  refine gw_getA C 14 d_Hat_dealings_13 k_o_0 (by decide) i_Hat rfl rfl (by decide) qw_417 rfl rfl (o + 165) rfl ?_
  refine gw_iconst C (0 : Int32) d_Hat_dealings_16 (by decide) ?_
  obtain ⟨q17, hq17, hf0⟩ := mx_bd hf0
  refine gw_callI C (c_Dealings_waysWithout _ hg k_o_165 hq17) d_Hat_dealings_17 1 qw_928 qw_929 qw_930 qw_11 qw_931 k_o_165 (by decide) rfl hd_Dealings_waysWithout rfl rfl (Nat.le_of_ble_eq_true rfl) ⟨rfl, rfl, Nat.le_of_ble_eq_true rfl, Nat.le_of_ble_eq_true rfl⟩ ⟨Nat.zero_le _, Nat.zero_le _⟩ ?_
  exact en_i hN hf0 d_Hat_dealings_20

/-! NameHat.waysToHave(II)I -/
abbrev b_Hat_waysToHave : ByteArray := prog_1_method_37_code
def y_Hat_waysToHave : MethodName := ⟨"NameHat", "waysToHave", "(II)I"⟩
abbrev rm_Hat_waysToHave : Room := { frames := 2, cells := 0, slots := 0, locals := 44 }
theorem hd_Hat_waysToHave : y_Hat_waysToHave.cls ≠ "java/lang/invoke/MethodHandle" ∧ y_Hat_waysToHave.cls ≠ "java/lang/invoke/VarHandle" ∧ (parseMethodDescriptor y_Hat_waysToHave.desc).map (fun d => d.parameters.length) = some 2 := by decide +kernel
theorem d_Hat_waysToHave_0 : decode b_Hat_waysToHave 0 = .ok (.aload_n 0, 1) := by decide +kernel
theorem d_Hat_waysToHave_1 : decode b_Hat_waysToHave 1 = .ok (.getfield 57, 3) := by decide +kernel
theorem d_Hat_waysToHave_4 : decode b_Hat_waysToHave 4 = .ok (.getfield 299, 3) := by decide +kernel
theorem d_Hat_waysToHave_7 : decode b_Hat_waysToHave 7 = .ok (.iload_n 1, 1) := by decide +kernel
theorem d_Hat_waysToHave_8 : decode b_Hat_waysToHave 8 = .ok (.invokevirtual 147, 3) := by decide +kernel
theorem d_Hat_waysToHave_11 : decode b_Hat_waysToHave 11 = .ok (.iload_n 2, 1) := by decide +kernel
theorem d_Hat_waysToHave_12 : decode b_Hat_waysToHave 12 = .ok (.ishr, 1) := by decide +kernel
theorem d_Hat_waysToHave_13 : decode b_Hat_waysToHave 13 = .ok (.iconst 1, 1) := by decide +kernel
theorem d_Hat_waysToHave_14 : decode b_Hat_waysToHave 14 = .ok (.iand, 1) := by decide +kernel
theorem d_Hat_waysToHave_15 : decode b_Hat_waysToHave 15 = .ok (.iconst 1, 1) := by decide +kernel
theorem d_Hat_waysToHave_16 : decode b_Hat_waysToHave 16 = .ok (.if_icmp .ne 16, 3) := by decide +kernel
theorem d_Hat_waysToHave_19 : decode b_Hat_waysToHave 19 = .ok (.aload_n 0, 1) := by decide +kernel
theorem d_Hat_waysToHave_20 : decode b_Hat_waysToHave 20 = .ok (.getfield 69, 3) := by decide +kernel
theorem d_Hat_waysToHave_23 : decode b_Hat_waysToHave 23 = .ok (.iconst 1, 1) := by decide +kernel
theorem d_Hat_waysToHave_24 : decode b_Hat_waysToHave 24 = .ok (.iload_n 2, 1) := by decide +kernel
theorem d_Hat_waysToHave_25 : decode b_Hat_waysToHave 25 = .ok (.ishl, 1) := by decide +kernel
theorem d_Hat_waysToHave_26 : decode b_Hat_waysToHave 26 = .ok (.invokevirtual 293, 3) := by decide +kernel
theorem d_Hat_waysToHave_29 : decode b_Hat_waysToHave 29 = .ok (.goto 4, 3) := by decide +kernel
theorem d_Hat_waysToHave_32 : decode b_Hat_waysToHave 32 = .ok (.iconst 0, 1) := by decide +kernel
theorem d_Hat_waysToHave_33 : decode b_Hat_waysToHave 33 = .ok (.ireturn, 1) := by decide +kernel
noncomputable def f_Hat_waysToHave (z : Nat → Nat) (σ : Mm) (o : Nat) (p1 : Int32) (p2 : Int32) : Option (Int32) :=
  (f_Row_at z σ (o + 87) p1).bind fun q8 =>
  if ((q8 >>> (p2 &&& 31)) &&& (1 : Int32)) = (1 : Int32) then (
    (f_Dealings_waysWithout z σ (o + 165) ((1 : Int32) <<< (p2 &&& 31))).bind fun q26 =>
    some q26
  ) else (
    some (0 : Int32)
  )
set_option maxHeartbeats 4000000 in
set_option maxRecDepth 100000 in
theorem c_Hat_waysToHave (l : Launch) {L : Ly} (hg : gd_ok L) {σ : Mm} {o : Nat} {p1 : Int32} {p2 : Int32} (k_o_0 : ly_k L o = 10) {res : Int32} (hf0 : f_Hat_waysToHave (ly_z L) σ o p1 p2 = some res) : CtI l y_Hat_waysToHave b_Hat_waysToHave 3 (some .int) rm_Hat_waysToHave L [.ref (ly_a L o), .int p1, .int p2] σ res σ := by
  refine ct_i hg (by decide) (Nat.le_of_ble_eq_true rfl) ?_
  intro E A Q hE C hN
  subst hE
  have k_o_60 : ly_k L (o + 60) = 4 := gd_Hat_now hg k_o_0
  have k_o_87 : ly_k L (o + 87) = 0 := gd_State_fits hg k_o_60
  have k_o_165 : ly_k L (o + 165) = 7 := gd_Hat_deals hg k_o_0
  unfold f_Hat_waysToHave at hf0
  show GW E L A 3 0 0 Q σ 0 [(0, .ref (ly_a L o)), (1, .int p1), (2, .int p2)] []
  refine gw_aload_n C 0 d_Hat_waysToHave_0 rfl rfl ?_
  refine gw_getA C 7 d_Hat_waysToHave_1 k_o_0 (by decide) i_Hat rfl rfl (by decide) qw_410 rfl rfl (o + 60) rfl ?_
  refine gw_getAN C 6 d_Hat_waysToHave_4 k_o_60 (by decide) i_State rfl rfl (by decide) qw_251 rfl rfl (o + 87) rfl ?_
  refine gw_iload_n C 1 d_Hat_waysToHave_7 rfl rfl ?_
  obtain ⟨q8, hq8, hf0⟩ := mx_bd hf0
  refine gw_callI C (c_Row_at _ hg k_o_87 hq8) d_Hat_waysToHave_8 1 qw_755 qw_489 qw_490 qw_4 qw_491 k_o_87 (by decide) rfl hd_Row_at rfl rfl (Nat.le_of_ble_eq_true rfl) ⟨rfl, rfl, Nat.le_of_ble_eq_true rfl, Nat.le_of_ble_eq_true rfl⟩ ⟨Nat.zero_le _, Nat.zero_le _⟩ ?_
  refine gw_iload_n C 2 d_Hat_waysToHave_11 rfl rfl ?_
  refine gw_ishr C d_Hat_waysToHave_12 ?_
  refine gw_iconst C (1 : Int32) d_Hat_waysToHave_13 (by decide) ?_
  refine gw_iand C d_Hat_waysToHave_14 ?_
  refine gw_iconst C (1 : Int32) d_Hat_waysToHave_15 (by decide) ?_
  refine gw_icmp_ne C 32 d_Hat_waysToHave_16 (by decide) (fun hc => ?_) (fun hc => ?_)
  · replace hf0 := mx_f hc hf0
    refine gw_iconst C (0 : Int32) d_Hat_waysToHave_32 (by decide) ?_
    exact en_ip hN hf0 d_Hat_waysToHave_33
  · replace hf0 := mx_t hc hf0
    refine gw_aload_n C 0 d_Hat_waysToHave_19 rfl rfl ?_
    refine gw_getA C 14 d_Hat_waysToHave_20 k_o_0 (by decide) i_Hat rfl rfl (by decide) qw_417 rfl rfl (o + 165) rfl ?_
    refine gw_iconst C (1 : Int32) d_Hat_waysToHave_23 (by decide) ?_
    refine gw_iload_n C 2 d_Hat_waysToHave_24 rfl rfl ?_
    refine gw_ishl C d_Hat_waysToHave_25 ?_
    obtain ⟨q26, hq26, hf0⟩ := mx_bd hf0
    refine gw_callI C (c_Dealings_waysWithout _ hg k_o_165 hq26) d_Hat_waysToHave_26 1 qw_928 qw_929 qw_930 qw_11 qw_931 k_o_165 (by decide) rfl hd_Dealings_waysWithout rfl rfl (Nat.le_of_ble_eq_true rfl) ⟨rfl, rfl, Nat.le_of_ble_eq_true rfl, Nat.le_of_ble_eq_true rfl⟩ ⟨Nat.zero_le _, Nat.zero_le _⟩ ?_
    refine gw_goto C 33 d_Hat_waysToHave_29 (by decide) ?_
    exact en_ip hN hf0 d_Hat_waysToHave_33

/-! NameHat.dealt(II)I -/
abbrev b_Hat_dealt : ByteArray := prog_1_method_35_code
def y_Hat_dealt : MethodName := ⟨"NameHat", "dealt", "(II)I"⟩
abbrev rm_Hat_dealt : Room := { frames := 3, cells := 0, slots := 0, locals := 66 }
theorem hd_Hat_dealt : y_Hat_dealt.cls ≠ "java/lang/invoke/MethodHandle" ∧ y_Hat_dealt.cls ≠ "java/lang/invoke/VarHandle" ∧ (parseMethodDescriptor y_Hat_dealt.desc).map (fun d => d.parameters.length) = some 2 := by decide +kernel
theorem d_Hat_dealt_0 : decode b_Hat_dealt 0 = .ok (.aload_n 0, 1) := by decide +kernel
theorem d_Hat_dealt_1 : decode b_Hat_dealt 1 = .ok (.getfield 57, 3) := by decide +kernel
theorem d_Hat_dealt_4 : decode b_Hat_dealt 4 = .ok (.getfield 121, 3) := by decide +kernel
theorem d_Hat_dealt_7 : decode b_Hat_dealt 7 = .ok (.getfield 166, 3) := by decide +kernel
theorem d_Hat_dealt_10 : decode b_Hat_dealt 10 = .ok (.iload_n 1, 1) := by decide +kernel
theorem d_Hat_dealt_11 : decode b_Hat_dealt 11 = .ok (.invokevirtual 131, 3) := by decide +kernel
theorem d_Hat_dealt_14 : decode b_Hat_dealt 14 = .ok (.ifCond .eq 20, 3) := by decide +kernel
theorem d_Hat_dealt_17 : decode b_Hat_dealt 17 = .ok (.aload_n 0, 1) := by decide +kernel
theorem d_Hat_dealt_18 : decode b_Hat_dealt 18 = .ok (.getfield 57, 3) := by decide +kernel
theorem d_Hat_dealt_21 : decode b_Hat_dealt 21 = .ok (.getfield 121, 3) := by decide +kernel
theorem d_Hat_dealt_24 : decode b_Hat_dealt 24 = .ok (.getfield 125, 3) := by decide +kernel
theorem d_Hat_dealt_27 : decode b_Hat_dealt 27 = .ok (.iload_n 2, 1) := by decide +kernel
theorem d_Hat_dealt_28 : decode b_Hat_dealt 28 = .ok (.invokevirtual 131, 3) := by decide +kernel
theorem d_Hat_dealt_31 : decode b_Hat_dealt 31 = .ok (.ifCond .ne 5, 3) := by decide +kernel
theorem d_Hat_dealt_34 : decode b_Hat_dealt 34 = .ok (.iconst (-1), 1) := by decide +kernel
theorem d_Hat_dealt_35 : decode b_Hat_dealt 35 = .ok (.ireturn, 1) := by decide +kernel
theorem d_Hat_dealt_36 : decode b_Hat_dealt 36 = .ok (.aload_n 0, 1) := by decide +kernel
theorem d_Hat_dealt_37 : decode b_Hat_dealt 37 = .ok (.getfield 69, 3) := by decide +kernel
theorem d_Hat_dealt_40 : decode b_Hat_dealt 40 = .ok (.aload_n 0, 1) := by decide +kernel
theorem d_Hat_dealt_41 : decode b_Hat_dealt 41 = .ok (.getfield 57, 3) := by decide +kernel
theorem d_Hat_dealt_44 : decode b_Hat_dealt 44 = .ok (.iload_n 1, 1) := by decide +kernel
theorem d_Hat_dealt_45 : decode b_Hat_dealt 45 = .ok (.invokevirtual 289, 3) := by decide +kernel
theorem d_Hat_dealt_48 : decode b_Hat_dealt 48 = .ok (.aload_n 0, 1) := by decide +kernel
theorem d_Hat_dealt_49 : decode b_Hat_dealt 49 = .ok (.iload_n 1, 1) := by decide +kernel
theorem d_Hat_dealt_50 : decode b_Hat_dealt 50 = .ok (.iload_n 2, 1) := by decide +kernel
theorem d_Hat_dealt_51 : decode b_Hat_dealt 51 = .ok (.invokevirtual 296, 3) := by decide +kernel
theorem d_Hat_dealt_54 : decode b_Hat_dealt 54 = .ok (.ireturn, 1) := by decide +kernel
noncomputable def f_Hat_dealt (z : Nat → Nat) (σ : Mm) (o : Nat) (p1 : Int32) (p2 : Int32) : Option (Int32 × Mm) :=
  (f_Names_has z σ (o + 64) p1).bind fun q11 =>
  if q11 = 0 then (
    some (((-1) : Int32), σ)
  ) else (
    (f_Names_has z σ (o + 62) p2).bind fun q28 =>
    if q28 = 0 then (
      some (((-1) : Int32), σ)
    ) else (
      (f_Dealings_layOut z σ (o + 165) (o + 60) p1).bind fun q45 =>
      (f_Hat_waysToHave z q45 o p1 p2).bind fun q51 =>
      some (q51, q45)
    )
  )
set_option maxHeartbeats 4000000 in
set_option maxRecDepth 100000 in
theorem c_Hat_dealt (l : Launch) {L : Ly} (hg : gd_ok L) {σ : Mm} {o : Nat} {p1 : Int32} {p2 : Int32} (k_o_0 : ly_k L o = 10) {res : Int32 × Mm} (hf0 : f_Hat_dealt (ly_z L) σ o p1 p2 = some res) : CtI l y_Hat_dealt b_Hat_dealt 3 (some .int) rm_Hat_dealt L [.ref (ly_a L o), .int p1, .int p2] σ res.1 res.2 := by
  refine ct_i hg (by decide) (Nat.le_of_ble_eq_true rfl) ?_
  intro E A Q hE C hN
  subst hE
  have k_o_60 : ly_k L (o + 60) = 4 := gd_Hat_now hg k_o_0
  have k_o_61 : ly_k L (o + 61) = 2 := gd_State_island hg k_o_60
  have k_o_64 : ly_k L (o + 64) = 1 := gd_Island_houses hg k_o_61
  have k_o_62 : ly_k L (o + 62) = 1 := gd_Island_surnames hg k_o_61
  have k_o_165 : ly_k L (o + 165) = 7 := gd_Hat_deals hg k_o_0
  unfold f_Hat_dealt at hf0
  show GW E L A 3 0 0 Q σ 0 [(0, .ref (ly_a L o)), (1, .int p1), (2, .int p2)] []
  refine gw_aload_n C 0 d_Hat_dealt_0 rfl rfl ?_
  refine gw_getA C 7 d_Hat_dealt_1 k_o_0 (by decide) i_Hat rfl rfl (by decide) qw_410 rfl rfl (o + 60) rfl ?_
  refine gw_getAN C 0 d_Hat_dealt_4 k_o_60 (by decide) i_State rfl rfl (by decide) qw_237 rfl rfl (o + 61) rfl ?_
  refine gw_getAN C 1 d_Hat_dealt_7 k_o_61 (by decide) i_Island rfl rfl (by decide) qw_136 rfl rfl (o + 64) rfl ?_
  refine gw_iload_n C 1 d_Hat_dealt_10 rfl rfl ?_
  obtain ⟨q11, hq11, hf0⟩ := mx_bd hf0
  refine gw_callI C (c_Names_has _ hg k_o_64 hq11) d_Hat_dealt_11 1 qw_754 qw_738 qw_739 qw_7 qw_740 k_o_64 (by decide) rfl hd_Names_has rfl rfl (Nat.le_of_ble_eq_true rfl) ⟨rfl, rfl, Nat.le_of_ble_eq_true rfl, Nat.le_of_ble_eq_true rfl⟩ ⟨Nat.zero_le _, Nat.zero_le _⟩ ?_
  refine gw_if_eq C 34 d_Hat_dealt_14 (by decide) (fun hc => ?_) (fun hc => ?_)
  · replace hf0 := mx_t hc hf0
    refine gw_iconst C ((-1) : Int32) d_Hat_dealt_34 (by decide) ?_
    exact en_i hN hf0 d_Hat_dealt_35
  · replace hf0 := mx_f hc hf0
    refine gw_aload_n C 0 d_Hat_dealt_17 rfl rfl ?_
    refine gw_getA C 7 d_Hat_dealt_18 k_o_0 (by decide) i_Hat rfl rfl (by decide) qw_410 rfl rfl (o + 60) rfl ?_
    refine gw_getAN C 0 d_Hat_dealt_21 k_o_60 (by decide) i_State rfl rfl (by decide) qw_237 rfl rfl (o + 61) rfl ?_
    refine gw_getAN C 0 d_Hat_dealt_24 k_o_61 (by decide) i_Island rfl rfl (by decide) qw_128 rfl rfl (o + 62) rfl ?_
    refine gw_iload_n C 2 d_Hat_dealt_27 rfl rfl ?_
    obtain ⟨q28, hq28, hf0⟩ := mx_bd hf0
    refine gw_callI C (c_Names_has _ hg k_o_62 hq28) d_Hat_dealt_28 1 qw_754 qw_738 qw_739 qw_7 qw_740 k_o_62 (by decide) rfl hd_Names_has rfl rfl (Nat.le_of_ble_eq_true rfl) ⟨rfl, rfl, Nat.le_of_ble_eq_true rfl, Nat.le_of_ble_eq_true rfl⟩ ⟨Nat.zero_le _, Nat.zero_le _⟩ ?_
    refine gw_if_ne C 36 d_Hat_dealt_31 (by decide) (fun hc => ?_) (fun hc => ?_)
    · replace hf0 := mx_f hc hf0
      refine gw_aload_n C 0 d_Hat_dealt_36 rfl rfl ?_
      refine gw_getA C 14 d_Hat_dealt_37 k_o_0 (by decide) i_Hat rfl rfl (by decide) qw_417 rfl rfl (o + 165) rfl ?_
      refine gw_aload_n C 0 d_Hat_dealt_40 rfl rfl ?_
      refine gw_getA C 7 d_Hat_dealt_41 k_o_0 (by decide) i_Hat rfl rfl (by decide) qw_410 rfl rfl (o + 60) rfl ?_
      refine gw_iload_n C 1 d_Hat_dealt_44 rfl rfl ?_
      obtain ⟨q45, hq45, hf0⟩ := mx_bd hf0
      refine gw_callV C (c_Dealings_layOut _ hg k_o_165 k_o_60 hq45) d_Hat_dealt_45 2 qw_921 qw_922 qw_923 qw_11 qw_924 k_o_165 (by decide) rfl hd_Dealings_layOut rfl rfl (Nat.le_of_ble_eq_true rfl) ⟨rfl, rfl, Nat.le_of_ble_eq_true rfl, Nat.le_of_ble_eq_true rfl⟩ ⟨Nat.zero_le _, Nat.zero_le _⟩ ?_
      refine gw_aload_n C 0 d_Hat_dealt_48 rfl rfl ?_
      refine gw_iload_n C 1 d_Hat_dealt_49 rfl rfl ?_
      refine gw_iload_n C 2 d_Hat_dealt_50 rfl rfl ?_
      obtain ⟨q51, hq51, hf0⟩ := mx_bd hf0
      refine gw_callI C (c_Hat_waysToHave _ hg k_o_0 hq51) d_Hat_dealt_51 2 qw_936 qw_938 qs_29 qw_1 qw_939 k_o_0 (by decide) rfl hd_Hat_waysToHave rfl rfl (Nat.le_of_ble_eq_true rfl) ⟨rfl, rfl, Nat.le_of_ble_eq_true rfl, Nat.le_of_ble_eq_true rfl⟩ ⟨Nat.zero_le _, Nat.zero_le _⟩ ?_
      exact en_i hN hf0 d_Hat_dealt_54
    · replace hf0 := mx_t hc hf0
      refine gw_iconst C ((-1) : Int32) d_Hat_dealt_34 (by decide) ?_
      exact en_i hN hf0 d_Hat_dealt_35

/-! NameHat.could(I)I -/
abbrev b_Hat_could : ByteArray := prog_1_method_36_code
def y_Hat_could : MethodName := ⟨"NameHat", "could", "(I)I"⟩
abbrev rm_Hat_could : Room := { frames := 3, cells := 0, slots := 0, locals := 66 }
theorem hd_Hat_could : y_Hat_could.cls ≠ "java/lang/invoke/MethodHandle" ∧ y_Hat_could.cls ≠ "java/lang/invoke/VarHandle" ∧ (parseMethodDescriptor y_Hat_could.desc).map (fun d => d.parameters.length) = some 1 := by decide +kernel
theorem d_Hat_could_0 : decode b_Hat_could 0 = .ok (.aload_n 0, 1) := by decide +kernel
theorem d_Hat_could_1 : decode b_Hat_could 1 = .ok (.getfield 57, 3) := by decide +kernel
theorem d_Hat_could_4 : decode b_Hat_could 4 = .ok (.getfield 121, 3) := by decide +kernel
theorem d_Hat_could_7 : decode b_Hat_could 7 = .ok (.getfield 166, 3) := by decide +kernel
theorem d_Hat_could_10 : decode b_Hat_could 10 = .ok (.iload_n 1, 1) := by decide +kernel
theorem d_Hat_could_11 : decode b_Hat_could 11 = .ok (.invokevirtual 131, 3) := by decide +kernel
theorem d_Hat_could_14 : decode b_Hat_could 14 = .ok (.ifCond .ne 5, 3) := by decide +kernel
theorem d_Hat_could_17 : decode b_Hat_could 17 = .ok (.iconst (-1), 1) := by decide +kernel
theorem d_Hat_could_18 : decode b_Hat_could 18 = .ok (.ireturn, 1) := by decide +kernel
theorem d_Hat_could_19 : decode b_Hat_could 19 = .ok (.aload_n 0, 1) := by decide +kernel
theorem d_Hat_could_20 : decode b_Hat_could 20 = .ok (.getfield 69, 3) := by decide +kernel
theorem d_Hat_could_23 : decode b_Hat_could 23 = .ok (.aload_n 0, 1) := by decide +kernel
theorem d_Hat_could_24 : decode b_Hat_could 24 = .ok (.getfield 57, 3) := by decide +kernel
theorem d_Hat_could_27 : decode b_Hat_could 27 = .ok (.iload_n 1, 1) := by decide +kernel
theorem d_Hat_could_28 : decode b_Hat_could 28 = .ok (.invokevirtual 289, 3) := by decide +kernel
theorem d_Hat_could_31 : decode b_Hat_could 31 = .ok (.iconst 0, 1) := by decide +kernel
theorem d_Hat_could_32 : decode b_Hat_could 32 = .ok (.istore_n 2, 1) := by decide +kernel
theorem d_Hat_could_33 : decode b_Hat_could 33 = .ok (.iconst 0, 1) := by decide +kernel
theorem d_Hat_could_34 : decode b_Hat_could 34 = .ok (.istore_n 3, 1) := by decide +kernel
theorem d_Hat_could_35 : decode b_Hat_could 35 = .ok (.iload_n 3, 1) := by decide +kernel
theorem d_Hat_could_36 : decode b_Hat_could 36 = .ok (.aload_n 0, 1) := by decide +kernel
theorem d_Hat_could_37 : decode b_Hat_could 37 = .ok (.getfield 57, 3) := by decide +kernel
theorem d_Hat_could_40 : decode b_Hat_could 40 = .ok (.getfield 121, 3) := by decide +kernel
theorem d_Hat_could_43 : decode b_Hat_could 43 = .ok (.getfield 125, 3) := by decide +kernel
theorem d_Hat_could_46 : decode b_Hat_could 46 = .ok (.getfield 186, 3) := by decide +kernel
theorem d_Hat_could_49 : decode b_Hat_could 49 = .ok (.if_icmp .ge 24, 3) := by decide +kernel
theorem d_Hat_could_52 : decode b_Hat_could 52 = .ok (.aload_n 0, 1) := by decide +kernel
theorem d_Hat_could_53 : decode b_Hat_could 53 = .ok (.iload_n 1, 1) := by decide +kernel
theorem d_Hat_could_54 : decode b_Hat_could 54 = .ok (.iload_n 3, 1) := by decide +kernel
theorem d_Hat_could_55 : decode b_Hat_could 55 = .ok (.invokevirtual 296, 3) := by decide +kernel
theorem d_Hat_could_58 : decode b_Hat_could 58 = .ok (.ifCond .le 9, 3) := by decide +kernel
theorem d_Hat_could_61 : decode b_Hat_could 61 = .ok (.iload_n 2, 1) := by decide +kernel
theorem d_Hat_could_62 : decode b_Hat_could 62 = .ok (.iconst 1, 1) := by decide +kernel
theorem d_Hat_could_63 : decode b_Hat_could 63 = .ok (.iload_n 3, 1) := by decide +kernel
theorem d_Hat_could_64 : decode b_Hat_could 64 = .ok (.ishl, 1) := by decide +kernel
theorem d_Hat_could_65 : decode b_Hat_could 65 = .ok (.ior, 1) := by decide +kernel
theorem d_Hat_could_66 : decode b_Hat_could 66 = .ok (.istore_n 2, 1) := by decide +kernel
theorem d_Hat_could_67 : decode b_Hat_could 67 = .ok (.iinc 3 1, 3) := by decide +kernel
theorem d_Hat_could_70 : decode b_Hat_could 70 = .ok (.goto (-35), 3) := by decide +kernel
theorem d_Hat_could_73 : decode b_Hat_could 73 = .ok (.iload_n 2, 1) := by decide +kernel
theorem d_Hat_could_74 : decode b_Hat_could 74 = .ok (.ireturn, 1) := by decide +kernel
noncomputable def f_Hat_could_L35 (z : Nat → Nat) (σ : Mm) (o : Nat) (v1 : Int32) (s35 : Int32 × Int32) : Option ((Int32 × Int32) ⊕ (Int32)) :=
  if (σ.1 (o + 62) 1) ≤ s35.2 then (
    some (.inr s35.1)
  ) else (
    (f_Hat_waysToHave z σ o v1 s35.2).bind fun q55 =>
    if q55 ≤ 0 then (
      mm_lt (s35.2 + (1 : Int32)) fun x67 =>
      some (.inl (s35.1, x67))
    ) else (
      mm_lt ((s35.1 ||| ((1 : Int32) <<< (s35.2 &&& 31)))) fun x66 =>
      mm_lt (s35.2 + (1 : Int32)) fun x67 =>
      some (.inl (x66, x67))
    )
  )
noncomputable def f_Hat_could (z : Nat → Nat) (σ : Mm) (o : Nat) (p1 : Int32) : Option (Int32 × Mm) :=
  (f_Names_has z σ (o + 64) p1).bind fun q11 =>
  if q11 = 0 then (
    some (((-1) : Int32), σ)
  ) else (
    (f_Dealings_layOut z σ (o + 165) (o + 60) p1).bind fun q28 =>
    (mm_lp (f_Hat_could_L35 z q28 o p1) ((0 : Int32), (0 : Int32))).bind (fun q35 =>
      some (q35, q28))
  )
set_option maxHeartbeats 4000000 in
set_option maxRecDepth 100000 in
theorem c_Hat_could (l : Launch) {L : Ly} (hg : gd_ok L) {σ : Mm} {o : Nat} {p1 : Int32} (k_o_0 : ly_k L o = 10) {res : Int32 × Mm} (hf0 : f_Hat_could (ly_z L) σ o p1 = some res) : CtI l y_Hat_could b_Hat_could 4 (some .int) rm_Hat_could L [.ref (ly_a L o), .int p1] σ res.1 res.2 := by
  refine ct_i hg (by decide) (Nat.le_of_ble_eq_true rfl) ?_
  intro E A Q hE C hN
  subst hE
  have k_o_60 : ly_k L (o + 60) = 4 := gd_Hat_now hg k_o_0
  have k_o_61 : ly_k L (o + 61) = 2 := gd_State_island hg k_o_60
  have k_o_64 : ly_k L (o + 64) = 1 := gd_Island_houses hg k_o_61
  have k_o_165 : ly_k L (o + 165) = 7 := gd_Hat_deals hg k_o_0
  have k_o_62 : ly_k L (o + 62) = 1 := gd_Island_surnames hg k_o_61
  unfold f_Hat_could at hf0
  show GW E L A 4 0 0 Q σ 0 [(0, .ref (ly_a L o)), (1, .int p1)] []
  refine gw_aload_n C 0 d_Hat_could_0 rfl rfl ?_
  refine gw_getA C 7 d_Hat_could_1 k_o_0 (by decide) i_Hat rfl rfl (by decide) qw_410 rfl rfl (o + 60) rfl ?_
  refine gw_getAN C 0 d_Hat_could_4 k_o_60 (by decide) i_State rfl rfl (by decide) qw_237 rfl rfl (o + 61) rfl ?_
  refine gw_getAN C 1 d_Hat_could_7 k_o_61 (by decide) i_Island rfl rfl (by decide) qw_136 rfl rfl (o + 64) rfl ?_
  refine gw_iload_n C 1 d_Hat_could_10 rfl rfl ?_
  obtain ⟨q11, hq11, hf0⟩ := mx_bd hf0
  refine gw_callI C (c_Names_has _ hg k_o_64 hq11) d_Hat_could_11 1 qw_754 qw_738 qw_739 qw_7 qw_740 k_o_64 (by decide) rfl hd_Names_has rfl rfl (Nat.le_of_ble_eq_true rfl) ⟨rfl, rfl, Nat.le_of_ble_eq_true rfl, Nat.le_of_ble_eq_true rfl⟩ ⟨Nat.zero_le _, Nat.zero_le _⟩ ?_
  refine gw_if_ne C 19 d_Hat_could_14 (by decide) (fun hc => ?_) (fun hc => ?_)
  · replace hf0 := mx_f hc hf0
    refine gw_aload_n C 0 d_Hat_could_19 rfl rfl ?_
    refine gw_getA C 14 d_Hat_could_20 k_o_0 (by decide) i_Hat rfl rfl (by decide) qw_417 rfl rfl (o + 165) rfl ?_
    refine gw_aload_n C 0 d_Hat_could_23 rfl rfl ?_
    refine gw_getA C 7 d_Hat_could_24 k_o_0 (by decide) i_Hat rfl rfl (by decide) qw_410 rfl rfl (o + 60) rfl ?_
    refine gw_iload_n C 1 d_Hat_could_27 rfl rfl ?_
    obtain ⟨q28, hq28, hf0⟩ := mx_bd hf0
    refine gw_callV C (c_Dealings_layOut _ hg k_o_165 k_o_60 hq28) d_Hat_could_28 2 qw_921 qw_922 qw_923 qw_11 qw_924 k_o_165 (by decide) rfl hd_Dealings_layOut rfl rfl (Nat.le_of_ble_eq_true rfl) ⟨rfl, rfl, Nat.le_of_ble_eq_true rfl, Nat.le_of_ble_eq_true rfl⟩ ⟨Nat.zero_le _, Nat.zero_le _⟩ ?_
    refine gw_iconst C (0 : Int32) d_Hat_could_31 (by decide) ?_
    refine gw_istore_n C [(2, .int (0 : Int32)), (0, .ref (ly_a L o)), (1, .int p1)] d_Hat_could_32 rfl (by decide) rfl ?_
    refine gw_iconst C (0 : Int32) d_Hat_could_33 (by decide) ?_
    refine gw_istore_n C [(3, .int (0 : Int32)), (2, .int (0 : Int32)), (0, .ref (ly_a L o)), (1, .int p1)] d_Hat_could_34 rfl (by decide) rfl ?_
    obtain ⟨q35, hq35, hf0⟩ := mx_bd hf0
    have hk35 : ∀ x9, q35 = x9 → GW E L A 4 0 0 Q q28 73 [(2, .int x9)] [] := by
      intro x9 hx9
      subst hx9
      refine gw_iload_n C 0 d_Hat_could_73 rfl rfl ?_
      exact en_i hN hf0 d_Hat_could_74
    refine gw_sub [2, 3, 1, 0] (lv' := [(0, .ref (ly_a L o)), (1, .int p1), (2, .int (0 : Int32)), (3, .int (0 : Int32))]) rfl ?_
    refine mm_rule hq35 (P := fun (s35 : Int32 × Int32) => GW E L A 4 0 0 Q q28 35 [(0, .ref (ly_a L o)), (1, .int p1), (2, .int s35.1), (3, .int s35.2)] []) ?_
    intro s35 ih35 hx35 ⟨w35, hb35⟩
    have hf1 := hb35
    unfold f_Hat_could_L35 at hf1
    refine gw_iload_n C 3 d_Hat_could_35 rfl rfl ?_
    refine gw_aload_n C 0 d_Hat_could_36 rfl rfl ?_
    refine gw_getA C 7 d_Hat_could_37 k_o_0 (by decide) i_Hat rfl rfl (by decide) qw_410 rfl rfl (o + 60) rfl ?_
    refine gw_getAN C 0 d_Hat_could_40 k_o_60 (by decide) i_State rfl rfl (by decide) qw_237 rfl rfl (o + 61) rfl ?_
    refine gw_getAN C 0 d_Hat_could_43 k_o_61 (by decide) i_Island rfl rfl (by decide) qw_128 rfl rfl (o + 62) rfl ?_
    refine gw_getIN C 1 d_Hat_could_46 k_o_62 (by decide) i_Names rfl rfl (by decide) qw_115 rfl rfl ?_
    refine gw_icmp_ge C 73 d_Hat_could_49 (by decide) (fun hc => ?_) (fun hc => ?_)
    · replace hf1 := mx_t hc hf1
      exact gw_go [2] (hk35 s35.1 (hx35 _ (hb35.trans hf1.symm)).symm) rfl
    · replace hf1 := mx_f hc hf1
      refine gw_aload_n C 0 d_Hat_could_52 rfl rfl ?_
      refine gw_iload_n C 1 d_Hat_could_53 rfl rfl ?_
      refine gw_iload_n C 3 d_Hat_could_54 rfl rfl ?_
      obtain ⟨q55, hq55, hf1⟩ := mx_bd hf1
      refine gw_callI C (c_Hat_waysToHave _ hg k_o_0 hq55) d_Hat_could_55 2 qw_936 qw_938 qs_29 qw_1 qw_939 k_o_0 (by decide) rfl hd_Hat_waysToHave rfl rfl (Nat.le_of_ble_eq_true rfl) ⟨rfl, rfl, Nat.le_of_ble_eq_true rfl, Nat.le_of_ble_eq_true rfl⟩ ⟨Nat.zero_le _, Nat.zero_le _⟩ ?_
      refine gw_if_le C 67 d_Hat_could_58 (by decide) (fun hc => ?_) (fun hc => ?_)
      · replace hf1 := mx_t hc hf1
        obtain ⟨x67, ex67, hf1⟩ := mx_lt hf1
        refine gw_iinc C 3 [(3, .int x67), (0, .ref (ly_a L o)), (1, .int p1), (2, .int s35.1)] d_Hat_could_67 rfl (by rw [ex67]; rfl) (by decide) rfl ?_
        refine gw_goto C 35 d_Hat_could_70 (by decide) ?_
        exact gw_go [1, 2, 3, 0] (ih35 (s35.1, x67) (hb35.trans hf1.symm)) rfl
      · replace hf1 := mx_f hc hf1
        refine gw_iload_n C 2 d_Hat_could_61 rfl rfl ?_
        refine gw_iconst C (1 : Int32) d_Hat_could_62 (by decide) ?_
        refine gw_iload_n C 3 d_Hat_could_63 rfl rfl ?_
        refine gw_ishl C d_Hat_could_64 ?_
        refine gw_ior C d_Hat_could_65 ?_
        obtain ⟨x66, ex66, hf1⟩ := mx_lt hf1
        refine gw_topi ex66 ?_
        refine gw_istore_n C [(2, .int x66), (0, .ref (ly_a L o)), (1, .int p1), (3, .int s35.2)] d_Hat_could_66 rfl (by decide) rfl ?_
        obtain ⟨x67, ex67, hf1⟩ := mx_lt hf1
        refine gw_iinc C 3 [(3, .int x67), (2, .int x66), (0, .ref (ly_a L o)), (1, .int p1)] d_Hat_could_67 rfl (by rw [ex67]; rfl) (by decide) rfl ?_
        refine gw_goto C 35 d_Hat_could_70 (by decide) ?_
        exact gw_go [2, 3, 1, 0] (ih35 (x66, x67) (hb35.trans hf1.symm)) rfl
  · replace hf0 := mx_t hc hf0
    refine gw_iconst C ((-1) : Int32) d_Hat_could_17 (by decide) ?_
    exact en_i hN hf0 d_Hat_could_18

/-! NameHat.grave()I -/
abbrev b_Hat_grave : ByteArray := prog_1_method_38_code
def y_Hat_grave : MethodName := ⟨"NameHat", "grave", "()I"⟩
abbrev rm_Hat_grave : Room := { frames := 3, cells := 0, slots := 0, locals := 66 }
theorem hd_Hat_grave : y_Hat_grave.cls ≠ "java/lang/invoke/MethodHandle" ∧ y_Hat_grave.cls ≠ "java/lang/invoke/VarHandle" ∧ (parseMethodDescriptor y_Hat_grave.desc).map (fun d => d.parameters.length) = some 0 := by decide +kernel
theorem d_Hat_grave_0 : decode b_Hat_grave 0 = .ok (.aload_n 0, 1) := by decide +kernel
theorem d_Hat_grave_1 : decode b_Hat_grave 1 = .ok (.getfield 77, 3) := by decide +kernel
theorem d_Hat_grave_4 : decode b_Hat_grave 4 = .ok (.istore_n 1, 1) := by decide +kernel
theorem d_Hat_grave_5 : decode b_Hat_grave 5 = .ok (.aload_n 0, 1) := by decide +kernel
theorem d_Hat_grave_6 : decode b_Hat_grave 6 = .ok (.iconst 0, 1) := by decide +kernel
theorem d_Hat_grave_7 : decode b_Hat_grave 7 = .ok (.putfield 77, 3) := by decide +kernel
theorem d_Hat_grave_10 : decode b_Hat_grave 10 = .ok (.iload_n 1, 1) := by decide +kernel
theorem d_Hat_grave_11 : decode b_Hat_grave 11 = .ok (.iconst 2, 1) := by decide +kernel
theorem d_Hat_grave_12 : decode b_Hat_grave 12 = .ok (.irem, 1) := by decide +kernel
theorem d_Hat_grave_13 : decode b_Hat_grave 13 = .ok (.ifCond .ne 9, 3) := by decide +kernel
theorem d_Hat_grave_16 : decode b_Hat_grave 16 = .ok (.iload_n 1, 1) := by decide +kernel
theorem d_Hat_grave_17 : decode b_Hat_grave 17 = .ok (.bipush 40, 2) := by decide +kernel
theorem d_Hat_grave_19 : decode b_Hat_grave 19 = .ok (.if_icmp .le 5, 3) := by decide +kernel
theorem d_Hat_grave_22 : decode b_Hat_grave 22 = .ok (.iconst (-1), 1) := by decide +kernel
theorem d_Hat_grave_23 : decode b_Hat_grave 23 = .ok (.ireturn, 1) := by decide +kernel
theorem d_Hat_grave_24 : decode b_Hat_grave 24 = .ok (.aload_n 0, 1) := by decide +kernel
theorem d_Hat_grave_25 : decode b_Hat_grave 25 = .ok (.getfield 57, 3) := by decide +kernel
theorem d_Hat_grave_28 : decode b_Hat_grave 28 = .ok (.getfield 121, 3) := by decide +kernel
theorem d_Hat_grave_31 : decode b_Hat_grave 31 = .ok (.getfield 166, 3) := by decide +kernel
theorem d_Hat_grave_34 : decode b_Hat_grave 34 = .ok (.invokevirtual 302, 3) := by decide +kernel
theorem d_Hat_grave_37 : decode b_Hat_grave 37 = .ok (.istore_n 2, 1) := by decide +kernel
theorem d_Hat_grave_38 : decode b_Hat_grave 38 = .ok (.iconst 0, 1) := by decide +kernel
theorem d_Hat_grave_39 : decode b_Hat_grave 39 = .ok (.istore_n 3, 1) := by decide +kernel
theorem d_Hat_grave_40 : decode b_Hat_grave 40 = .ok (.iload_n 3, 1) := by decide +kernel
theorem d_Hat_grave_41 : decode b_Hat_grave 41 = .ok (.iload_n 1, 1) := by decide +kernel
theorem d_Hat_grave_42 : decode b_Hat_grave 42 = .ok (.if_icmp .ge 93, 3) := by decide +kernel
theorem d_Hat_grave_45 : decode b_Hat_grave 45 = .ok (.aload_n 0, 1) := by decide +kernel
theorem d_Hat_grave_46 : decode b_Hat_grave 46 = .ok (.getfield 26, 3) := by decide +kernel
theorem d_Hat_grave_49 : decode b_Hat_grave 49 = .ok (.iload_n 3, 1) := by decide +kernel
theorem d_Hat_grave_50 : decode b_Hat_grave 50 = .ok (.invokevirtual 147, 3) := by decide +kernel
theorem d_Hat_grave_53 : decode b_Hat_grave 53 = .ok (.istore 4, 2) := by decide +kernel
theorem d_Hat_grave_55 : decode b_Hat_grave 55 = .ok (.aload_n 0, 1) := by decide +kernel
theorem d_Hat_grave_56 : decode b_Hat_grave 56 = .ok (.getfield 26, 3) := by decide +kernel
theorem d_Hat_grave_59 : decode b_Hat_grave 59 = .ok (.iload_n 3, 1) := by decide +kernel
theorem d_Hat_grave_60 : decode b_Hat_grave 60 = .ok (.iconst 1, 1) := by decide +kernel
theorem d_Hat_grave_61 : decode b_Hat_grave 61 = .ok (.iadd, 1) := by decide +kernel
theorem d_Hat_grave_62 : decode b_Hat_grave 62 = .ok (.invokevirtual 147, 3) := by decide +kernel
theorem d_Hat_grave_65 : decode b_Hat_grave 65 = .ok (.istore 5, 2) := by decide +kernel
theorem d_Hat_grave_67 : decode b_Hat_grave 67 = .ok (.iload 4, 2) := by decide +kernel
theorem d_Hat_grave_69 : decode b_Hat_grave 69 = .ok (.aload_n 0, 1) := by decide +kernel
theorem d_Hat_grave_70 : decode b_Hat_grave 70 = .ok (.getfield 57, 3) := by decide +kernel
theorem d_Hat_grave_73 : decode b_Hat_grave 73 = .ok (.getfield 183, 3) := by decide +kernel
theorem d_Hat_grave_76 : decode b_Hat_grave 76 = .ok (.if_icmp .gt 21, 3) := by decide +kernel
theorem d_Hat_grave_79 : decode b_Hat_grave 79 = .ok (.aload_n 0, 1) := by decide +kernel
theorem d_Hat_grave_80 : decode b_Hat_grave 80 = .ok (.getfield 57, 3) := by decide +kernel
theorem d_Hat_grave_83 : decode b_Hat_grave 83 = .ok (.getfield 121, 3) := by decide +kernel
theorem d_Hat_grave_86 : decode b_Hat_grave 86 = .ok (.getfield 125, 3) := by decide +kernel
theorem d_Hat_grave_89 : decode b_Hat_grave 89 = .ok (.iload 5, 2) := by decide +kernel
theorem d_Hat_grave_91 : decode b_Hat_grave 91 = .ok (.invokevirtual 131, 3) := by decide +kernel
theorem d_Hat_grave_94 : decode b_Hat_grave 94 = .ok (.ifCond .ne 5, 3) := by decide +kernel
theorem d_Hat_grave_97 : decode b_Hat_grave 97 = .ok (.iconst (-1), 1) := by decide +kernel
theorem d_Hat_grave_98 : decode b_Hat_grave 98 = .ok (.ireturn, 1) := by decide +kernel
theorem d_Hat_grave_99 : decode b_Hat_grave 99 = .ok (.aload_n 0, 1) := by decide +kernel
theorem d_Hat_grave_100 : decode b_Hat_grave 100 = .ok (.getfield 57, 3) := by decide +kernel
theorem d_Hat_grave_103 : decode b_Hat_grave 103 = .ok (.iload 5, 2) := by decide +kernel
theorem d_Hat_grave_105 : decode b_Hat_grave 105 = .ok (.iload 4, 2) := by decide +kernel
theorem d_Hat_grave_107 : decode b_Hat_grave 107 = .ok (.invokevirtual 195, 3) := by decide +kernel
theorem d_Hat_grave_110 : decode b_Hat_grave 110 = .ok (.istore 6, 2) := by decide +kernel
theorem d_Hat_grave_112 : decode b_Hat_grave 112 = .ok (.iload_n 2, 1) := by decide +kernel
theorem d_Hat_grave_113 : decode b_Hat_grave 113 = .ok (.iload 6, 2) := by decide +kernel
theorem d_Hat_grave_115 : decode b_Hat_grave 115 = .ok (.iconst (-1), 1) := by decide +kernel
theorem d_Hat_grave_116 : decode b_Hat_grave 116 = .ok (.if_icmp .ne 7, 3) := by decide +kernel
theorem d_Hat_grave_119 : decode b_Hat_grave 119 = .ok (.iconst 0, 1) := by decide +kernel
theorem d_Hat_grave_120 : decode b_Hat_grave 120 = .ok (.goto 7, 3) := by decide +kernel
theorem d_Hat_grave_123 : decode b_Hat_grave 123 = .ok (.iconst 1, 1) := by decide +kernel
theorem d_Hat_grave_124 : decode b_Hat_grave 124 = .ok (.iload 6, 2) := by decide +kernel
theorem d_Hat_grave_126 : decode b_Hat_grave 126 = .ok (.ishl, 1) := by decide +kernel
theorem d_Hat_grave_127 : decode b_Hat_grave 127 = .ok (.iand, 1) := by decide +kernel
theorem d_Hat_grave_128 : decode b_Hat_grave 128 = .ok (.istore_n 2, 1) := by decide +kernel
theorem d_Hat_grave_129 : decode b_Hat_grave 129 = .ok (.iinc 3 2, 3) := by decide +kernel
theorem d_Hat_grave_132 : decode b_Hat_grave 132 = .ok (.goto (-92), 3) := by decide +kernel
theorem d_Hat_grave_135 : decode b_Hat_grave 135 = .ok (.iload_n 2, 1) := by decide +kernel
theorem d_Hat_grave_136 : decode b_Hat_grave 136 = .ok (.ireturn, 1) := by decide +kernel
noncomputable def f_Hat_grave_L40 (z : Nat → Nat) (σ : Mm) (o : Nat) (v1 : Int32) (s40 : Int32 × Int32) : Option ((Int32 × Int32) ⊕ ((Int32 × Mm) ⊕ (Int32))) :=
  if v1 ≤ s40.2 then (
    some (.inr (.inr s40.1))
  ) else (
    (f_Row_at z σ (o + 3) s40.2).bind fun q50 =>
    (f_Row_at z σ (o + 3) (s40.2 + (1 : Int32))).bind fun q62 =>
    if (σ.1 (o + 60) 2) < q50 then (
      some (.inr (.inl (((-1) : Int32), σ)))
    ) else (
      (f_Names_has z σ (o + 62) q62).bind fun q91 =>
      if q91 = 0 then (
        some (.inr (.inl (((-1) : Int32), σ)))
      ) else (
        (f_State_keeperAt z σ (o + 60) q62 q50).bind fun q107 =>
        if q107 = ((-1) : Int32) then (
          mm_lt ((s40.1 &&& (0 : Int32))) fun x128 =>
          mm_lt (s40.2 + (2 : Int32)) fun x129 =>
          some (.inl (x128, x129))
        ) else (
          mm_lt ((s40.1 &&& ((1 : Int32) <<< (q107 &&& 31)))) fun x128 =>
          mm_lt (s40.2 + (2 : Int32)) fun x129 =>
          some (.inl (x128, x129))
        )
      )
    )
  )
noncomputable def f_Hat_grave (z : Nat → Nat) (σ : Mm) (o : Nat) : Option (Int32 × Mm) :=
  mm_lt ((σ.1 o 1)) fun x4 =>
  mm_lt (kI σ o 1 (0 : Int32)) fun m7 =>
  (mm_irem x4 (2 : Int32)).bind fun x12 =>
  if x12 = 0 then (
    if x4 ≤ (40 : Int32) then (
      (f_Names_allBits z m7 (o + 64)).bind fun q34 =>
      (mm_lp (f_Hat_grave_L40 z m7 o x4) (q34, (0 : Int32))).bind (Sum.elim (fun r9 => some r9) (fun x40_ =>
        some (x40_, m7)))
    ) else (
      some (((-1) : Int32), m7)
    )
  ) else (
    some (((-1) : Int32), m7)
  )
set_option maxHeartbeats 4000000 in
set_option maxRecDepth 100000 in
theorem c_Hat_grave (l : Launch) {L : Ly} (hg : gd_ok L) {σ : Mm} {o : Nat} (k_o_0 : ly_k L o = 10) {res : Int32 × Mm} (hf0 : f_Hat_grave (ly_z L) σ o = some res) : CtI l y_Hat_grave b_Hat_grave 7 (some .int) rm_Hat_grave L [.ref (ly_a L o)] σ res.1 res.2 := by
  refine ct_i hg (by decide) (Nat.le_of_ble_eq_true rfl) ?_
  intro E A Q hE C hN
  subst hE
  have k_o_60 : ly_k L (o + 60) = 4 := gd_Hat_now hg k_o_0
  have k_o_61 : ly_k L (o + 61) = 2 := gd_State_island hg k_o_60
  have k_o_64 : ly_k L (o + 64) = 1 := gd_Island_houses hg k_o_61
  have k_o_3 : ly_k L (o + 3) = 0 := gd_Hat_tape hg k_o_0
  have k_o_62 : ly_k L (o + 62) = 1 := gd_Island_surnames hg k_o_61
  unfold f_Hat_grave at hf0
  show GW E L A 7 0 0 Q σ 0 [(0, .ref (ly_a L o))] []
  refine gw_aload_n C 0 d_Hat_grave_0 rfl rfl ?_
  refine gw_getI C 1 d_Hat_grave_1 k_o_0 (by decide) i_Hat rfl rfl (by decide) qw_404 rfl rfl ?_
  obtain ⟨x4, ex4, hf0⟩ := mx_lt hf0
  refine gw_topi ex4 ?_
  refine gw_istore_n C [(1, .int x4), (0, .ref (ly_a L o))] d_Hat_grave_4 rfl (by decide) rfl ?_
  refine gw_aload_n C 1 d_Hat_grave_5 rfl rfl ?_
  refine gw_iconst C (0 : Int32) d_Hat_grave_6 (by decide) ?_
  obtain ⟨m7, em7, hf0⟩ := mx_lt hf0
  refine gw_putI t_Hat C 1 d_Hat_grave_7 k_o_0 (by decide) i_Hat rfl rfl (by decide) qw_404 rfl rfl t_Hat_ok n_Hat rfl (t_Hat_ok 1 (by decide)) rfl rfl em7 ?_
  refine gw_iload_n C 0 d_Hat_grave_10 rfl rfl ?_
  refine gw_iconst C (2 : Int32) d_Hat_grave_11 (by decide) ?_
  obtain ⟨x12, hx12, hf0⟩ := mx_bd hf0
  obtain ⟨nx12, ex12⟩ := mx_irem hx12
  refine gw_irem C d_Hat_grave_12 nx12 ?_
  refine gw_topi ex12 ?_
  refine gw_if_ne C 22 d_Hat_grave_13 (by decide) (fun hc => ?_) (fun hc => ?_)
  · replace hf0 := mx_f hc hf0
    refine gw_iconst C ((-1) : Int32) d_Hat_grave_22 (by decide) ?_
    exact en_i hN hf0 d_Hat_grave_23
  · replace hf0 := mx_t hc hf0
    refine gw_iload_n C 0 d_Hat_grave_16 rfl rfl ?_
    refine gw_bipush C (40 : Int32) d_Hat_grave_17 (by decide) ?_
    refine gw_icmp_le C 24 d_Hat_grave_19 (by decide) (fun hc => ?_) (fun hc => ?_)
    · replace hf0 := mx_t hc hf0
      refine gw_aload_n C 1 d_Hat_grave_24 rfl rfl ?_
      refine gw_getA C 7 d_Hat_grave_25 k_o_0 (by decide) i_Hat rfl rfl (by decide) qw_410 rfl rfl (o + 60) rfl ?_
      refine gw_getAN C 0 d_Hat_grave_28 k_o_60 (by decide) i_State rfl rfl (by decide) qw_237 rfl rfl (o + 61) rfl ?_
      refine gw_getAN C 1 d_Hat_grave_31 k_o_61 (by decide) i_Island rfl rfl (by decide) qw_136 rfl rfl (o + 64) rfl ?_
      obtain ⟨q34, hq34, hf0⟩ := mx_bd hf0
      refine gw_callI C (c_Names_allBits _ hg k_o_64 hq34) d_Hat_grave_34 0 qw_948 qw_716 qw_717 qw_7 qw_718 k_o_64 (by decide) rfl hd_Names_allBits rfl rfl (Nat.le_of_ble_eq_true rfl) ⟨rfl, rfl, Nat.le_of_ble_eq_true rfl, Nat.le_of_ble_eq_true rfl⟩ ⟨Nat.zero_le _, Nat.zero_le _⟩ ?_
      refine gw_istore_n C [(2, .int q34), (1, .int x4), (0, .ref (ly_a L o))] d_Hat_grave_37 rfl (by decide) rfl ?_
      refine gw_iconst C (0 : Int32) d_Hat_grave_38 (by decide) ?_
      refine gw_istore_n C [(3, .int (0 : Int32)), (2, .int q34), (1, .int x4), (0, .ref (ly_a L o))] d_Hat_grave_39 rfl (by decide) rfl ?_
      obtain ⟨q40, hq40, hf0⟩ := mx_bd hf0
      have hk40 : ∀ x40_, q40 = .inr x40_ → GW E L A 7 0 0 Q m7 135 [(2, .int x40_)] [] := by
        intro x40_ hx9
        subst hx9
        replace hf0 := mx_sr hf0
        refine gw_iload_n C 0 d_Hat_grave_135 rfl rfl ?_
        exact en_i hN hf0 d_Hat_grave_136
      refine gw_sub [3, 2, 1, 0] (lv' := [(0, .ref (ly_a L o)), (1, .int x4), (2, .int q34), (3, .int (0 : Int32))]) rfl ?_
      refine mm_rule hq40 (P := fun (s40 : Int32 × Int32) => GW E L A 7 0 0 Q m7 40 [(0, .ref (ly_a L o)), (1, .int x4), (2, .int s40.1), (3, .int s40.2)] []) ?_
      intro s40 ih40 hx40 ⟨w40, hb40⟩
      have hf1 := hb40
      unfold f_Hat_grave_L40 at hf1
      refine gw_iload_n C 3 d_Hat_grave_40 rfl rfl ?_
      refine gw_iload_n C 1 d_Hat_grave_41 rfl rfl ?_
      refine gw_icmp_ge C 135 d_Hat_grave_42 (by decide) (fun hc => ?_) (fun hc => ?_)
      · replace hf1 := mx_t hc hf1
        exact gw_go [2] (hk40 s40.1 (hx40 _ (hb40.trans hf1.symm)).symm) rfl
      · replace hf1 := mx_f hc hf1
        refine gw_aload_n C 0 d_Hat_grave_45 rfl rfl ?_
        refine gw_getA C 0 d_Hat_grave_46 k_o_0 (by decide) i_Hat rfl rfl (by decide) qw_403 rfl rfl (o + 3) rfl ?_
        refine gw_iload_n C 3 d_Hat_grave_49 rfl rfl ?_
        obtain ⟨q50, hq50, hf1⟩ := mx_bd hf1
        refine gw_callI C (c_Row_at _ hg k_o_3 hq50) d_Hat_grave_50 1 qw_755 qw_489 qw_490 qw_4 qw_491 k_o_3 (by decide) rfl hd_Row_at rfl rfl (Nat.le_of_ble_eq_true rfl) ⟨rfl, rfl, Nat.le_of_ble_eq_true rfl, Nat.le_of_ble_eq_true rfl⟩ ⟨Nat.zero_le _, Nat.zero_le _⟩ ?_
        refine gw_istore C [(4, .int q50), (0, .ref (ly_a L o)), (1, .int x4), (2, .int s40.1), (3, .int s40.2)] d_Hat_grave_53 (by decide) rfl ?_
        refine gw_aload_n C 1 d_Hat_grave_55 rfl rfl ?_
        refine gw_getA C 0 d_Hat_grave_56 k_o_0 (by decide) i_Hat rfl rfl (by decide) qw_403 rfl rfl (o + 3) rfl ?_
        refine gw_iload_n C 4 d_Hat_grave_59 rfl rfl ?_
        refine gw_iconst C (1 : Int32) d_Hat_grave_60 (by decide) ?_
        refine gw_iadd C d_Hat_grave_61 ?_
        obtain ⟨q62, hq62, hf1⟩ := mx_bd hf1
        refine gw_callI C (c_Row_at _ hg k_o_3 hq62) d_Hat_grave_62 1 qw_755 qw_489 qw_490 qw_4 qw_491 k_o_3 (by decide) rfl hd_Row_at rfl rfl (Nat.le_of_ble_eq_true rfl) ⟨rfl, rfl, Nat.le_of_ble_eq_true rfl, Nat.le_of_ble_eq_true rfl⟩ ⟨Nat.zero_le _, Nat.zero_le _⟩ ?_
        refine gw_istore C [(5, .int q62), (4, .int q50), (0, .ref (ly_a L o)), (1, .int x4), (2, .int s40.1), (3, .int s40.2)] d_Hat_grave_65 (by decide) rfl ?_
        refine gw_iload C 1 d_Hat_grave_67 rfl ?_
        refine gw_aload_n C 2 d_Hat_grave_69 rfl rfl ?_
        refine gw_getA C 7 d_Hat_grave_70 k_o_0 (by decide) i_Hat rfl rfl (by decide) qw_410 rfl rfl (o + 60) rfl ?_
        refine gw_getIN C 2 d_Hat_grave_73 k_o_60 (by decide) i_State rfl rfl (by decide) qw_242 rfl rfl ?_
        refine gw_icmp_gt C 97 d_Hat_grave_76 (by decide) (fun hc => ?_) (fun hc => ?_)
        · replace hf1 := mx_t hc hf1
          refine gw_iconst C ((-1) : Int32) d_Hat_grave_97 (by decide) ?_
          have hr40 := hx40 _ (hb40.trans hf1.symm)
          subst hr40
          replace hf0 := mx_sl hf0
          exact en_i hN hf0 d_Hat_grave_98
        · replace hf1 := mx_f hc hf1
          refine gw_aload_n C 2 d_Hat_grave_79 rfl rfl ?_
          refine gw_getA C 7 d_Hat_grave_80 k_o_0 (by decide) i_Hat rfl rfl (by decide) qw_410 rfl rfl (o + 60) rfl ?_
          refine gw_getAN C 0 d_Hat_grave_83 k_o_60 (by decide) i_State rfl rfl (by decide) qw_237 rfl rfl (o + 61) rfl ?_
          refine gw_getAN C 0 d_Hat_grave_86 k_o_61 (by decide) i_Island rfl rfl (by decide) qw_128 rfl rfl (o + 62) rfl ?_
          refine gw_iload C 0 d_Hat_grave_89 rfl ?_
          obtain ⟨q91, hq91, hf1⟩ := mx_bd hf1
          refine gw_callI C (c_Names_has _ hg k_o_62 hq91) d_Hat_grave_91 1 qw_754 qw_738 qw_739 qw_7 qw_740 k_o_62 (by decide) rfl hd_Names_has rfl rfl (Nat.le_of_ble_eq_true rfl) ⟨rfl, rfl, Nat.le_of_ble_eq_true rfl, Nat.le_of_ble_eq_true rfl⟩ ⟨Nat.zero_le _, Nat.zero_le _⟩ ?_
          refine gw_if_ne C 99 d_Hat_grave_94 (by decide) (fun hc => ?_) (fun hc => ?_)
          · replace hf1 := mx_f hc hf1
            refine gw_aload_n C 2 d_Hat_grave_99 rfl rfl ?_
            refine gw_getA C 7 d_Hat_grave_100 k_o_0 (by decide) i_Hat rfl rfl (by decide) qw_410 rfl rfl (o + 60) rfl ?_
            refine gw_iload C 0 d_Hat_grave_103 rfl ?_
            refine gw_iload C 1 d_Hat_grave_105 rfl ?_
            obtain ⟨q107, hq107, hf1⟩ := mx_bd hf1
            refine gw_callI C (c_State_keeperAt _ hg k_o_60 hq107) d_Hat_grave_107 2 qw_745 qw_746 qw_747 qw_5 qw_748 k_o_60 (by decide) rfl hd_State_keeperAt rfl rfl (Nat.le_of_ble_eq_true rfl) ⟨rfl, rfl, Nat.le_of_ble_eq_true rfl, Nat.le_of_ble_eq_true rfl⟩ ⟨Nat.zero_le _, Nat.zero_le _⟩ ?_
            refine gw_istore C [(6, .int q107), (5, .int q62), (4, .int q50), (0, .ref (ly_a L o)), (1, .int x4), (2, .int s40.1), (3, .int s40.2)] d_Hat_grave_110 (by decide) rfl ?_
            refine gw_iload_n C 5 d_Hat_grave_112 rfl rfl ?_
            refine gw_iload C 0 d_Hat_grave_113 rfl ?_
            refine gw_iconst C ((-1) : Int32) d_Hat_grave_115 (by decide) ?_
            refine gw_icmp_ne C 123 d_Hat_grave_116 (by decide) (fun hc => ?_) (fun hc => ?_)
            · replace hf1 := mx_f hc hf1
              refine gw_iconst C (1 : Int32) d_Hat_grave_123 (by decide) ?_
              refine gw_iload C 0 d_Hat_grave_124 rfl ?_
              refine gw_ishl C d_Hat_grave_126 ?_
              refine gw_iand C d_Hat_grave_127 ?_
              obtain ⟨x128, ex128, hf1⟩ := mx_lt hf1
              refine gw_topi ex128 ?_
              refine gw_istore_n C [(2, .int x128), (6, .int q107), (5, .int q62), (4, .int q50), (0, .ref (ly_a L o)), (1, .int x4), (3, .int s40.2)] d_Hat_grave_128 rfl (by decide) rfl ?_
              obtain ⟨x129, ex129, hf1⟩ := mx_lt hf1
              refine gw_iinc C 6 [(3, .int x129), (2, .int x128), (6, .int q107), (5, .int q62), (4, .int q50), (0, .ref (ly_a L o)), (1, .int x4)] d_Hat_grave_129 rfl (by rw [ex129]; rfl) (by decide) rfl ?_
              refine gw_goto C 40 d_Hat_grave_132 (by decide) ?_
              exact gw_go [5, 6, 1, 0] (ih40 (x128, x129) (hb40.trans hf1.symm)) rfl
            · replace hf1 := mx_t hc hf1
              refine gw_iconst C (0 : Int32) d_Hat_grave_119 (by decide) ?_
              refine gw_goto C 127 d_Hat_grave_120 (by decide) ?_
              refine gw_iand C d_Hat_grave_127 ?_
              obtain ⟨x128, ex128, hf1⟩ := mx_lt hf1
              refine gw_topi ex128 ?_
              refine gw_istore_n C [(2, .int x128), (6, .int q107), (5, .int q62), (4, .int q50), (0, .ref (ly_a L o)), (1, .int x4), (3, .int s40.2)] d_Hat_grave_128 rfl (by decide) rfl ?_
              obtain ⟨x129, ex129, hf1⟩ := mx_lt hf1
              refine gw_iinc C 6 [(3, .int x129), (2, .int x128), (6, .int q107), (5, .int q62), (4, .int q50), (0, .ref (ly_a L o)), (1, .int x4)] d_Hat_grave_129 rfl (by rw [ex129]; rfl) (by decide) rfl ?_
              refine gw_goto C 40 d_Hat_grave_132 (by decide) ?_
              exact gw_go [5, 6, 1, 0] (ih40 (x128, x129) (hb40.trans hf1.symm)) rfl
          · replace hf1 := mx_t hc hf1
            refine gw_iconst C ((-1) : Int32) d_Hat_grave_97 (by decide) ?_
            have hr40 := hx40 _ (hb40.trans hf1.symm)
            subst hr40
            replace hf0 := mx_sl hf0
            exact en_i hN hf0 d_Hat_grave_98
    · replace hf0 := mx_f hc hf0
      refine gw_iconst C ((-1) : Int32) d_Hat_grave_22 (by decide) ?_
      exact en_i hN hf0 d_Hat_grave_23

/-! NameHat.lapsed(I)I -/
abbrev b_Hat_lapsed : ByteArray := prog_1_method_39_code
def y_Hat_lapsed : MethodName := ⟨"NameHat", "lapsed", "(I)I"⟩
abbrev rm_Hat_lapsed : Room := { frames := 2, cells := 0, slots := 0, locals := 43 }
theorem hd_Hat_lapsed : y_Hat_lapsed.cls ≠ "java/lang/invoke/MethodHandle" ∧ y_Hat_lapsed.cls ≠ "java/lang/invoke/VarHandle" ∧ (parseMethodDescriptor y_Hat_lapsed.desc).map (fun d => d.parameters.length) = some 1 := by decide +kernel
theorem d_Hat_lapsed_0 : decode b_Hat_lapsed 0 = .ok (.iload_n 1, 1) := by decide +kernel
theorem d_Hat_lapsed_1 : decode b_Hat_lapsed 1 = .ok (.iconst 1, 1) := by decide +kernel
theorem d_Hat_lapsed_2 : decode b_Hat_lapsed 2 = .ok (.if_icmp .lt 16, 3) := by decide +kernel
theorem d_Hat_lapsed_5 : decode b_Hat_lapsed 5 = .ok (.iload_n 1, 1) := by decide +kernel
theorem d_Hat_lapsed_6 : decode b_Hat_lapsed 6 = .ok (.aload_n 0, 1) := by decide +kernel
theorem d_Hat_lapsed_7 : decode b_Hat_lapsed 7 = .ok (.getfield 57, 3) := by decide +kernel
theorem d_Hat_lapsed_10 : decode b_Hat_lapsed 10 = .ok (.getfield 183, 3) := by decide +kernel
theorem d_Hat_lapsed_13 : decode b_Hat_lapsed 13 = .ok (.iconst 1, 1) := by decide +kernel
theorem d_Hat_lapsed_14 : decode b_Hat_lapsed 14 = .ok (.iadd, 1) := by decide +kernel
theorem d_Hat_lapsed_15 : decode b_Hat_lapsed 15 = .ok (.if_icmp .le 5, 3) := by decide +kernel
theorem d_Hat_lapsed_18 : decode b_Hat_lapsed 18 = .ok (.iconst (-1), 1) := by decide +kernel
theorem d_Hat_lapsed_19 : decode b_Hat_lapsed 19 = .ok (.ireturn, 1) := by decide +kernel
theorem d_Hat_lapsed_20 : decode b_Hat_lapsed 20 = .ok (.aload_n 0, 1) := by decide +kernel
theorem d_Hat_lapsed_21 : decode b_Hat_lapsed 21 = .ok (.getfield 57, 3) := by decide +kernel
theorem d_Hat_lapsed_24 : decode b_Hat_lapsed 24 = .ok (.getfield 121, 3) := by decide +kernel
theorem d_Hat_lapsed_27 : decode b_Hat_lapsed 27 = .ok (.getfield 125, 3) := by decide +kernel
theorem d_Hat_lapsed_30 : decode b_Hat_lapsed 30 = .ok (.invokevirtual 302, 3) := by decide +kernel
theorem d_Hat_lapsed_33 : decode b_Hat_lapsed 33 = .ok (.istore_n 2, 1) := by decide +kernel
theorem d_Hat_lapsed_34 : decode b_Hat_lapsed 34 = .ok (.aload_n 0, 1) := by decide +kernel
theorem d_Hat_lapsed_35 : decode b_Hat_lapsed 35 = .ok (.getfield 57, 3) := by decide +kernel
theorem d_Hat_lapsed_38 : decode b_Hat_lapsed 38 = .ok (.getfield 183, 3) := by decide +kernel
theorem d_Hat_lapsed_41 : decode b_Hat_lapsed 41 = .ok (.istore_n 3, 1) := by decide +kernel
theorem d_Hat_lapsed_42 : decode b_Hat_lapsed 42 = .ok (.iload_n 3, 1) := by decide +kernel
theorem d_Hat_lapsed_43 : decode b_Hat_lapsed 43 = .ok (.aload_n 0, 1) := by decide +kernel
theorem d_Hat_lapsed_44 : decode b_Hat_lapsed 44 = .ok (.getfield 57, 3) := by decide +kernel
theorem d_Hat_lapsed_47 : decode b_Hat_lapsed 47 = .ok (.getfield 183, 3) := by decide +kernel
theorem d_Hat_lapsed_50 : decode b_Hat_lapsed 50 = .ok (.iload_n 1, 1) := by decide +kernel
theorem d_Hat_lapsed_51 : decode b_Hat_lapsed 51 = .ok (.isub, 1) := by decide +kernel
theorem d_Hat_lapsed_52 : decode b_Hat_lapsed 52 = .ok (.if_icmp .le 67, 3) := by decide +kernel
theorem d_Hat_lapsed_55 : decode b_Hat_lapsed 55 = .ok (.iconst 0, 1) := by decide +kernel
theorem d_Hat_lapsed_56 : decode b_Hat_lapsed 56 = .ok (.istore 4, 2) := by decide +kernel
theorem d_Hat_lapsed_58 : decode b_Hat_lapsed 58 = .ok (.iload 4, 2) := by decide +kernel
theorem d_Hat_lapsed_60 : decode b_Hat_lapsed 60 = .ok (.aload_n 0, 1) := by decide +kernel
theorem d_Hat_lapsed_61 : decode b_Hat_lapsed 61 = .ok (.getfield 57, 3) := by decide +kernel
theorem d_Hat_lapsed_64 : decode b_Hat_lapsed 64 = .ok (.getfield 121, 3) := by decide +kernel
theorem d_Hat_lapsed_67 : decode b_Hat_lapsed 67 = .ok (.getfield 166, 3) := by decide +kernel
theorem d_Hat_lapsed_70 : decode b_Hat_lapsed 70 = .ok (.getfield 186, 3) := by decide +kernel
theorem d_Hat_lapsed_73 : decode b_Hat_lapsed 73 = .ok (.if_icmp .ge 40, 3) := by decide +kernel
theorem d_Hat_lapsed_76 : decode b_Hat_lapsed 76 = .ok (.aload_n 0, 1) := by decide +kernel
theorem d_Hat_lapsed_77 : decode b_Hat_lapsed 77 = .ok (.getfield 57, 3) := by decide +kernel
theorem d_Hat_lapsed_80 : decode b_Hat_lapsed 80 = .ok (.iload 4, 2) := by decide +kernel
theorem d_Hat_lapsed_82 : decode b_Hat_lapsed 82 = .ok (.iload_n 3, 1) := by decide +kernel
theorem d_Hat_lapsed_83 : decode b_Hat_lapsed 83 = .ok (.invokevirtual 192, 3) := by decide +kernel
theorem d_Hat_lapsed_86 : decode b_Hat_lapsed 86 = .ok (.istore 5, 2) := by decide +kernel
theorem d_Hat_lapsed_88 : decode b_Hat_lapsed 88 = .ok (.iload_n 2, 1) := by decide +kernel
theorem d_Hat_lapsed_89 : decode b_Hat_lapsed 89 = .ok (.iload 5, 2) := by decide +kernel
theorem d_Hat_lapsed_91 : decode b_Hat_lapsed 91 = .ok (.iconst (-1), 1) := by decide +kernel
theorem d_Hat_lapsed_92 : decode b_Hat_lapsed 92 = .ok (.if_icmp .ne 7, 3) := by decide +kernel
theorem d_Hat_lapsed_95 : decode b_Hat_lapsed 95 = .ok (.iconst (-1), 1) := by decide +kernel
theorem d_Hat_lapsed_96 : decode b_Hat_lapsed 96 = .ok (.goto 9, 3) := by decide +kernel
theorem d_Hat_lapsed_99 : decode b_Hat_lapsed 99 = .ok (.iconst 1, 1) := by decide +kernel
theorem d_Hat_lapsed_100 : decode b_Hat_lapsed 100 = .ok (.iload 5, 2) := by decide +kernel
theorem d_Hat_lapsed_102 : decode b_Hat_lapsed 102 = .ok (.ishl, 1) := by decide +kernel
theorem d_Hat_lapsed_103 : decode b_Hat_lapsed 103 = .ok (.iconst (-1), 1) := by decide +kernel
theorem d_Hat_lapsed_104 : decode b_Hat_lapsed 104 = .ok (.ixor, 1) := by decide +kernel
theorem d_Hat_lapsed_105 : decode b_Hat_lapsed 105 = .ok (.iand, 1) := by decide +kernel
theorem d_Hat_lapsed_106 : decode b_Hat_lapsed 106 = .ok (.istore_n 2, 1) := by decide +kernel
theorem d_Hat_lapsed_107 : decode b_Hat_lapsed 107 = .ok (.iinc 4 1, 3) := by decide +kernel
theorem d_Hat_lapsed_110 : decode b_Hat_lapsed 110 = .ok (.goto (-52), 3) := by decide +kernel
theorem d_Hat_lapsed_113 : decode b_Hat_lapsed 113 = .ok (.iinc 3 (-1), 3) := by decide +kernel
theorem d_Hat_lapsed_116 : decode b_Hat_lapsed 116 = .ok (.goto (-74), 3) := by decide +kernel
theorem d_Hat_lapsed_119 : decode b_Hat_lapsed 119 = .ok (.iload_n 2, 1) := by decide +kernel
theorem d_Hat_lapsed_120 : decode b_Hat_lapsed 120 = .ok (.ireturn, 1) := by decide +kernel
noncomputable def f_Hat_lapsed_L58 (z : Nat → Nat) (σ : Mm) (o : Nat) (v1 : Int32) (v3 : Int32) (s58 : Int32 × Int32) : Option ((Int32 × Int32) ⊕ (Int32)) :=
  if (σ.1 (o + 64) 1) ≤ s58.2 then (
    some (.inr s58.1)
  ) else (
    (f_State_heldAt z σ (o + 60) s58.2 v3).bind fun q83 =>
    if q83 = ((-1) : Int32) then (
      mm_lt ((s58.1 &&& ((-1) : Int32))) fun x106 =>
      mm_lt (s58.2 + (1 : Int32)) fun x107 =>
      some (.inl (x106, x107))
    ) else (
      mm_lt ((s58.1 &&& (((1 : Int32) <<< (q83 &&& 31)) ^^^ ((-1) : Int32)))) fun x106 =>
      mm_lt (s58.2 + (1 : Int32)) fun x107 =>
      some (.inl (x106, x107))
    )
  )
noncomputable def f_Hat_lapsed_L42 (z : Nat → Nat) (σ : Mm) (o : Nat) (v1 : Int32) (s42 : Int32 × Int32) : Option ((Int32 × Int32) ⊕ (Int32)) :=
  if s42.2 ≤ ((σ.1 (o + 60) 2) - v1) then (
    some (.inr s42.1)
  ) else (
    (mm_lp (f_Hat_lapsed_L58 z σ o v1 s42.2) (s42.1, (0 : Int32))).bind (fun q58 =>
      mm_lt (s42.2 + ((-1) : Int32)) fun x113 =>
      some (.inl (q58, x113)))
  )
noncomputable def f_Hat_lapsed (z : Nat → Nat) (σ : Mm) (o : Nat) (p1 : Int32) : Option (Int32) :=
  if p1 < (1 : Int32) then (
    some ((-1) : Int32)
  ) else (
    if p1 ≤ ((σ.1 (o + 60) 2) + (1 : Int32)) then (
      (f_Names_allBits z σ (o + 62)).bind fun q30 =>
      mm_lt ((σ.1 (o + 60) 2)) fun x41 =>
      (mm_lp (f_Hat_lapsed_L42 z σ o p1) (q30, x41)).bind (fun q42 =>
        some q42)
    ) else (
      some ((-1) : Int32)
    )
  )
set_option maxHeartbeats 4000000 in
set_option maxRecDepth 100000 in
theorem c_Hat_lapsed (l : Launch) {L : Ly} (hg : gd_ok L) {σ : Mm} {o : Nat} {p1 : Int32} (k_o_0 : ly_k L o = 10) {res : Int32} (hf0 : f_Hat_lapsed (ly_z L) σ o p1 = some res) : CtI l y_Hat_lapsed b_Hat_lapsed 6 (some .int) rm_Hat_lapsed L [.ref (ly_a L o), .int p1] σ res σ := by
  refine ct_i hg (by decide) (Nat.le_of_ble_eq_true rfl) ?_
  intro E A Q hE C hN
  subst hE
  have k_o_60 : ly_k L (o + 60) = 4 := gd_Hat_now hg k_o_0
  have k_o_61 : ly_k L (o + 61) = 2 := gd_State_island hg k_o_60
  have k_o_62 : ly_k L (o + 62) = 1 := gd_Island_surnames hg k_o_61
  have k_o_64 : ly_k L (o + 64) = 1 := gd_Island_houses hg k_o_61
  unfold f_Hat_lapsed at hf0
  show GW E L A 6 0 0 Q σ 0 [(0, .ref (ly_a L o)), (1, .int p1)] []
  refine gw_iload_n C 1 d_Hat_lapsed_0 rfl rfl ?_
  refine gw_iconst C (1 : Int32) d_Hat_lapsed_1 (by decide) ?_
  refine gw_icmp_lt C 18 d_Hat_lapsed_2 (by decide) (fun hc => ?_) (fun hc => ?_)
  · replace hf0 := mx_t hc hf0
    refine gw_iconst C ((-1) : Int32) d_Hat_lapsed_18 (by decide) ?_
    exact en_ip hN hf0 d_Hat_lapsed_19
  · replace hf0 := mx_f hc hf0
    refine gw_iload_n C 1 d_Hat_lapsed_5 rfl rfl ?_
    refine gw_aload_n C 0 d_Hat_lapsed_6 rfl rfl ?_
    refine gw_getA C 7 d_Hat_lapsed_7 k_o_0 (by decide) i_Hat rfl rfl (by decide) qw_410 rfl rfl (o + 60) rfl ?_
    refine gw_getIN C 2 d_Hat_lapsed_10 k_o_60 (by decide) i_State rfl rfl (by decide) qw_242 rfl rfl ?_
    refine gw_iconst C (1 : Int32) d_Hat_lapsed_13 (by decide) ?_
    refine gw_iadd C d_Hat_lapsed_14 ?_
    refine gw_icmp_le C 20 d_Hat_lapsed_15 (by decide) (fun hc => ?_) (fun hc => ?_)
    · replace hf0 := mx_t hc hf0
      refine gw_aload_n C 0 d_Hat_lapsed_20 rfl rfl ?_
      refine gw_getA C 7 d_Hat_lapsed_21 k_o_0 (by decide) i_Hat rfl rfl (by decide) qw_410 rfl rfl (o + 60) rfl ?_
      refine gw_getAN C 0 d_Hat_lapsed_24 k_o_60 (by decide) i_State rfl rfl (by decide) qw_237 rfl rfl (o + 61) rfl ?_
      refine gw_getAN C 0 d_Hat_lapsed_27 k_o_61 (by decide) i_Island rfl rfl (by decide) qw_128 rfl rfl (o + 62) rfl ?_
      obtain ⟨q30, hq30, hf0⟩ := mx_bd hf0
      refine gw_callI C (c_Names_allBits _ hg k_o_62 hq30) d_Hat_lapsed_30 0 qw_948 qw_716 qw_717 qw_7 qw_718 k_o_62 (by decide) rfl hd_Names_allBits rfl rfl (Nat.le_of_ble_eq_true rfl) ⟨rfl, rfl, Nat.le_of_ble_eq_true rfl, Nat.le_of_ble_eq_true rfl⟩ ⟨Nat.zero_le _, Nat.zero_le _⟩ ?_
      refine gw_istore_n C [(2, .int q30), (0, .ref (ly_a L o)), (1, .int p1)] d_Hat_lapsed_33 rfl (by decide) rfl ?_
      refine gw_aload_n C 1 d_Hat_lapsed_34 rfl rfl ?_
      refine gw_getA C 7 d_Hat_lapsed_35 k_o_0 (by decide) i_Hat rfl rfl (by decide) qw_410 rfl rfl (o + 60) rfl ?_
      refine gw_getIN C 2 d_Hat_lapsed_38 k_o_60 (by decide) i_State rfl rfl (by decide) qw_242 rfl rfl ?_
      obtain ⟨x41, ex41, hf0⟩ := mx_lt hf0
      refine gw_topi ex41 ?_
      refine gw_istore_n C [(3, .int x41), (2, .int q30), (0, .ref (ly_a L o)), (1, .int p1)] d_Hat_lapsed_41 rfl (by decide) rfl ?_
      obtain ⟨q42, hq42, hf0⟩ := mx_bd hf0
      have hk42 : ∀ x9, q42 = x9 → GW E L A 6 0 0 Q σ 119 [(2, .int x9)] [] := by
        intro x9 hx9
        subst hx9
        refine gw_iload_n C 0 d_Hat_lapsed_119 rfl rfl ?_
        exact en_ip hN hf0 d_Hat_lapsed_120
      refine gw_sub [2, 3, 1, 0] (lv' := [(0, .ref (ly_a L o)), (1, .int p1), (2, .int q30), (3, .int x41)]) rfl ?_
      refine mm_rule hq42 (P := fun (s42 : Int32 × Int32) => GW E L A 6 0 0 Q σ 42 [(0, .ref (ly_a L o)), (1, .int p1), (2, .int s42.1), (3, .int s42.2)] []) ?_
      intro s42 ih42 hx42 ⟨w42, hb42⟩
      have hf1 := hb42
      unfold f_Hat_lapsed_L42 at hf1
      refine gw_iload_n C 3 d_Hat_lapsed_42 rfl rfl ?_
      refine gw_aload_n C 0 d_Hat_lapsed_43 rfl rfl ?_
      refine gw_getA C 7 d_Hat_lapsed_44 k_o_0 (by decide) i_Hat rfl rfl (by decide) qw_410 rfl rfl (o + 60) rfl ?_
      refine gw_getIN C 2 d_Hat_lapsed_47 k_o_60 (by decide) i_State rfl rfl (by decide) qw_242 rfl rfl ?_
      refine gw_iload_n C 1 d_Hat_lapsed_50 rfl rfl ?_
      refine gw_isub C d_Hat_lapsed_51 ?_
      refine gw_icmp_le C 119 d_Hat_lapsed_52 (by decide) (fun hc => ?_) (fun hc => ?_)
      · replace hf1 := mx_t hc hf1
        exact gw_go [2] (hk42 s42.1 (hx42 _ (hb42.trans hf1.symm)).symm) rfl
      · replace hf1 := mx_f hc hf1
        refine gw_iconst C (0 : Int32) d_Hat_lapsed_55 (by decide) ?_
        refine gw_istore C [(4, .int (0 : Int32)), (0, .ref (ly_a L o)), (1, .int p1), (2, .int s42.1), (3, .int s42.2)] d_Hat_lapsed_56 (by decide) rfl ?_
        obtain ⟨q58, hq58, hf1⟩ := mx_bd hf1
        have hk58 : ∀ x9, q58 = x9 → GW E L A 6 0 0 Q σ 113 [(0, .ref (ly_a L o)), (1, .int p1), (2, .int x9), (3, .int s42.2)] [] := by
          intro x9 hx9
          subst hx9
          obtain ⟨x113, ex113, hf1⟩ := mx_lt hf1
          refine gw_iinc C 3 [(3, .int x113), (0, .ref (ly_a L o)), (1, .int p1), (2, .int q58)] d_Hat_lapsed_113 rfl (by rw [ex113]; rfl) (by decide) rfl ?_
          refine gw_goto C 42 d_Hat_lapsed_116 (by decide) ?_
          exact gw_go [1, 2, 3, 0] (ih42 (q58, x113) (hb42.trans hf1.symm)) rfl
        refine gw_sub [1, 2, 3, 4, 0] (lv' := [(0, .ref (ly_a L o)), (1, .int p1), (2, .int s42.1), (3, .int s42.2), (4, .int (0 : Int32))]) rfl ?_
        refine mm_rule hq58 (P := fun (s58 : Int32 × Int32) => GW E L A 6 0 0 Q σ 58 [(0, .ref (ly_a L o)), (1, .int p1), (2, .int s58.1), (3, .int s42.2), (4, .int s58.2)] []) ?_
        intro s58 ih58 hx58 ⟨w58, hb58⟩
        have hf2 := hb58
        unfold f_Hat_lapsed_L58 at hf2
        refine gw_iload C 4 d_Hat_lapsed_58 rfl ?_
        refine gw_aload_n C 0 d_Hat_lapsed_60 rfl rfl ?_
        refine gw_getA C 7 d_Hat_lapsed_61 k_o_0 (by decide) i_Hat rfl rfl (by decide) qw_410 rfl rfl (o + 60) rfl ?_
        refine gw_getAN C 0 d_Hat_lapsed_64 k_o_60 (by decide) i_State rfl rfl (by decide) qw_237 rfl rfl (o + 61) rfl ?_
        refine gw_getAN C 1 d_Hat_lapsed_67 k_o_61 (by decide) i_Island rfl rfl (by decide) qw_136 rfl rfl (o + 64) rfl ?_
        refine gw_getIN C 1 d_Hat_lapsed_70 k_o_64 (by decide) i_Names rfl rfl (by decide) qw_115 rfl rfl ?_
        refine gw_icmp_ge C 113 d_Hat_lapsed_73 (by decide) (fun hc => ?_) (fun hc => ?_)
        · replace hf2 := mx_t hc hf2
          exact gw_go [0, 1, 2, 3] (hk58 s58.1 (hx58 _ (hb58.trans hf2.symm)).symm) rfl
        · replace hf2 := mx_f hc hf2
          refine gw_aload_n C 0 d_Hat_lapsed_76 rfl rfl ?_
          refine gw_getA C 7 d_Hat_lapsed_77 k_o_0 (by decide) i_Hat rfl rfl (by decide) qw_410 rfl rfl (o + 60) rfl ?_
          refine gw_iload C 4 d_Hat_lapsed_80 rfl ?_
          refine gw_iload_n C 3 d_Hat_lapsed_82 rfl rfl ?_
          obtain ⟨q83, hq83, hf2⟩ := mx_bd hf2
          refine gw_callI C (c_State_heldAt _ hg k_o_60 hq83) d_Hat_lapsed_83 2 qw_733 qw_734 qw_735 qw_5 qw_736 k_o_60 (by decide) rfl hd_State_heldAt rfl rfl (Nat.le_of_ble_eq_true rfl) ⟨rfl, rfl, Nat.le_of_ble_eq_true rfl, Nat.le_of_ble_eq_true rfl⟩ ⟨Nat.zero_le _, Nat.zero_le _⟩ ?_
          refine gw_istore C [(5, .int q83), (0, .ref (ly_a L o)), (1, .int p1), (2, .int s58.1), (3, .int s42.2), (4, .int s58.2)] d_Hat_lapsed_86 (by decide) rfl ?_
          refine gw_iload_n C 3 d_Hat_lapsed_88 rfl rfl ?_
          refine gw_iload C 0 d_Hat_lapsed_89 rfl ?_
          refine gw_iconst C ((-1) : Int32) d_Hat_lapsed_91 (by decide) ?_
          refine gw_icmp_ne C 99 d_Hat_lapsed_92 (by decide) (fun hc => ?_) (fun hc => ?_)
          · replace hf2 := mx_f hc hf2
            refine gw_iconst C (1 : Int32) d_Hat_lapsed_99 (by decide) ?_
            refine gw_iload C 0 d_Hat_lapsed_100 rfl ?_
            refine gw_ishl C d_Hat_lapsed_102 ?_
            refine gw_iconst C ((-1) : Int32) d_Hat_lapsed_103 (by decide) ?_
            refine gw_ixor C d_Hat_lapsed_104 ?_
            refine gw_iand C d_Hat_lapsed_105 ?_
            obtain ⟨x106, ex106, hf2⟩ := mx_lt hf2
            refine gw_topi ex106 ?_
            refine gw_istore_n C [(2, .int x106), (5, .int q83), (0, .ref (ly_a L o)), (1, .int p1), (3, .int s42.2), (4, .int s58.2)] d_Hat_lapsed_106 rfl (by decide) rfl ?_
            obtain ⟨x107, ex107, hf2⟩ := mx_lt hf2
            refine gw_iinc C 5 [(4, .int x107), (2, .int x106), (5, .int q83), (0, .ref (ly_a L o)), (1, .int p1), (3, .int s42.2)] d_Hat_lapsed_107 rfl (by rw [ex107]; rfl) (by decide) rfl ?_
            refine gw_goto C 58 d_Hat_lapsed_110 (by decide) ?_
            exact gw_go [3, 4, 1, 5, 0] (ih58 (x106, x107) (hb58.trans hf2.symm)) rfl
          · replace hf2 := mx_t hc hf2
            refine gw_iconst C ((-1) : Int32) d_Hat_lapsed_95 (by decide) ?_
            refine gw_goto C 105 d_Hat_lapsed_96 (by decide) ?_
            refine gw_iand C d_Hat_lapsed_105 ?_
            obtain ⟨x106, ex106, hf2⟩ := mx_lt hf2
            refine gw_topi ex106 ?_
            refine gw_istore_n C [(2, .int x106), (5, .int q83), (0, .ref (ly_a L o)), (1, .int p1), (3, .int s42.2), (4, .int s58.2)] d_Hat_lapsed_106 rfl (by decide) rfl ?_
            obtain ⟨x107, ex107, hf2⟩ := mx_lt hf2
            refine gw_iinc C 5 [(4, .int x107), (2, .int x106), (5, .int q83), (0, .ref (ly_a L o)), (1, .int p1), (3, .int s42.2)] d_Hat_lapsed_107 rfl (by rw [ex107]; rfl) (by decide) rfl ?_
            refine gw_goto C 58 d_Hat_lapsed_110 (by decide) ?_
            exact gw_go [3, 4, 1, 5, 0] (ih58 (x106, x107) (hb58.trans hf2.symm)) rfl
    · replace hf0 := mx_f hc hf0
      refine gw_iconst C ((-1) : Int32) d_Hat_lapsed_18 (by decide) ?_
      exact en_ip hN hf0 d_Hat_lapsed_19

/-! NameHat.tellsLuck(II)Z -/
abbrev b_Hat_tellsLuck : ByteArray := prog_1_method_42_code
def y_Hat_tellsLuck : MethodName := ⟨"NameHat", "tellsLuck", "(II)Z"⟩
abbrev rm_Hat_tellsLuck : Room := { frames := 1, cells := 0, slots := 0, locals := 21 }
theorem hd_Hat_tellsLuck : y_Hat_tellsLuck.cls ≠ "java/lang/invoke/MethodHandle" ∧ y_Hat_tellsLuck.cls ≠ "java/lang/invoke/VarHandle" ∧ (parseMethodDescriptor y_Hat_tellsLuck.desc).map (fun d => d.parameters.length) = some 2 := by decide +kernel
theorem d_Hat_tellsLuck_0 : decode b_Hat_tellsLuck 0 = .ok (.aload_n 0, 1) := by decide +kernel
theorem d_Hat_tellsLuck_1 : decode b_Hat_tellsLuck 1 = .ok (.getfield 57, 3) := by decide +kernel
theorem d_Hat_tellsLuck_4 : decode b_Hat_tellsLuck 4 = .ok (.getfield 121, 3) := by decide +kernel
theorem d_Hat_tellsLuck_7 : decode b_Hat_tellsLuck 7 = .ok (.getfield 166, 3) := by decide +kernel
theorem d_Hat_tellsLuck_10 : decode b_Hat_tellsLuck 10 = .ok (.iload_n 1, 1) := by decide +kernel
theorem d_Hat_tellsLuck_11 : decode b_Hat_tellsLuck 11 = .ok (.invokevirtual 131, 3) := by decide +kernel
theorem d_Hat_tellsLuck_14 : decode b_Hat_tellsLuck 14 = .ok (.ifCond .eq 39, 3) := by decide +kernel
theorem d_Hat_tellsLuck_17 : decode b_Hat_tellsLuck 17 = .ok (.iload_n 2, 1) := by decide +kernel
theorem d_Hat_tellsLuck_18 : decode b_Hat_tellsLuck 18 = .ok (.ifCond .lt 35, 3) := by decide +kernel
theorem d_Hat_tellsLuck_21 : decode b_Hat_tellsLuck 21 = .ok (.iload_n 2, 1) := by decide +kernel
theorem d_Hat_tellsLuck_22 : decode b_Hat_tellsLuck 22 = .ok (.bipush 99, 2) := by decide +kernel
theorem d_Hat_tellsLuck_24 : decode b_Hat_tellsLuck 24 = .ok (.if_icmp .gt 29, 3) := by decide +kernel
theorem d_Hat_tellsLuck_27 : decode b_Hat_tellsLuck 27 = .ok (.aload_n 0, 1) := by decide +kernel
theorem d_Hat_tellsLuck_28 : decode b_Hat_tellsLuck 28 = .ok (.getfield 57, 3) := by decide +kernel
theorem d_Hat_tellsLuck_31 : decode b_Hat_tellsLuck 31 = .ok (.getfield 183, 3) := by decide +kernel
theorem d_Hat_tellsLuck_34 : decode b_Hat_tellsLuck 34 = .ok (.ifCond .le 19, 3) := by decide +kernel
theorem d_Hat_tellsLuck_37 : decode b_Hat_tellsLuck 37 = .ok (.aload_n 0, 1) := by decide +kernel
theorem d_Hat_tellsLuck_38 : decode b_Hat_tellsLuck 38 = .ok (.getfield 57, 3) := by decide +kernel
theorem d_Hat_tellsLuck_41 : decode b_Hat_tellsLuck 41 = .ok (.getfield 183, 3) := by decide +kernel
theorem d_Hat_tellsLuck_44 : decode b_Hat_tellsLuck 44 = .ok (.bipush 12, 2) := by decide +kernel
theorem d_Hat_tellsLuck_46 : decode b_Hat_tellsLuck 46 = .ok (.if_icmp .gt 7, 3) := by decide +kernel
theorem d_Hat_tellsLuck_49 : decode b_Hat_tellsLuck 49 = .ok (.iconst 1, 1) := by decide +kernel
theorem d_Hat_tellsLuck_50 : decode b_Hat_tellsLuck 50 = .ok (.goto 4, 3) := by decide +kernel
theorem d_Hat_tellsLuck_53 : decode b_Hat_tellsLuck 53 = .ok (.iconst 0, 1) := by decide +kernel
theorem d_Hat_tellsLuck_54 : decode b_Hat_tellsLuck 54 = .ok (.ireturn, 1) := by decide +kernel
noncomputable def f_Hat_tellsLuck (z : Nat → Nat) (σ : Mm) (o : Nat) (p1 : Int32) (p2 : Int32) : Option (Int32) :=
  (f_Names_has z σ (o + 64) p1).bind fun q11 =>
  if q11 = 0 then (
    some (0 : Int32)
  ) else (
    if p2 < 0 then (
      some (0 : Int32)
    ) else (
      if (99 : Int32) < p2 then (
        some (0 : Int32)
      ) else (
        if (σ.1 (o + 60) 2) ≤ 0 then (
          some (0 : Int32)
        ) else (
          if (12 : Int32) < (σ.1 (o + 60) 2) then (
            some (0 : Int32)
          ) else (
            some (1 : Int32)
          )
        )
      )
    )
  )
set_option maxHeartbeats 4000000 in
set_option maxRecDepth 100000 in
theorem c_Hat_tellsLuck (l : Launch) {L : Ly} (hg : gd_ok L) {σ : Mm} {o : Nat} {p1 : Int32} {p2 : Int32} (k_o_0 : ly_k L o = 10) {res : Int32} (hf0 : f_Hat_tellsLuck (ly_z L) σ o p1 p2 = some res) : CtI l y_Hat_tellsLuck b_Hat_tellsLuck 3 (some .boolean) rm_Hat_tellsLuck L [.ref (ly_a L o), .int p1, .int p2] σ res σ := by
  refine ct_z hg (by decide) (Nat.le_of_ble_eq_true rfl) ?_
  intro E A Q hE C hN
  subst hE
  have k_o_60 : ly_k L (o + 60) = 4 := gd_Hat_now hg k_o_0
  have k_o_61 : ly_k L (o + 61) = 2 := gd_State_island hg k_o_60
  have k_o_64 : ly_k L (o + 64) = 1 := gd_Island_houses hg k_o_61
  unfold f_Hat_tellsLuck at hf0
  show GW E L A 3 0 0 Q σ 0 [(0, .ref (ly_a L o)), (1, .int p1), (2, .int p2)] []
  refine gw_aload_n C 0 d_Hat_tellsLuck_0 rfl rfl ?_
  refine gw_getA C 7 d_Hat_tellsLuck_1 k_o_0 (by decide) i_Hat rfl rfl (by decide) qw_410 rfl rfl (o + 60) rfl ?_
  refine gw_getAN C 0 d_Hat_tellsLuck_4 k_o_60 (by decide) i_State rfl rfl (by decide) qw_237 rfl rfl (o + 61) rfl ?_
  refine gw_getAN C 1 d_Hat_tellsLuck_7 k_o_61 (by decide) i_Island rfl rfl (by decide) qw_136 rfl rfl (o + 64) rfl ?_
  refine gw_iload_n C 1 d_Hat_tellsLuck_10 rfl rfl ?_
  obtain ⟨q11, hq11, hf0⟩ := mx_bd hf0
  refine gw_callI C (c_Names_has _ hg k_o_64 hq11) d_Hat_tellsLuck_11 1 qw_754 qw_738 qw_739 qw_7 qw_740 k_o_64 (by decide) rfl hd_Names_has rfl rfl (Nat.le_of_ble_eq_true rfl) ⟨rfl, rfl, Nat.le_of_ble_eq_true rfl, Nat.le_of_ble_eq_true rfl⟩ ⟨Nat.zero_le _, Nat.zero_le _⟩ ?_
  refine gw_if_eq C 53 d_Hat_tellsLuck_14 (by decide) (fun hc => ?_) (fun hc => ?_)
  · replace hf0 := mx_t hc hf0
    refine gw_iconst C (0 : Int32) d_Hat_tellsLuck_53 (by decide) ?_
    exact en_zp hN (Or.inl rfl) hf0 d_Hat_tellsLuck_54
  · replace hf0 := mx_f hc hf0
    refine gw_iload_n C 2 d_Hat_tellsLuck_17 rfl rfl ?_
    refine gw_if_lt C 53 d_Hat_tellsLuck_18 (by decide) (fun hc => ?_) (fun hc => ?_)
    · replace hf0 := mx_t hc hf0
      refine gw_iconst C (0 : Int32) d_Hat_tellsLuck_53 (by decide) ?_
      exact en_zp hN (Or.inl rfl) hf0 d_Hat_tellsLuck_54
    · replace hf0 := mx_f hc hf0
      refine gw_iload_n C 2 d_Hat_tellsLuck_21 rfl rfl ?_
      refine gw_bipush C (99 : Int32) d_Hat_tellsLuck_22 (by decide) ?_
      refine gw_icmp_gt C 53 d_Hat_tellsLuck_24 (by decide) (fun hc => ?_) (fun hc => ?_)
      · replace hf0 := mx_t hc hf0
        refine gw_iconst C (0 : Int32) d_Hat_tellsLuck_53 (by decide) ?_
        exact en_zp hN (Or.inl rfl) hf0 d_Hat_tellsLuck_54
      · replace hf0 := mx_f hc hf0
        refine gw_aload_n C 0 d_Hat_tellsLuck_27 rfl rfl ?_
        refine gw_getA C 7 d_Hat_tellsLuck_28 k_o_0 (by decide) i_Hat rfl rfl (by decide) qw_410 rfl rfl (o + 60) rfl ?_
        refine gw_getIN C 2 d_Hat_tellsLuck_31 k_o_60 (by decide) i_State rfl rfl (by decide) qw_242 rfl rfl ?_
        refine gw_if_le C 53 d_Hat_tellsLuck_34 (by decide) (fun hc => ?_) (fun hc => ?_)
        · replace hf0 := mx_t hc hf0
          refine gw_iconst C (0 : Int32) d_Hat_tellsLuck_53 (by decide) ?_
          exact en_zp hN (Or.inl rfl) hf0 d_Hat_tellsLuck_54
        · replace hf0 := mx_f hc hf0
          refine gw_aload_n C 0 d_Hat_tellsLuck_37 rfl rfl ?_
          refine gw_getA C 7 d_Hat_tellsLuck_38 k_o_0 (by decide) i_Hat rfl rfl (by decide) qw_410 rfl rfl (o + 60) rfl ?_
          refine gw_getIN C 2 d_Hat_tellsLuck_41 k_o_60 (by decide) i_State rfl rfl (by decide) qw_242 rfl rfl ?_
          refine gw_bipush C (12 : Int32) d_Hat_tellsLuck_44 (by decide) ?_
          refine gw_icmp_gt C 53 d_Hat_tellsLuck_46 (by decide) (fun hc => ?_) (fun hc => ?_)
          · replace hf0 := mx_t hc hf0
            refine gw_iconst C (0 : Int32) d_Hat_tellsLuck_53 (by decide) ?_
            exact en_zp hN (Or.inl rfl) hf0 d_Hat_tellsLuck_54
          · replace hf0 := mx_f hc hf0
            refine gw_iconst C (1 : Int32) d_Hat_tellsLuck_49 (by decide) ?_
            refine gw_goto C 54 d_Hat_tellsLuck_50 (by decide) ?_
            exact en_zp hN (Or.inr rfl) hf0 d_Hat_tellsLuck_54

/-! NameHat.State.drewOfWorth(II)I -/
abbrev b_State_drewOfWorth : ByteArray := prog_10_method_9_code
def y_State_drewOfWorth : MethodName := ⟨"NameHat$State", "drewOfWorth", "(II)I"⟩
abbrev rm_State_drewOfWorth : Room := { frames := 1, cells := 0, slots := 0, locals := 21 }
theorem hd_State_drewOfWorth : y_State_drewOfWorth.cls ≠ "java/lang/invoke/MethodHandle" ∧ y_State_drewOfWorth.cls ≠ "java/lang/invoke/VarHandle" ∧ (parseMethodDescriptor y_State_drewOfWorth.desc).map (fun d => d.parameters.length) = some 2 := by decide +kernel
theorem d_State_drewOfWorth_0 : decode b_State_drewOfWorth 0 = .ok (.iconst 0, 1) := by decide +kernel
theorem d_State_drewOfWorth_1 : decode b_State_drewOfWorth 1 = .ok (.istore_n 3, 1) := by decide +kernel
theorem d_State_drewOfWorth_2 : decode b_State_drewOfWorth 2 = .ok (.iconst 1, 1) := by decide +kernel
theorem d_State_drewOfWorth_3 : decode b_State_drewOfWorth 3 = .ok (.istore 4, 2) := by decide +kernel
theorem d_State_drewOfWorth_5 : decode b_State_drewOfWorth 5 = .ok (.iload 4, 2) := by decide +kernel
theorem d_State_drewOfWorth_7 : decode b_State_drewOfWorth 7 = .ok (.aload_n 0, 1) := by decide +kernel
theorem d_State_drewOfWorth_8 : decode b_State_drewOfWorth 8 = .ok (.getfield 54, 3) := by decide +kernel
theorem d_State_drewOfWorth_11 : decode b_State_drewOfWorth 11 = .ok (.if_icmp .gt 50, 3) := by decide +kernel
theorem d_State_drewOfWorth_14 : decode b_State_drewOfWorth 14 = .ok (.aload_n 0, 1) := by decide +kernel
theorem d_State_drewOfWorth_15 : decode b_State_drewOfWorth 15 = .ok (.getfield 34, 3) := by decide +kernel
theorem d_State_drewOfWorth_18 : decode b_State_drewOfWorth 18 = .ok (.iload 4, 2) := by decide +kernel
theorem d_State_drewOfWorth_20 : decode b_State_drewOfWorth 20 = .ok (.bipush 8, 2) := by decide +kernel
theorem d_State_drewOfWorth_22 : decode b_State_drewOfWorth 22 = .ok (.imul, 1) := by decide +kernel
theorem d_State_drewOfWorth_23 : decode b_State_drewOfWorth 23 = .ok (.iload_n 1, 1) := by decide +kernel
theorem d_State_drewOfWorth_24 : decode b_State_drewOfWorth 24 = .ok (.iadd, 1) := by decide +kernel
theorem d_State_drewOfWorth_25 : decode b_State_drewOfWorth 25 = .ok (.invokevirtual 93, 3) := by decide +kernel
theorem d_State_drewOfWorth_28 : decode b_State_drewOfWorth 28 = .ok (.istore 5, 2) := by decide +kernel
theorem d_State_drewOfWorth_30 : decode b_State_drewOfWorth 30 = .ok (.iload 5, 2) := by decide +kernel
theorem d_State_drewOfWorth_32 : decode b_State_drewOfWorth 32 = .ok (.iconst (-1), 1) := by decide +kernel
theorem d_State_drewOfWorth_33 : decode b_State_drewOfWorth 33 = .ok (.if_icmp .eq 22, 3) := by decide +kernel
theorem d_State_drewOfWorth_36 : decode b_State_drewOfWorth 36 = .ok (.aload_n 0, 1) := by decide +kernel
theorem d_State_drewOfWorth_37 : decode b_State_drewOfWorth 37 = .ok (.getfield 12, 3) := by decide +kernel
theorem d_State_drewOfWorth_40 : decode b_State_drewOfWorth 40 = .ok (.getfield 124, 3) := by decide +kernel
theorem d_State_drewOfWorth_43 : decode b_State_drewOfWorth 43 = .ok (.iload 5, 2) := by decide +kernel
theorem d_State_drewOfWorth_45 : decode b_State_drewOfWorth 45 = .ok (.invokevirtual 93, 3) := by decide +kernel
theorem d_State_drewOfWorth_48 : decode b_State_drewOfWorth 48 = .ok (.iload_n 2, 1) := by decide +kernel
theorem d_State_drewOfWorth_49 : decode b_State_drewOfWorth 49 = .ok (.if_icmp .lt 6, 3) := by decide +kernel
theorem d_State_drewOfWorth_52 : decode b_State_drewOfWorth 52 = .ok (.iinc 3 1, 3) := by decide +kernel
theorem d_State_drewOfWorth_55 : decode b_State_drewOfWorth 55 = .ok (.iinc 4 1, 3) := by decide +kernel
theorem d_State_drewOfWorth_58 : decode b_State_drewOfWorth 58 = .ok (.goto (-53), 3) := by decide +kernel
theorem d_State_drewOfWorth_61 : decode b_State_drewOfWorth 61 = .ok (.iload_n 3, 1) := by decide +kernel
theorem d_State_drewOfWorth_62 : decode b_State_drewOfWorth 62 = .ok (.ireturn, 1) := by decide +kernel
noncomputable def f_State_drewOfWorth_L5 (z : Nat → Nat) (σ : Mm) (o : Nat) (v1 : Int32) (v2 : Int32) (s5 : Int32 × Int32) : Option ((Int32 × Int32) ⊕ (Int32)) :=
  if (σ.1 o 2) < s5.2 then (
    some (.inr s5.1)
  ) else (
    (f_Row_at z σ (o + 25) ((s5.2 * (8 : Int32)) + v1)).bind fun q25 =>
    if q25 = ((-1) : Int32) then (
      mm_lt (s5.2 + (1 : Int32)) fun x55 =>
      some (.inl (s5.1, x55))
    ) else (
      (f_Row_at z σ (o + 6) q25).bind fun q45 =>
      if q45 < v2 then (
        mm_lt (s5.2 + (1 : Int32)) fun x55 =>
        some (.inl (s5.1, x55))
      ) else (
        mm_lt (s5.1 + (1 : Int32)) fun x52 =>
        mm_lt (s5.2 + (1 : Int32)) fun x55 =>
        some (.inl (x52, x55))
      )
    )
  )
noncomputable def f_State_drewOfWorth (z : Nat → Nat) (σ : Mm) (o : Nat) (p1 : Int32) (p2 : Int32) : Option (Int32) :=
  (mm_lp (f_State_drewOfWorth_L5 z σ o p1 p2) ((0 : Int32), (1 : Int32))).bind (fun q5 =>
    some q5)
set_option maxHeartbeats 4000000 in
set_option maxRecDepth 100000 in
theorem c_State_drewOfWorth (l : Launch) {L : Ly} (hg : gd_ok L) {σ : Mm} {o : Nat} {p1 : Int32} {p2 : Int32} (k_o_0 : ly_k L o = 4) {res : Int32} (hf0 : f_State_drewOfWorth (ly_z L) σ o p1 p2 = some res) : CtI l y_State_drewOfWorth b_State_drewOfWorth 6 (some .int) rm_State_drewOfWorth L [.ref (ly_a L o), .int p1, .int p2] σ res σ := by
  refine ct_i hg (by decide) (Nat.le_of_ble_eq_true rfl) ?_
  intro E A Q hE C hN
  subst hE
  have k_o_25 : ly_k L (o + 25) = 0 := gd_State_drawn hg k_o_0
  have k_o_1 : ly_k L (o + 1) = 2 := gd_State_island hg k_o_0
  have k_o_6 : ly_k L (o + 6) = 0 := gd_Island_worths hg k_o_1
  unfold f_State_drewOfWorth at hf0
  show GW E L A 6 0 0 Q σ 0 [(0, .ref (ly_a L o)), (1, .int p1), (2, .int p2)] []
  refine gw_iconst C (0 : Int32) d_State_drewOfWorth_0 (by decide) ?_
  refine gw_istore_n C [(3, .int (0 : Int32)), (0, .ref (ly_a L o)), (1, .int p1), (2, .int p2)] d_State_drewOfWorth_1 rfl (by decide) rfl ?_
  refine gw_iconst C (1 : Int32) d_State_drewOfWorth_2 (by decide) ?_
  refine gw_istore C [(4, .int (1 : Int32)), (3, .int (0 : Int32)), (0, .ref (ly_a L o)), (1, .int p1), (2, .int p2)] d_State_drewOfWorth_3 (by decide) rfl ?_
  obtain ⟨q5, hq5, hf0⟩ := mx_bd hf0
  have hk5 : ∀ x9, q5 = x9 → GW E L A 6 0 0 Q σ 61 [(3, .int x9)] [] := by
    intro x9 hx9
    subst hx9
    refine gw_iload_n C 0 d_State_drewOfWorth_61 rfl rfl ?_
    exact en_ip hN hf0 d_State_drewOfWorth_62
  refine gw_sub [2, 3, 4, 1, 0] (lv' := [(0, .ref (ly_a L o)), (1, .int p1), (2, .int p2), (3, .int (0 : Int32)), (4, .int (1 : Int32))]) rfl ?_
  refine mm_rule hq5 (P := fun (s5 : Int32 × Int32) => GW E L A 6 0 0 Q σ 5 [(0, .ref (ly_a L o)), (1, .int p1), (2, .int p2), (3, .int s5.1), (4, .int s5.2)] []) ?_
  intro s5 ih5 hx5 ⟨w5, hb5⟩
  have hf1 := hb5
  unfold f_State_drewOfWorth_L5 at hf1
  refine gw_iload C 4 d_State_drewOfWorth_5 rfl ?_
  refine gw_aload_n C 0 d_State_drewOfWorth_7 rfl rfl ?_
  refine gw_getI C 2 d_State_drewOfWorth_8 k_o_0 (by decide) i_State rfl rfl (by decide) qw_241 rfl rfl ?_
  refine gw_icmp_gt C 61 d_State_drewOfWorth_11 (by decide) (fun hc => ?_) (fun hc => ?_)
  · replace hf1 := mx_t hc hf1
    exact gw_go [3] (hk5 s5.1 (hx5 _ (hb5.trans hf1.symm)).symm) rfl
  · replace hf1 := mx_f hc hf1
    refine gw_aload_n C 0 d_State_drewOfWorth_14 rfl rfl ?_
    refine gw_getA C 4 d_State_drewOfWorth_15 k_o_0 (by decide) i_State rfl rfl (by decide) qw_244 rfl rfl (o + 25) rfl ?_
    refine gw_iload C 4 d_State_drewOfWorth_18 rfl ?_
    refine gw_bipush C (8 : Int32) d_State_drewOfWorth_20 (by decide) ?_
    refine gw_imul C d_State_drewOfWorth_22 ?_
    refine gw_iload_n C 1 d_State_drewOfWorth_23 rfl rfl ?_
    refine gw_iadd C d_State_drewOfWorth_24 ?_
    obtain ⟨q25, hq25, hf1⟩ := mx_bd hf1
    refine gw_callI C (c_Row_at _ hg k_o_25 hq25) d_State_drewOfWorth_25 1 qw_713 qw_489 qw_490 qw_4 qw_491 k_o_25 (by decide) rfl hd_Row_at rfl rfl (Nat.le_of_ble_eq_true rfl) ⟨rfl, rfl, Nat.le_of_ble_eq_true rfl, Nat.le_of_ble_eq_true rfl⟩ ⟨Nat.zero_le _, Nat.zero_le _⟩ ?_
    refine gw_istore C [(5, .int q25), (0, .ref (ly_a L o)), (1, .int p1), (2, .int p2), (3, .int s5.1), (4, .int s5.2)] d_State_drewOfWorth_28 (by decide) rfl ?_
    refine gw_iload C 0 d_State_drewOfWorth_30 rfl ?_
    refine gw_iconst C ((-1) : Int32) d_State_drewOfWorth_32 (by decide) ?_
    refine gw_icmp_eq C 55 d_State_drewOfWorth_33 (by decide) (fun hc => ?_) (fun hc => ?_)
    · replace hf1 := mx_t hc hf1
      obtain ⟨x55, ex55, hf1⟩ := mx_lt hf1
      refine gw_iinc C 5 [(4, .int x55), (5, .int q25), (0, .ref (ly_a L o)), (1, .int p1), (2, .int p2), (3, .int s5.1)] d_State_drewOfWorth_55 rfl (by rw [ex55]; rfl) (by decide) rfl ?_
      refine gw_goto C 5 d_State_drewOfWorth_58 (by decide) ?_
      exact gw_go [2, 3, 4, 5, 0] (ih5 (s5.1, x55) (hb5.trans hf1.symm)) rfl
    · replace hf1 := mx_f hc hf1
      refine gw_aload_n C 1 d_State_drewOfWorth_36 rfl rfl ?_
      refine gw_getA C 0 d_State_drewOfWorth_37 k_o_0 (by decide) i_State rfl rfl (by decide) qw_234 rfl rfl (o + 1) rfl ?_
      refine gw_getAN C 2 d_State_drewOfWorth_40 k_o_1 (by decide) i_Island rfl rfl (by decide) qw_138 rfl rfl (o + 6) rfl ?_
      refine gw_iload C 0 d_State_drewOfWorth_43 rfl ?_
      obtain ⟨q45, hq45, hf1⟩ := mx_bd hf1
      refine gw_callI C (c_Row_at _ hg k_o_6 hq45) d_State_drewOfWorth_45 1 qw_713 qw_489 qw_490 qw_4 qw_491 k_o_6 (by decide) rfl hd_Row_at rfl rfl (Nat.le_of_ble_eq_true rfl) ⟨rfl, rfl, Nat.le_of_ble_eq_true rfl, Nat.le_of_ble_eq_true rfl⟩ ⟨Nat.zero_le _, Nat.zero_le _⟩ ?_
      refine gw_iload_n C 3 d_State_drewOfWorth_48 rfl rfl ?_
      refine gw_icmp_lt C 55 d_State_drewOfWorth_49 (by decide) (fun hc => ?_) (fun hc => ?_)
      · replace hf1 := mx_t hc hf1
        obtain ⟨x55, ex55, hf1⟩ := mx_lt hf1
        refine gw_iinc C 5 [(4, .int x55), (5, .int q25), (0, .ref (ly_a L o)), (1, .int p1), (2, .int p2), (3, .int s5.1)] d_State_drewOfWorth_55 rfl (by rw [ex55]; rfl) (by decide) rfl ?_
        refine gw_goto C 5 d_State_drewOfWorth_58 (by decide) ?_
        exact gw_go [2, 3, 4, 5, 0] (ih5 (s5.1, x55) (hb5.trans hf1.symm)) rfl
      · replace hf1 := mx_f hc hf1
        obtain ⟨x52, ex52, hf1⟩ := mx_lt hf1
        refine gw_iinc C 4 [(3, .int x52), (5, .int q25), (0, .ref (ly_a L o)), (1, .int p1), (2, .int p2), (4, .int s5.2)] d_State_drewOfWorth_52 rfl (by rw [ex52]; rfl) (by decide) rfl ?_
        obtain ⟨x55, ex55, hf1⟩ := mx_lt hf1
        refine gw_iinc C 5 [(4, .int x55), (3, .int x52), (5, .int q25), (0, .ref (ly_a L o)), (1, .int p1), (2, .int p2)] d_State_drewOfWorth_55 rfl (by rw [ex55]; rfl) (by decide) rfl ?_
        refine gw_goto C 5 d_State_drewOfWorth_58 (by decide) ?_
        exact gw_go [3, 4, 5, 1, 0] (ih5 (x52, x55) (hb5.trans hf1.symm)) rfl

/-! NameHat.Island.howManyOfWorth(I)I -/
abbrev b_Island_howManyOfWorth : ByteArray := prog_4_method_11_code
def y_Island_howManyOfWorth : MethodName := ⟨"NameHat$Island", "howManyOfWorth", "(I)I"⟩
abbrev rm_Island_howManyOfWorth : Room := { frames := 1, cells := 0, slots := 0, locals := 21 }
theorem hd_Island_howManyOfWorth : y_Island_howManyOfWorth.cls ≠ "java/lang/invoke/MethodHandle" ∧ y_Island_howManyOfWorth.cls ≠ "java/lang/invoke/VarHandle" ∧ (parseMethodDescriptor y_Island_howManyOfWorth.desc).map (fun d => d.parameters.length) = some 1 := by decide +kernel
theorem d_Island_howManyOfWorth_0 : decode b_Island_howManyOfWorth 0 = .ok (.iconst 0, 1) := by decide +kernel
theorem d_Island_howManyOfWorth_1 : decode b_Island_howManyOfWorth 1 = .ok (.istore_n 2, 1) := by decide +kernel
theorem d_Island_howManyOfWorth_2 : decode b_Island_howManyOfWorth 2 = .ok (.iconst 0, 1) := by decide +kernel
theorem d_Island_howManyOfWorth_3 : decode b_Island_howManyOfWorth 3 = .ok (.istore_n 3, 1) := by decide +kernel
theorem d_Island_howManyOfWorth_4 : decode b_Island_howManyOfWorth 4 = .ok (.iload_n 3, 1) := by decide +kernel
theorem d_Island_howManyOfWorth_5 : decode b_Island_howManyOfWorth 5 = .ok (.aload_n 0, 1) := by decide +kernel
theorem d_Island_howManyOfWorth_6 : decode b_Island_howManyOfWorth 6 = .ok (.getfield 14, 3) := by decide +kernel
theorem d_Island_howManyOfWorth_9 : decode b_Island_howManyOfWorth 9 = .ok (.getfield 77, 3) := by decide +kernel
theorem d_Island_howManyOfWorth_12 : decode b_Island_howManyOfWorth 12 = .ok (.if_icmp .ge 24, 3) := by decide +kernel
theorem d_Island_howManyOfWorth_15 : decode b_Island_howManyOfWorth 15 = .ok (.aload_n 0, 1) := by decide +kernel
theorem d_Island_howManyOfWorth_16 : decode b_Island_howManyOfWorth 16 = .ok (.getfield 26, 3) := by decide +kernel
theorem d_Island_howManyOfWorth_19 : decode b_Island_howManyOfWorth 19 = .ok (.iload_n 3, 1) := by decide +kernel
theorem d_Island_howManyOfWorth_20 : decode b_Island_howManyOfWorth 20 = .ok (.invokevirtual 62, 3) := by decide +kernel
theorem d_Island_howManyOfWorth_23 : decode b_Island_howManyOfWorth 23 = .ok (.iload_n 1, 1) := by decide +kernel
theorem d_Island_howManyOfWorth_24 : decode b_Island_howManyOfWorth 24 = .ok (.if_icmp .lt 6, 3) := by decide +kernel
theorem d_Island_howManyOfWorth_27 : decode b_Island_howManyOfWorth 27 = .ok (.iinc 2 1, 3) := by decide +kernel
theorem d_Island_howManyOfWorth_30 : decode b_Island_howManyOfWorth 30 = .ok (.iinc 3 1, 3) := by decide +kernel
theorem d_Island_howManyOfWorth_33 : decode b_Island_howManyOfWorth 33 = .ok (.goto (-29), 3) := by decide +kernel
theorem d_Island_howManyOfWorth_36 : decode b_Island_howManyOfWorth 36 = .ok (.iload_n 2, 1) := by decide +kernel
theorem d_Island_howManyOfWorth_37 : decode b_Island_howManyOfWorth 37 = .ok (.ireturn, 1) := by decide +kernel
noncomputable def f_Island_howManyOfWorth_L4 (z : Nat → Nat) (σ : Mm) (o : Nat) (v1 : Int32) (s4 : Int32 × Int32) : Option ((Int32 × Int32) ⊕ (Int32)) :=
  if (σ.1 (o + 1) 1) ≤ s4.2 then (
    some (.inr s4.1)
  ) else (
    (f_Row_at z σ (o + 5) s4.2).bind fun q20 =>
    if q20 < v1 then (
      mm_lt (s4.2 + (1 : Int32)) fun x30 =>
      some (.inl (s4.1, x30))
    ) else (
      mm_lt (s4.1 + (1 : Int32)) fun x27 =>
      mm_lt (s4.2 + (1 : Int32)) fun x30 =>
      some (.inl (x27, x30))
    )
  )
noncomputable def f_Island_howManyOfWorth (z : Nat → Nat) (σ : Mm) (o : Nat) (p1 : Int32) : Option (Int32) :=
  (mm_lp (f_Island_howManyOfWorth_L4 z σ o p1) ((0 : Int32), (0 : Int32))).bind (fun q4 =>
    some q4)
set_option maxHeartbeats 4000000 in
set_option maxRecDepth 100000 in
theorem c_Island_howManyOfWorth (l : Launch) {L : Ly} (hg : gd_ok L) {σ : Mm} {o : Nat} {p1 : Int32} (k_o_0 : ly_k L o = 2) {res : Int32} (hf0 : f_Island_howManyOfWorth (ly_z L) σ o p1 = some res) : CtI l y_Island_howManyOfWorth b_Island_howManyOfWorth 4 (some .int) rm_Island_howManyOfWorth L [.ref (ly_a L o), .int p1] σ res σ := by
  refine ct_i hg (by decide) (Nat.le_of_ble_eq_true rfl) ?_
  intro E A Q hE C hN
  subst hE
  have k_o_1 : ly_k L (o + 1) = 1 := gd_Island_surnames hg k_o_0
  have k_o_5 : ly_k L (o + 5) = 0 := gd_Island_worths hg k_o_0
  unfold f_Island_howManyOfWorth at hf0
  show GW E L A 4 0 0 Q σ 0 [(0, .ref (ly_a L o)), (1, .int p1)] []
  refine gw_iconst C (0 : Int32) d_Island_howManyOfWorth_0 (by decide) ?_
  refine gw_istore_n C [(2, .int (0 : Int32)), (0, .ref (ly_a L o)), (1, .int p1)] d_Island_howManyOfWorth_1 rfl (by decide) rfl ?_
  refine gw_iconst C (0 : Int32) d_Island_howManyOfWorth_2 (by decide) ?_
  refine gw_istore_n C [(3, .int (0 : Int32)), (2, .int (0 : Int32)), (0, .ref (ly_a L o)), (1, .int p1)] d_Island_howManyOfWorth_3 rfl (by decide) rfl ?_
  obtain ⟨q4, hq4, hf0⟩ := mx_bd hf0
  have hk4 : ∀ x9, q4 = x9 → GW E L A 4 0 0 Q σ 36 [(2, .int x9)] [] := by
    intro x9 hx9
    subst hx9
    refine gw_iload_n C 0 d_Island_howManyOfWorth_36 rfl rfl ?_
    exact en_ip hN hf0 d_Island_howManyOfWorth_37
  refine gw_sub [2, 3, 1, 0] (lv' := [(0, .ref (ly_a L o)), (1, .int p1), (2, .int (0 : Int32)), (3, .int (0 : Int32))]) rfl ?_
  refine mm_rule hq4 (P := fun (s4 : Int32 × Int32) => GW E L A 4 0 0 Q σ 4 [(0, .ref (ly_a L o)), (1, .int p1), (2, .int s4.1), (3, .int s4.2)] []) ?_
  intro s4 ih4 hx4 ⟨w4, hb4⟩
  have hf1 := hb4
  unfold f_Island_howManyOfWorth_L4 at hf1
  refine gw_iload_n C 3 d_Island_howManyOfWorth_4 rfl rfl ?_
  refine gw_aload_n C 0 d_Island_howManyOfWorth_5 rfl rfl ?_
  refine gw_getA C 0 d_Island_howManyOfWorth_6 k_o_0 (by decide) i_Island rfl rfl (by decide) qw_124 rfl rfl (o + 1) rfl ?_
  refine gw_getIN C 1 d_Island_howManyOfWorth_9 k_o_1 (by decide) i_Names rfl rfl (by decide) qw_114 rfl rfl ?_
  refine gw_icmp_ge C 36 d_Island_howManyOfWorth_12 (by decide) (fun hc => ?_) (fun hc => ?_)
  · replace hf1 := mx_t hc hf1
    exact gw_go [2] (hk4 s4.1 (hx4 _ (hb4.trans hf1.symm)).symm) rfl
  · replace hf1 := mx_f hc hf1
    refine gw_aload_n C 0 d_Island_howManyOfWorth_15 rfl rfl ?_
    refine gw_getA C 2 d_Island_howManyOfWorth_16 k_o_0 (by decide) i_Island rfl rfl (by decide) qw_137 rfl rfl (o + 5) rfl ?_
    refine gw_iload_n C 3 d_Island_howManyOfWorth_19 rfl rfl ?_
    obtain ⟨q20, hq20, hf1⟩ := mx_bd hf1
    refine gw_callI C (c_Row_at _ hg k_o_5 hq20) d_Island_howManyOfWorth_20 1 qw_618 qw_489 qw_490 qw_4 qw_491 k_o_5 (by decide) rfl hd_Row_at rfl rfl (Nat.le_of_ble_eq_true rfl) ⟨rfl, rfl, Nat.le_of_ble_eq_true rfl, Nat.le_of_ble_eq_true rfl⟩ ⟨Nat.zero_le _, Nat.zero_le _⟩ ?_
    refine gw_iload_n C 1 d_Island_howManyOfWorth_23 rfl rfl ?_
    refine gw_icmp_lt C 30 d_Island_howManyOfWorth_24 (by decide) (fun hc => ?_) (fun hc => ?_)
    · replace hf1 := mx_t hc hf1
      obtain ⟨x30, ex30, hf1⟩ := mx_lt hf1
      refine gw_iinc C 3 [(3, .int x30), (0, .ref (ly_a L o)), (1, .int p1), (2, .int s4.1)] d_Island_howManyOfWorth_30 rfl (by rw [ex30]; rfl) (by decide) rfl ?_
      refine gw_goto C 4 d_Island_howManyOfWorth_33 (by decide) ?_
      exact gw_go [1, 2, 3, 0] (ih4 (s4.1, x30) (hb4.trans hf1.symm)) rfl
    · replace hf1 := mx_f hc hf1
      obtain ⟨x27, ex27, hf1⟩ := mx_lt hf1
      refine gw_iinc C 2 [(2, .int x27), (0, .ref (ly_a L o)), (1, .int p1), (3, .int s4.2)] d_Island_howManyOfWorth_27 rfl (by rw [ex27]; rfl) (by decide) rfl ?_
      obtain ⟨x30, ex30, hf1⟩ := mx_lt hf1
      refine gw_iinc C 3 [(3, .int x30), (2, .int x27), (0, .ref (ly_a L o)), (1, .int p1)] d_Island_howManyOfWorth_30 rfl (by rw [ex30]; rfl) (by decide) rfl ?_
      refine gw_goto C 4 d_Island_howManyOfWorth_33 (by decide) ?_
      exact gw_go [2, 3, 1, 0] (ih4 (x27, x30) (hb4.trans hf1.symm)) rfl

/-! NameHat.luckyWays(II)J -/
abbrev b_Hat_luckyWays : ByteArray := prog_1_method_44_code
def y_Hat_luckyWays : MethodName := ⟨"NameHat", "luckyWays", "(II)J"⟩
abbrev rm_Hat_luckyWays : Room := { frames := 2, cells := 0, slots := 0, locals := 46 }
theorem hd_Hat_luckyWays : y_Hat_luckyWays.cls ≠ "java/lang/invoke/MethodHandle" ∧ y_Hat_luckyWays.cls ≠ "java/lang/invoke/VarHandle" ∧ (parseMethodDescriptor y_Hat_luckyWays.desc).map (fun d => d.parameters.length) = some 2 := by decide +kernel
theorem d_Hat_luckyWays_0 : decode b_Hat_luckyWays 0 = .ok (.aload_n 0, 1) := by decide +kernel
theorem d_Hat_luckyWays_1 : decode b_Hat_luckyWays 1 = .ok (.getfield 57, 3) := by decide +kernel
theorem d_Hat_luckyWays_4 : decode b_Hat_luckyWays 4 = .ok (.getfield 121, 3) := by decide +kernel
theorem d_Hat_luckyWays_7 : decode b_Hat_luckyWays 7 = .ok (.iload_n 2, 1) := by decide +kernel
theorem d_Hat_luckyWays_8 : decode b_Hat_luckyWays 8 = .ok (.invokevirtual 322, 3) := by decide +kernel
theorem d_Hat_luckyWays_11 : decode b_Hat_luckyWays 11 = .ok (.istore_n 3, 1) := by decide +kernel
theorem d_Hat_luckyWays_12 : decode b_Hat_luckyWays 12 = .ok (.aload_n 0, 1) := by decide +kernel
theorem d_Hat_luckyWays_13 : decode b_Hat_luckyWays 13 = .ok (.getfield 57, 3) := by decide +kernel
theorem d_Hat_luckyWays_16 : decode b_Hat_luckyWays 16 = .ok (.getfield 121, 3) := by decide +kernel
theorem d_Hat_luckyWays_19 : decode b_Hat_luckyWays 19 = .ok (.getfield 125, 3) := by decide +kernel
theorem d_Hat_luckyWays_22 : decode b_Hat_luckyWays 22 = .ok (.getfield 186, 3) := by decide +kernel
theorem d_Hat_luckyWays_25 : decode b_Hat_luckyWays 25 = .ok (.iload_n 3, 1) := by decide +kernel
theorem d_Hat_luckyWays_26 : decode b_Hat_luckyWays 26 = .ok (.isub, 1) := by decide +kernel
theorem d_Hat_luckyWays_27 : decode b_Hat_luckyWays 27 = .ok (.istore 4, 2) := by decide +kernel
theorem d_Hat_luckyWays_29 : decode b_Hat_luckyWays 29 = .ok (.iconst 0, 1) := by decide +kernel
theorem d_Hat_luckyWays_30 : decode b_Hat_luckyWays 30 = .ok (.istore 5, 2) := by decide +kernel
theorem d_Hat_luckyWays_32 : decode b_Hat_luckyWays 32 = .ok (.iload 5, 2) := by decide +kernel
theorem d_Hat_luckyWays_34 : decode b_Hat_luckyWays 34 = .ok (.aload_n 0, 1) := by decide +kernel
theorem d_Hat_luckyWays_35 : decode b_Hat_luckyWays 35 = .ok (.getfield 73, 3) := by decide +kernel
theorem d_Hat_luckyWays_38 : decode b_Hat_luckyWays 38 = .ok (.arraylength, 1) := by decide +kernel
theorem d_Hat_luckyWays_39 : decode b_Hat_luckyWays 39 = .ok (.if_icmp .ge 26, 3) := by decide +kernel
theorem d_Hat_luckyWays_42 : decode b_Hat_luckyWays 42 = .ok (.aload_n 0, 1) := by decide +kernel
theorem d_Hat_luckyWays_43 : decode b_Hat_luckyWays 43 = .ok (.getfield 73, 3) := by decide +kernel
theorem d_Hat_luckyWays_46 : decode b_Hat_luckyWays 46 = .ok (.iload 5, 2) := by decide +kernel
theorem d_Hat_luckyWays_48 : decode b_Hat_luckyWays 48 = .ok (.iload 5, 2) := by decide +kernel
theorem d_Hat_luckyWays_50 : decode b_Hat_luckyWays 50 = .ok (.ifCond .ne 7, 3) := by decide +kernel
theorem d_Hat_luckyWays_53 : decode b_Hat_luckyWays 53 = .ok (.lconst 1, 1) := by decide +kernel
theorem d_Hat_luckyWays_54 : decode b_Hat_luckyWays 54 = .ok (.goto 4, 3) := by decide +kernel
theorem d_Hat_luckyWays_57 : decode b_Hat_luckyWays 57 = .ok (.lconst 0, 1) := by decide +kernel
theorem d_Hat_luckyWays_58 : decode b_Hat_luckyWays 58 = .ok (.lastore, 1) := by decide +kernel
theorem d_Hat_luckyWays_59 : decode b_Hat_luckyWays 59 = .ok (.iinc 5 1, 3) := by decide +kernel
theorem d_Hat_luckyWays_62 : decode b_Hat_luckyWays 62 = .ok (.goto (-30), 3) := by decide +kernel
theorem d_Hat_luckyWays_65 : decode b_Hat_luckyWays 65 = .ok (.iconst 0, 1) := by decide +kernel
theorem d_Hat_luckyWays_66 : decode b_Hat_luckyWays 66 = .ok (.istore 5, 2) := by decide +kernel
theorem d_Hat_luckyWays_68 : decode b_Hat_luckyWays 68 = .ok (.iload 5, 2) := by decide +kernel
theorem d_Hat_luckyWays_70 : decode b_Hat_luckyWays 70 = .ok (.aload_n 0, 1) := by decide +kernel
theorem d_Hat_luckyWays_71 : decode b_Hat_luckyWays 71 = .ok (.getfield 57, 3) := by decide +kernel
theorem d_Hat_luckyWays_74 : decode b_Hat_luckyWays 74 = .ok (.getfield 183, 3) := by decide +kernel
theorem d_Hat_luckyWays_77 : decode b_Hat_luckyWays 77 = .ok (.if_icmp .ge 69, 3) := by decide +kernel
theorem d_Hat_luckyWays_80 : decode b_Hat_luckyWays 80 = .ok (.aload_n 0, 1) := by decide +kernel
theorem d_Hat_luckyWays_81 : decode b_Hat_luckyWays 81 = .ok (.getfield 73, 3) := by decide +kernel
theorem d_Hat_luckyWays_84 : decode b_Hat_luckyWays 84 = .ok (.arraylength, 1) := by decide +kernel
theorem d_Hat_luckyWays_85 : decode b_Hat_luckyWays 85 = .ok (.iconst 1, 1) := by decide +kernel
theorem d_Hat_luckyWays_86 : decode b_Hat_luckyWays 86 = .ok (.isub, 1) := by decide +kernel
theorem d_Hat_luckyWays_87 : decode b_Hat_luckyWays 87 = .ok (.istore 6, 2) := by decide +kernel
theorem d_Hat_luckyWays_89 : decode b_Hat_luckyWays 89 = .ok (.iload 6, 2) := by decide +kernel
theorem d_Hat_luckyWays_91 : decode b_Hat_luckyWays 91 = .ok (.ifCond .lt 49, 3) := by decide +kernel
theorem d_Hat_luckyWays_94 : decode b_Hat_luckyWays 94 = .ok (.aload_n 0, 1) := by decide +kernel
theorem d_Hat_luckyWays_95 : decode b_Hat_luckyWays 95 = .ok (.getfield 73, 3) := by decide +kernel
theorem d_Hat_luckyWays_98 : decode b_Hat_luckyWays 98 = .ok (.iload 6, 2) := by decide +kernel
theorem d_Hat_luckyWays_100 : decode b_Hat_luckyWays 100 = .ok (.aload_n 0, 1) := by decide +kernel
theorem d_Hat_luckyWays_101 : decode b_Hat_luckyWays 101 = .ok (.getfield 73, 3) := by decide +kernel
theorem d_Hat_luckyWays_104 : decode b_Hat_luckyWays 104 = .ok (.iload 6, 2) := by decide +kernel
theorem d_Hat_luckyWays_106 : decode b_Hat_luckyWays 106 = .ok (.laload, 1) := by decide +kernel
theorem d_Hat_luckyWays_107 : decode b_Hat_luckyWays 107 = .ok (.iload 4, 2) := by decide +kernel
theorem d_Hat_luckyWays_109 : decode b_Hat_luckyWays 109 = .ok (.i2l, 1) := by decide +kernel
theorem d_Hat_luckyWays_110 : decode b_Hat_luckyWays 110 = .ok (.lmul, 1) := by decide +kernel
theorem d_Hat_luckyWays_111 : decode b_Hat_luckyWays 111 = .ok (.iload 6, 2) := by decide +kernel
theorem d_Hat_luckyWays_113 : decode b_Hat_luckyWays 113 = .ok (.ifCond .le 18, 3) := by decide +kernel
theorem d_Hat_luckyWays_116 : decode b_Hat_luckyWays 116 = .ok (.aload_n 0, 1) := by decide +kernel
theorem d_Hat_luckyWays_117 : decode b_Hat_luckyWays 117 = .ok (.getfield 73, 3) := by decide +kernel
theorem d_Hat_luckyWays_120 : decode b_Hat_luckyWays 120 = .ok (.iload 6, 2) := by decide +kernel
theorem d_Hat_luckyWays_122 : decode b_Hat_luckyWays 122 = .ok (.iconst 1, 1) := by decide +kernel
theorem d_Hat_luckyWays_123 : decode b_Hat_luckyWays 123 = .ok (.isub, 1) := by decide +kernel
theorem d_Hat_luckyWays_124 : decode b_Hat_luckyWays 124 = .ok (.laload, 1) := by decide +kernel
theorem d_Hat_luckyWays_125 : decode b_Hat_luckyWays 125 = .ok (.iload_n 3, 1) := by decide +kernel
theorem d_Hat_luckyWays_126 : decode b_Hat_luckyWays 126 = .ok (.i2l, 1) := by decide +kernel
theorem d_Hat_luckyWays_127 : decode b_Hat_luckyWays 127 = .ok (.lmul, 1) := by decide +kernel
theorem d_Hat_luckyWays_128 : decode b_Hat_luckyWays 128 = .ok (.goto 4, 3) := by decide +kernel
theorem d_Hat_luckyWays_131 : decode b_Hat_luckyWays 131 = .ok (.lconst 0, 1) := by decide +kernel
theorem d_Hat_luckyWays_132 : decode b_Hat_luckyWays 132 = .ok (.ladd, 1) := by decide +kernel
theorem d_Hat_luckyWays_133 : decode b_Hat_luckyWays 133 = .ok (.lastore, 1) := by decide +kernel
theorem d_Hat_luckyWays_134 : decode b_Hat_luckyWays 134 = .ok (.iinc 6 (-1), 3) := by decide +kernel
theorem d_Hat_luckyWays_137 : decode b_Hat_luckyWays 137 = .ok (.goto (-48), 3) := by decide +kernel
theorem d_Hat_luckyWays_140 : decode b_Hat_luckyWays 140 = .ok (.iinc 5 1, 3) := by decide +kernel
theorem d_Hat_luckyWays_143 : decode b_Hat_luckyWays 143 = .ok (.goto (-75), 3) := by decide +kernel
theorem d_Hat_luckyWays_146 : decode b_Hat_luckyWays 146 = .ok (.lconst 0, 1) := by decide +kernel
theorem d_Hat_luckyWays_147 : decode b_Hat_luckyWays 147 = .ok (.lstore 5, 2) := by decide +kernel
theorem d_Hat_luckyWays_149 : decode b_Hat_luckyWays 149 = .ok (.aload_n 0, 1) := by decide +kernel
theorem d_Hat_luckyWays_150 : decode b_Hat_luckyWays 150 = .ok (.getfield 57, 3) := by decide +kernel
theorem d_Hat_luckyWays_153 : decode b_Hat_luckyWays 153 = .ok (.iload_n 1, 1) := by decide +kernel
theorem d_Hat_luckyWays_154 : decode b_Hat_luckyWays 154 = .ok (.iload_n 2, 1) := by decide +kernel
theorem d_Hat_luckyWays_155 : decode b_Hat_luckyWays 155 = .ok (.invokevirtual 311, 3) := by decide +kernel
theorem d_Hat_luckyWays_158 : decode b_Hat_luckyWays 158 = .ok (.istore 7, 2) := by decide +kernel
theorem d_Hat_luckyWays_160 : decode b_Hat_luckyWays 160 = .ok (.iload 7, 2) := by decide +kernel
theorem d_Hat_luckyWays_162 : decode b_Hat_luckyWays 162 = .ok (.ifCond .lt 31, 3) := by decide +kernel
theorem d_Hat_luckyWays_165 : decode b_Hat_luckyWays 165 = .ok (.iload 7, 2) := by decide +kernel
theorem d_Hat_luckyWays_167 : decode b_Hat_luckyWays 167 = .ok (.aload_n 0, 1) := by decide +kernel
theorem d_Hat_luckyWays_168 : decode b_Hat_luckyWays 168 = .ok (.getfield 73, 3) := by decide +kernel
theorem d_Hat_luckyWays_171 : decode b_Hat_luckyWays 171 = .ok (.arraylength, 1) := by decide +kernel
theorem d_Hat_luckyWays_172 : decode b_Hat_luckyWays 172 = .ok (.if_icmp .ge 21, 3) := by decide +kernel
theorem d_Hat_luckyWays_175 : decode b_Hat_luckyWays 175 = .ok (.lload 5, 2) := by decide +kernel
theorem d_Hat_luckyWays_177 : decode b_Hat_luckyWays 177 = .ok (.aload_n 0, 1) := by decide +kernel
theorem d_Hat_luckyWays_178 : decode b_Hat_luckyWays 178 = .ok (.getfield 73, 3) := by decide +kernel
theorem d_Hat_luckyWays_181 : decode b_Hat_luckyWays 181 = .ok (.iload 7, 2) := by decide +kernel
theorem d_Hat_luckyWays_183 : decode b_Hat_luckyWays 183 = .ok (.laload, 1) := by decide +kernel
theorem d_Hat_luckyWays_184 : decode b_Hat_luckyWays 184 = .ok (.ladd, 1) := by decide +kernel
theorem d_Hat_luckyWays_185 : decode b_Hat_luckyWays 185 = .ok (.lstore 5, 2) := by decide +kernel
theorem d_Hat_luckyWays_187 : decode b_Hat_luckyWays 187 = .ok (.iinc 7 1, 3) := by decide +kernel
theorem d_Hat_luckyWays_190 : decode b_Hat_luckyWays 190 = .ok (.goto (-30), 3) := by decide +kernel
theorem d_Hat_luckyWays_193 : decode b_Hat_luckyWays 193 = .ok (.lload 5, 2) := by decide +kernel
theorem d_Hat_luckyWays_195 : decode b_Hat_luckyWays 195 = .ok (.lreturn, 1) := by decide +kernel
noncomputable def f_Hat_luckyWays_L32 (z : Nat → Nat) (o : Nat) (v1 : Int32) (v2 : Int32) (v3 : Int32) (v4 : Int32) (s32 : Int32 × Mm) : Option ((Int32 × Mm) ⊕ (Mm)) :=
  if (nI (z (o + 168))) ≤ s32.1 then (
    some (.inr s32.2)
  ) else (
    if s32.1 = 0 then (
      (mm_stL s32.2 (o + 168) (z (o + 168)) s32.1 (1 : Int64)).bind fun m58 =>
      mm_lt (s32.1 + (1 : Int32)) fun x59 =>
      some (.inl (x59, m58))
    ) else (
      (mm_stL s32.2 (o + 168) (z (o + 168)) s32.1 (0 : Int64)).bind fun m58 =>
      mm_lt (s32.1 + (1 : Int32)) fun x59 =>
      some (.inl (x59, m58))
    )
  )
noncomputable def f_Hat_luckyWays_L89 (z : Nat → Nat) (o : Nat) (v1 : Int32) (v2 : Int32) (v3 : Int32) (v4 : Int32) (v5 : Int32) (s89 : Int32 × Mm) : Option ((Int32 × Mm) ⊕ (Mm)) :=
  if s89.1 < 0 then (
    some (.inr s89.2)
  ) else (
    (mm_ldL (s89.2.2 (o + 168)) (z (o + 168)) s89.1).bind fun x106 =>
    if s89.1 ≤ 0 then (
      (mm_stL s89.2 (o + 168) (z (o + 168)) s89.1 ((x106 * (Int32.toInt64 v4)) + (0 : Int64))).bind fun m133 =>
      mm_lt (s89.1 + ((-1) : Int32)) fun x134 =>
      some (.inl (x134, m133))
    ) else (
      (mm_ldL (s89.2.2 (o + 168)) (z (o + 168)) (s89.1 - (1 : Int32))).bind fun x124 =>
      (mm_stL s89.2 (o + 168) (z (o + 168)) s89.1 ((x106 * (Int32.toInt64 v4)) + (x124 * (Int32.toInt64 v3)))).bind fun m133 =>
      mm_lt (s89.1 + ((-1) : Int32)) fun x134 =>
      some (.inl (x134, m133))
    )
  )
noncomputable def f_Hat_luckyWays_L68 (z : Nat → Nat) (o : Nat) (v1 : Int32) (v2 : Int32) (v3 : Int32) (v4 : Int32) (s68 : Int32 × Mm) : Option ((Int32 × Mm) ⊕ (Mm)) :=
  if (s68.2.1 (o + 60) 2) ≤ s68.1 then (
    some (.inr s68.2)
  ) else (
    mm_lt (((nI (z (o + 168))) - (1 : Int32))) fun x87 =>
    (mm_lp (f_Hat_luckyWays_L89 z o v1 v2 v3 v4 s68.1) (x87, s68.2)).bind (fun q89 =>
      mm_lt (s68.1 + (1 : Int32)) fun x140 =>
      some (.inl (x140, q89)))
  )
noncomputable def f_Hat_luckyWays_L160 (z : Nat → Nat) (σ : Mm) (o : Nat) (s160 : Int64 × Int32) : Option ((Int64 × Int32) ⊕ (Int64)) :=
  if s160.2 < 0 then (
    some (.inr s160.1)
  ) else (
    if (nI (z (o + 168))) ≤ s160.2 then (
      some (.inr s160.1)
    ) else (
      (mm_ldL (σ.2 (o + 168)) (z (o + 168)) s160.2).bind fun x183 =>
      mm_lt ((s160.1 + x183)) fun x185 =>
      mm_lt (s160.2 + (1 : Int32)) fun x187 =>
      some (.inl (x185, x187))
    )
  )
noncomputable def f_Hat_luckyWays (z : Nat → Nat) (σ : Mm) (o : Nat) (p1 : Int32) (p2 : Int32) : Option (Int64 × Mm) :=
  (f_Island_howManyOfWorth z σ (o + 61) p2).bind fun q8 =>
  mm_lt (((σ.1 (o + 62) 1) - q8)) fun x27 =>
  (mm_lp (f_Hat_luckyWays_L32 z o p1 p2 q8 x27) ((0 : Int32), σ)).bind (fun q32 =>
    (mm_lp (f_Hat_luckyWays_L68 z o p1 p2 q8 x27) ((0 : Int32), q32)).bind (fun q68 =>
      (f_State_drewOfWorth z q68 (o + 60) p1 p2).bind fun q155 =>
      (mm_lp (f_Hat_luckyWays_L160 z q68 o) ((0 : Int64), q155)).bind (fun q160 =>
        some (q160, q68))))
set_option maxHeartbeats 4000000 in
set_option maxRecDepth 100000 in
theorem c_Hat_luckyWays (l : Launch) {L : Ly} (hg : gd_ok L) {σ : Mm} {o : Nat} {p1 : Int32} {p2 : Int32} (k_o_0 : ly_k L o = 10) {res : Int64 × Mm} (hf0 : f_Hat_luckyWays (ly_z L) σ o p1 p2 = some res) : CtL l y_Hat_luckyWays b_Hat_luckyWays 8 (some .long) rm_Hat_luckyWays L [.ref (ly_a L o), .int p1, .int p2] σ res.1 res.2 := by
  refine ct_l hg (by decide) (Nat.le_of_ble_eq_true rfl) ?_
  intro E A Q hE C hN
  subst hE
  have k_o_60 : ly_k L (o + 60) = 4 := gd_Hat_now hg k_o_0
  have k_o_61 : ly_k L (o + 61) = 2 := gd_State_island hg k_o_60
  have k_o_62 : ly_k L (o + 62) = 1 := gd_Island_surnames hg k_o_61
  have k_o_168 : ly_k L (o + 168) = 21 := gd_Hat_ways hg k_o_0
  unfold f_Hat_luckyWays at hf0
  show GW E L A 8 0 0 Q σ 0 [(0, .ref (ly_a L o)), (1, .int p1), (2, .int p2)] []
  refine gw_aload_n C 0 d_Hat_luckyWays_0 rfl rfl ?_
  refine gw_getA C 7 d_Hat_luckyWays_1 k_o_0 (by decide) i_Hat rfl rfl (by decide) qw_410 rfl rfl (o + 60) rfl ?_
  refine gw_getAN C 0 d_Hat_luckyWays_4 k_o_60 (by decide) i_State rfl rfl (by decide) qw_237 rfl rfl (o + 61) rfl ?_
  refine gw_iload_n C 2 d_Hat_luckyWays_7 rfl rfl ?_
  obtain ⟨q8, hq8, hf0⟩ := mx_bd hf0
  refine gw_callI C (c_Island_howManyOfWorth _ hg k_o_61 hq8) d_Hat_luckyWays_8 1 qw_965 qw_966 qw_967 qw_6 qw_968 k_o_61 (by decide) rfl hd_Island_howManyOfWorth rfl rfl (Nat.le_of_ble_eq_true rfl) ⟨rfl, rfl, Nat.le_of_ble_eq_true rfl, Nat.le_of_ble_eq_true rfl⟩ ⟨Nat.zero_le _, Nat.zero_le _⟩ ?_
  refine gw_istore_n C [(3, .int q8), (0, .ref (ly_a L o)), (1, .int p1), (2, .int p2)] d_Hat_luckyWays_11 rfl (by decide) rfl ?_
  refine gw_aload_n C 1 d_Hat_luckyWays_12 rfl rfl ?_
  refine gw_getA C 7 d_Hat_luckyWays_13 k_o_0 (by decide) i_Hat rfl rfl (by decide) qw_410 rfl rfl (o + 60) rfl ?_
  refine gw_getAN C 0 d_Hat_luckyWays_16 k_o_60 (by decide) i_State rfl rfl (by decide) qw_237 rfl rfl (o + 61) rfl ?_
  refine gw_getAN C 0 d_Hat_luckyWays_19 k_o_61 (by decide) i_Island rfl rfl (by decide) qw_128 rfl rfl (o + 62) rfl ?_
  refine gw_getIN C 1 d_Hat_luckyWays_22 k_o_62 (by decide) i_Names rfl rfl (by decide) qw_115 rfl rfl ?_
  refine gw_iload_n C 0 d_Hat_luckyWays_25 rfl rfl ?_
  refine gw_isub C d_Hat_luckyWays_26 ?_
  obtain ⟨x27, ex27, hf0⟩ := mx_lt hf0
  refine gw_topi ex27 ?_
  refine gw_istore C [(4, .int x27), (3, .int q8), (0, .ref (ly_a L o)), (1, .int p1), (2, .int p2)] d_Hat_luckyWays_27 (by decide) rfl ?_
  refine gw_iconst C (0 : Int32) d_Hat_luckyWays_29 (by decide) ?_
  refine gw_istore C [(5, .int (0 : Int32)), (4, .int x27), (3, .int q8), (0, .ref (ly_a L o)), (1, .int p1), (2, .int p2)] d_Hat_luckyWays_30 (by decide) rfl ?_
  obtain ⟨q32, hq32, hf0⟩ := mx_bd hf0
  have hk32 : ∀ x9, q32 = x9 → GW E L A 8 0 0 Q x9 65 [(0, .ref (ly_a L o)), (1, .int p1), (2, .int p2), (3, .int q8), (4, .int x27)] [] := by
    intro x9 hx9
    subst hx9
    refine gw_iconst C (0 : Int32) d_Hat_luckyWays_65 (by decide) ?_
    refine gw_istore C [(5, .int (0 : Int32)), (0, .ref (ly_a L o)), (1, .int p1), (2, .int p2), (3, .int q8), (4, .int x27)] d_Hat_luckyWays_66 (by decide) rfl ?_
    obtain ⟨q68, hq68, hf0⟩ := mx_bd hf0
    have hk68 : ∀ x9, q68 = x9 → GW E L A 8 0 0 Q x9 146 [(0, .ref (ly_a L o)), (1, .int p1), (2, .int p2)] [] := by
      intro x9 hx9
      subst hx9
      refine gw_lconst C (0 : Int64) d_Hat_luckyWays_146 (by decide) ?_
      refine gw_lstore C [(5, .long (0 : Int64)), (0, .ref (ly_a L o)), (1, .int p1), (2, .int p2)] d_Hat_luckyWays_147 (by decide) rfl ?_
      refine gw_aload_n C 1 d_Hat_luckyWays_149 rfl rfl ?_
      refine gw_getA C 7 d_Hat_luckyWays_150 k_o_0 (by decide) i_Hat rfl rfl (by decide) qw_410 rfl rfl (o + 60) rfl ?_
      refine gw_iload_n C 2 d_Hat_luckyWays_153 rfl rfl ?_
      refine gw_iload_n C 3 d_Hat_luckyWays_154 rfl rfl ?_
      obtain ⟨q155, hq155, hf0⟩ := mx_bd hf0
      refine gw_callI C (c_State_drewOfWorth _ hg k_o_60 hq155) d_Hat_luckyWays_155 2 qw_969 qw_970 qw_971 qw_5 qw_972 k_o_60 (by decide) rfl hd_State_drewOfWorth rfl rfl (Nat.le_of_ble_eq_true rfl) ⟨rfl, rfl, Nat.le_of_ble_eq_true rfl, Nat.le_of_ble_eq_true rfl⟩ ⟨Nat.zero_le _, Nat.zero_le _⟩ ?_
      refine gw_istore C [(7, .int q155), (5, .long (0 : Int64)), (0, .ref (ly_a L o)), (1, .int p1), (2, .int p2)] d_Hat_luckyWays_158 (by decide) rfl ?_
      obtain ⟨q160, hq160, hf0⟩ := mx_bd hf0
      have hk160 : ∀ x9, q160 = x9 → GW E L A 8 0 0 Q q68 193 [(5, .long x9)] [] := by
        intro x9 hx9
        subst hx9
        refine gw_lload C 0 d_Hat_luckyWays_193 rfl ?_
        exact en_l hN hf0 d_Hat_luckyWays_195
      refine gw_sub [2, 1, 0] (lv' := [(0, .ref (ly_a L o)), (5, .long (0 : Int64)), (7, .int q155)]) rfl ?_
      refine mm_rule hq160 (P := fun (s160 : Int64 × Int32) => GW E L A 8 0 0 Q q68 160 [(0, .ref (ly_a L o)), (5, .long s160.1), (7, .int s160.2)] []) ?_
      intro s160 ih160 hx160 ⟨w160, hb160⟩
      have hf1 := hb160
      unfold f_Hat_luckyWays_L160 at hf1
      refine gw_iload C 2 d_Hat_luckyWays_160 rfl ?_
      refine gw_if_lt C 193 d_Hat_luckyWays_162 (by decide) (fun hc => ?_) (fun hc => ?_)
      · replace hf1 := mx_t hc hf1
        exact gw_go [1] (hk160 s160.1 (hx160 _ (hb160.trans hf1.symm)).symm) rfl
      · replace hf1 := mx_f hc hf1
        refine gw_iload C 2 d_Hat_luckyWays_165 rfl ?_
        refine gw_aload_n C 0 d_Hat_luckyWays_167 rfl rfl ?_
        refine gw_getA C 15 d_Hat_luckyWays_168 k_o_0 (by decide) i_Hat rfl rfl (by decide) qw_418 rfl rfl (o + 168) rfl ?_
        refine gw_alen21 C d_Hat_luckyWays_171 k_o_168 ?_
        refine gw_icmp_ge C 193 d_Hat_luckyWays_172 (by decide) (fun hc => ?_) (fun hc => ?_)
        · replace hf1 := mx_t hc hf1
          exact gw_go [1] (hk160 s160.1 (hx160 _ (hb160.trans hf1.symm)).symm) rfl
        · replace hf1 := mx_f hc hf1
          refine gw_lload C 1 d_Hat_luckyWays_175 rfl ?_
          refine gw_aload_n C 0 d_Hat_luckyWays_177 rfl rfl ?_
          refine gw_getA C 15 d_Hat_luckyWays_178 k_o_0 (by decide) i_Hat rfl rfl (by decide) qw_418 rfl rfl (o + 168) rfl ?_
          refine gw_iload C 2 d_Hat_luckyWays_181 rfl ?_
          obtain ⟨x183, hx183, hf1⟩ := mx_bd hf1
          obtain ⟨gx183, ex183⟩ := mx_ldL hx183
          refine gw_lald C d_Hat_luckyWays_183 k_o_168 gx183 ex183 ?_
          refine gw_ladd C d_Hat_luckyWays_184 ?_
          obtain ⟨x185, ex185, hf1⟩ := mx_lt hf1
          refine gw_topl ex185 ?_
          refine gw_lstore C [(5, .long x185), (0, .ref (ly_a L o)), (7, .int s160.2)] d_Hat_luckyWays_185 (by decide) rfl ?_
          obtain ⟨x187, ex187, hf1⟩ := mx_lt hf1
          refine gw_iinc C 2 [(7, .int x187), (5, .long x185), (0, .ref (ly_a L o))] d_Hat_luckyWays_187 rfl (by rw [ex187]; rfl) (by decide) rfl ?_
          refine gw_goto C 160 d_Hat_luckyWays_190 (by decide) ?_
          exact gw_go [2, 1, 0] (ih160 (x185, x187) (hb160.trans hf1.symm)) rfl
    refine gw_sub [1, 2, 3, 4, 5, 0] (lv' := [(0, .ref (ly_a L o)), (1, .int p1), (2, .int p2), (3, .int q8), (4, .int x27), (5, .int (0 : Int32))]) rfl ?_
    refine mm_rule hq68 (P := fun (s68 : Int32 × Mm) => GW E L A 8 0 0 Q s68.2 68 [(0, .ref (ly_a L o)), (1, .int p1), (2, .int p2), (3, .int q8), (4, .int x27), (5, .int s68.1)] []) ?_
    intro s68 ih68 hx68 ⟨w68, hb68⟩
    have hf1 := hb68
    unfold f_Hat_luckyWays_L68 at hf1
    refine gw_iload C 5 d_Hat_luckyWays_68 rfl ?_
    refine gw_aload_n C 0 d_Hat_luckyWays_70 rfl rfl ?_
    refine gw_getA C 7 d_Hat_luckyWays_71 k_o_0 (by decide) i_Hat rfl rfl (by decide) qw_410 rfl rfl (o + 60) rfl ?_
    refine gw_getIN C 2 d_Hat_luckyWays_74 k_o_60 (by decide) i_State rfl rfl (by decide) qw_242 rfl rfl ?_
    refine gw_icmp_ge C 146 d_Hat_luckyWays_77 (by decide) (fun hc => ?_) (fun hc => ?_)
    · replace hf1 := mx_t hc hf1
      exact gw_go [0, 1, 2] (hk68 s68.2 (hx68 _ (hb68.trans hf1.symm)).symm) rfl
    · replace hf1 := mx_f hc hf1
      refine gw_aload_n C 0 d_Hat_luckyWays_80 rfl rfl ?_
      refine gw_getA C 15 d_Hat_luckyWays_81 k_o_0 (by decide) i_Hat rfl rfl (by decide) qw_418 rfl rfl (o + 168) rfl ?_
      refine gw_alen21 C d_Hat_luckyWays_84 k_o_168 ?_
      refine gw_iconst C (1 : Int32) d_Hat_luckyWays_85 (by decide) ?_
      refine gw_isub C d_Hat_luckyWays_86 ?_
      obtain ⟨x87, ex87, hf1⟩ := mx_lt hf1
      refine gw_topi ex87 ?_
      refine gw_istore C [(6, .int x87), (0, .ref (ly_a L o)), (1, .int p1), (2, .int p2), (3, .int q8), (4, .int x27), (5, .int s68.1)] d_Hat_luckyWays_87 (by decide) rfl ?_
      obtain ⟨q89, hq89, hf1⟩ := mx_bd hf1
      have hk89 : ∀ x9, q89 = x9 → GW E L A 8 0 0 Q x9 140 [(0, .ref (ly_a L o)), (1, .int p1), (2, .int p2), (3, .int q8), (4, .int x27), (5, .int s68.1)] [] := by
        intro x9 hx9
        subst hx9
        obtain ⟨x140, ex140, hf1⟩ := mx_lt hf1
        refine gw_iinc C 5 [(5, .int x140), (0, .ref (ly_a L o)), (1, .int p1), (2, .int p2), (3, .int q8), (4, .int x27)] d_Hat_luckyWays_140 rfl (by rw [ex140]; rfl) (by decide) rfl ?_
        refine gw_goto C 68 d_Hat_luckyWays_143 (by decide) ?_
        exact gw_go [1, 2, 3, 4, 5, 0] (ih68 (x140, q89) (hb68.trans hf1.symm)) rfl
      refine gw_sub [1, 2, 3, 4, 5, 6, 0] (lv' := [(0, .ref (ly_a L o)), (1, .int p1), (2, .int p2), (3, .int q8), (4, .int x27), (5, .int s68.1), (6, .int x87)]) rfl ?_
      refine mm_rule hq89 (P := fun (s89 : Int32 × Mm) => GW E L A 8 0 0 Q s89.2 89 [(0, .ref (ly_a L o)), (1, .int p1), (2, .int p2), (3, .int q8), (4, .int x27), (5, .int s68.1), (6, .int s89.1)] []) ?_
      intro s89 ih89 hx89 ⟨w89, hb89⟩
      have hf2 := hb89
      unfold f_Hat_luckyWays_L89 at hf2
      refine gw_iload C 6 d_Hat_luckyWays_89 rfl ?_
      refine gw_if_lt C 140 d_Hat_luckyWays_91 (by decide) (fun hc => ?_) (fun hc => ?_)
      · replace hf2 := mx_t hc hf2
        exact gw_go [0, 1, 2, 3, 4, 5] (hk89 s89.2 (hx89 _ (hb89.trans hf2.symm)).symm) rfl
      · replace hf2 := mx_f hc hf2
        refine gw_aload_n C 0 d_Hat_luckyWays_94 rfl rfl ?_
        refine gw_getA C 15 d_Hat_luckyWays_95 k_o_0 (by decide) i_Hat rfl rfl (by decide) qw_418 rfl rfl (o + 168) rfl ?_
        refine gw_iload C 6 d_Hat_luckyWays_98 rfl ?_
        refine gw_aload_n C 0 d_Hat_luckyWays_100 rfl rfl ?_
        refine gw_getA C 15 d_Hat_luckyWays_101 k_o_0 (by decide) i_Hat rfl rfl (by decide) qw_418 rfl rfl (o + 168) rfl ?_
        refine gw_iload C 6 d_Hat_luckyWays_104 rfl ?_
        obtain ⟨x106, hx106, hf2⟩ := mx_bd hf2
        obtain ⟨gx106, ex106⟩ := mx_ldL hx106
        refine gw_lald C d_Hat_luckyWays_106 k_o_168 gx106 ex106 ?_
        refine gw_iload C 4 d_Hat_luckyWays_107 rfl ?_
        refine gw_i2l C d_Hat_luckyWays_109 ?_
        refine gw_lmul C d_Hat_luckyWays_110 ?_
        refine gw_iload C 6 d_Hat_luckyWays_111 rfl ?_
        refine gw_if_le C 131 d_Hat_luckyWays_113 (by decide) (fun hc => ?_) (fun hc => ?_)
        · replace hf2 := mx_t hc hf2
          refine gw_lconst C (0 : Int64) d_Hat_luckyWays_131 (by decide) ?_
          refine gw_ladd C d_Hat_luckyWays_132 ?_
          obtain ⟨m133, hm133, hf2⟩ := mx_bd hf2
          obtain ⟨gm133, em133⟩ := mx_stL hm133
          refine gw_last C d_Hat_luckyWays_133 k_o_168 gm133 em133 ?_
          obtain ⟨x134, ex134, hf2⟩ := mx_lt hf2
          refine gw_iinc C 6 [(6, .int x134), (0, .ref (ly_a L o)), (1, .int p1), (2, .int p2), (3, .int q8), (4, .int x27), (5, .int s68.1)] d_Hat_luckyWays_134 rfl (by rw [ex134]; rfl) (by decide) rfl ?_
          refine gw_goto C 89 d_Hat_luckyWays_137 (by decide) ?_
          exact gw_go [1, 2, 3, 4, 5, 6, 0] (ih89 (x134, m133) (hb89.trans hf2.symm)) rfl
        · replace hf2 := mx_f hc hf2
          refine gw_aload_n C 0 d_Hat_luckyWays_116 rfl rfl ?_
          refine gw_getA C 15 d_Hat_luckyWays_117 k_o_0 (by decide) i_Hat rfl rfl (by decide) qw_418 rfl rfl (o + 168) rfl ?_
          refine gw_iload C 6 d_Hat_luckyWays_120 rfl ?_
          refine gw_iconst C (1 : Int32) d_Hat_luckyWays_122 (by decide) ?_
          refine gw_isub C d_Hat_luckyWays_123 ?_
          obtain ⟨x124, hx124, hf2⟩ := mx_bd hf2
          obtain ⟨gx124, ex124⟩ := mx_ldL hx124
          refine gw_lald C d_Hat_luckyWays_124 k_o_168 gx124 ex124 ?_
          refine gw_iload_n C 3 d_Hat_luckyWays_125 rfl rfl ?_
          refine gw_i2l C d_Hat_luckyWays_126 ?_
          refine gw_lmul C d_Hat_luckyWays_127 ?_
          refine gw_goto C 132 d_Hat_luckyWays_128 (by decide) ?_
          refine gw_ladd C d_Hat_luckyWays_132 ?_
          obtain ⟨m133, hm133, hf2⟩ := mx_bd hf2
          obtain ⟨gm133, em133⟩ := mx_stL hm133
          refine gw_last C d_Hat_luckyWays_133 k_o_168 gm133 em133 ?_
          obtain ⟨x134, ex134, hf2⟩ := mx_lt hf2
          refine gw_iinc C 6 [(6, .int x134), (0, .ref (ly_a L o)), (1, .int p1), (2, .int p2), (3, .int q8), (4, .int x27), (5, .int s68.1)] d_Hat_luckyWays_134 rfl (by rw [ex134]; rfl) (by decide) rfl ?_
          refine gw_goto C 89 d_Hat_luckyWays_137 (by decide) ?_
          exact gw_go [1, 2, 3, 4, 5, 6, 0] (ih89 (x134, m133) (hb89.trans hf2.symm)) rfl
  refine gw_sub [3, 4, 5, 2, 1, 0] (lv' := [(0, .ref (ly_a L o)), (1, .int p1), (2, .int p2), (3, .int q8), (4, .int x27), (5, .int (0 : Int32))]) rfl ?_
  refine mm_rule hq32 (P := fun (s32 : Int32 × Mm) => GW E L A 8 0 0 Q s32.2 32 [(0, .ref (ly_a L o)), (1, .int p1), (2, .int p2), (3, .int q8), (4, .int x27), (5, .int s32.1)] []) ?_
  intro s32 ih32 hx32 ⟨w32, hb32⟩
  have hf1 := hb32
  unfold f_Hat_luckyWays_L32 at hf1
  refine gw_iload C 5 d_Hat_luckyWays_32 rfl ?_
  refine gw_aload_n C 0 d_Hat_luckyWays_34 rfl rfl ?_
  refine gw_getA C 15 d_Hat_luckyWays_35 k_o_0 (by decide) i_Hat rfl rfl (by decide) qw_418 rfl rfl (o + 168) rfl ?_
  refine gw_alen21 C d_Hat_luckyWays_38 k_o_168 ?_
  refine gw_icmp_ge C 65 d_Hat_luckyWays_39 (by decide) (fun hc => ?_) (fun hc => ?_)
  · replace hf1 := mx_t hc hf1
    exact gw_go [0, 1, 2, 3, 4] (hk32 s32.2 (hx32 _ (hb32.trans hf1.symm)).symm) rfl
  · replace hf1 := mx_f hc hf1
    refine gw_aload_n C 0 d_Hat_luckyWays_42 rfl rfl ?_
    refine gw_getA C 15 d_Hat_luckyWays_43 k_o_0 (by decide) i_Hat rfl rfl (by decide) qw_418 rfl rfl (o + 168) rfl ?_
    refine gw_iload C 5 d_Hat_luckyWays_46 rfl ?_
    refine gw_iload C 5 d_Hat_luckyWays_48 rfl ?_
    refine gw_if_ne C 57 d_Hat_luckyWays_50 (by decide) (fun hc => ?_) (fun hc => ?_)
    · replace hf1 := mx_f hc hf1
      refine gw_lconst C (0 : Int64) d_Hat_luckyWays_57 (by decide) ?_
      obtain ⟨m58, hm58, hf1⟩ := mx_bd hf1
      obtain ⟨gm58, em58⟩ := mx_stL hm58
      refine gw_last C d_Hat_luckyWays_58 k_o_168 gm58 em58 ?_
      obtain ⟨x59, ex59, hf1⟩ := mx_lt hf1
      refine gw_iinc C 5 [(5, .int x59), (0, .ref (ly_a L o)), (1, .int p1), (2, .int p2), (3, .int q8), (4, .int x27)] d_Hat_luckyWays_59 rfl (by rw [ex59]; rfl) (by decide) rfl ?_
      refine gw_goto C 32 d_Hat_luckyWays_62 (by decide) ?_
      exact gw_go [1, 2, 3, 4, 5, 0] (ih32 (x59, m58) (hb32.trans hf1.symm)) rfl
    · replace hf1 := mx_t hc hf1
      refine gw_lconst C (1 : Int64) d_Hat_luckyWays_53 (by decide) ?_
      refine gw_goto C 58 d_Hat_luckyWays_54 (by decide) ?_
      obtain ⟨m58, hm58, hf1⟩ := mx_bd hf1
      obtain ⟨gm58, em58⟩ := mx_stL hm58
      refine gw_last C d_Hat_luckyWays_58 k_o_168 gm58 em58 ?_
      obtain ⟨x59, ex59, hf1⟩ := mx_lt hf1
      refine gw_iinc C 5 [(5, .int x59), (0, .ref (ly_a L o)), (1, .int p1), (2, .int p2), (3, .int q8), (4, .int x27)] d_Hat_luckyWays_59 rfl (by rw [ex59]; rfl) (by decide) rfl ?_
      refine gw_goto C 32 d_Hat_luckyWays_62 (by decide) ?_
      exact gw_go [1, 2, 3, 4, 5, 0] (ih32 (x59, m58) (hb32.trans hf1.symm)) rfl

/-! NameHat.allWays()J -/
abbrev b_Hat_allWays : ByteArray := prog_1_method_43_code
def y_Hat_allWays : MethodName := ⟨"NameHat", "allWays", "()J"⟩
abbrev rm_Hat_allWays : Room := { frames := 0, cells := 0, slots := 0, locals := 0 }
theorem hd_Hat_allWays : y_Hat_allWays.cls ≠ "java/lang/invoke/MethodHandle" ∧ y_Hat_allWays.cls ≠ "java/lang/invoke/VarHandle" ∧ (parseMethodDescriptor y_Hat_allWays.desc).map (fun d => d.parameters.length) = some 0 := by decide +kernel
theorem d_Hat_allWays_0 : decode b_Hat_allWays 0 = .ok (.lconst 1, 1) := by decide +kernel
theorem d_Hat_allWays_1 : decode b_Hat_allWays 1 = .ok (.lstore_n 1, 1) := by decide +kernel
theorem d_Hat_allWays_2 : decode b_Hat_allWays 2 = .ok (.iconst 0, 1) := by decide +kernel
theorem d_Hat_allWays_3 : decode b_Hat_allWays 3 = .ok (.istore_n 3, 1) := by decide +kernel
theorem d_Hat_allWays_4 : decode b_Hat_allWays 4 = .ok (.iload_n 3, 1) := by decide +kernel
theorem d_Hat_allWays_5 : decode b_Hat_allWays 5 = .ok (.aload_n 0, 1) := by decide +kernel
theorem d_Hat_allWays_6 : decode b_Hat_allWays 6 = .ok (.getfield 57, 3) := by decide +kernel
theorem d_Hat_allWays_9 : decode b_Hat_allWays 9 = .ok (.getfield 183, 3) := by decide +kernel
theorem d_Hat_allWays_12 : decode b_Hat_allWays 12 = .ok (.if_icmp .ge 32, 3) := by decide +kernel
theorem d_Hat_allWays_15 : decode b_Hat_allWays 15 = .ok (.iload_n 3, 1) := by decide +kernel
theorem d_Hat_allWays_16 : decode b_Hat_allWays 16 = .ok (.bipush 12, 2) := by decide +kernel
theorem d_Hat_allWays_18 : decode b_Hat_allWays 18 = .ok (.if_icmp .ge 26, 3) := by decide +kernel
theorem d_Hat_allWays_21 : decode b_Hat_allWays 21 = .ok (.lload_n 1, 1) := by decide +kernel
theorem d_Hat_allWays_22 : decode b_Hat_allWays 22 = .ok (.aload_n 0, 1) := by decide +kernel
theorem d_Hat_allWays_23 : decode b_Hat_allWays 23 = .ok (.getfield 57, 3) := by decide +kernel
theorem d_Hat_allWays_26 : decode b_Hat_allWays 26 = .ok (.getfield 121, 3) := by decide +kernel
theorem d_Hat_allWays_29 : decode b_Hat_allWays 29 = .ok (.getfield 125, 3) := by decide +kernel
theorem d_Hat_allWays_32 : decode b_Hat_allWays 32 = .ok (.getfield 186, 3) := by decide +kernel
theorem d_Hat_allWays_35 : decode b_Hat_allWays 35 = .ok (.i2l, 1) := by decide +kernel
theorem d_Hat_allWays_36 : decode b_Hat_allWays 36 = .ok (.lmul, 1) := by decide +kernel
theorem d_Hat_allWays_37 : decode b_Hat_allWays 37 = .ok (.lstore_n 1, 1) := by decide +kernel
theorem d_Hat_allWays_38 : decode b_Hat_allWays 38 = .ok (.iinc 3 1, 3) := by decide +kernel
theorem d_Hat_allWays_41 : decode b_Hat_allWays 41 = .ok (.goto (-37), 3) := by decide +kernel
theorem d_Hat_allWays_44 : decode b_Hat_allWays 44 = .ok (.lload_n 1, 1) := by decide +kernel
theorem d_Hat_allWays_45 : decode b_Hat_allWays 45 = .ok (.lreturn, 1) := by decide +kernel
noncomputable def f_Hat_allWays_L4 (z : Nat → Nat) (σ : Mm) (o : Nat) (s4 : Int64 × Int32) : Option ((Int64 × Int32) ⊕ (Int64)) :=
  if (σ.1 (o + 60) 2) ≤ s4.2 then (
    some (.inr s4.1)
  ) else (
    if (12 : Int32) ≤ s4.2 then (
      some (.inr s4.1)
    ) else (
      mm_lt ((s4.1 * (Int32.toInt64 (σ.1 (o + 62) 1)))) fun x37 =>
      mm_lt (s4.2 + (1 : Int32)) fun x38 =>
      some (.inl (x37, x38))
    )
  )
noncomputable def f_Hat_allWays (z : Nat → Nat) (σ : Mm) (o : Nat) : Option (Int64) :=
  (mm_lp (f_Hat_allWays_L4 z σ o) ((1 : Int64), (0 : Int32))).bind (fun q4 =>
    some q4)
set_option maxHeartbeats 4000000 in
set_option maxRecDepth 100000 in
theorem c_Hat_allWays (l : Launch) {L : Ly} (hg : gd_ok L) {σ : Mm} {o : Nat} (k_o_0 : ly_k L o = 10) {res : Int64} (hf0 : f_Hat_allWays (ly_z L) σ o = some res) : CtL l y_Hat_allWays b_Hat_allWays 4 (some .long) rm_Hat_allWays L [.ref (ly_a L o)] σ res σ := by
  refine ct_l hg (by decide) (Nat.le_of_ble_eq_true rfl) ?_
  intro E A Q hE C hN
  subst hE
  have k_o_60 : ly_k L (o + 60) = 4 := gd_Hat_now hg k_o_0
  have k_o_61 : ly_k L (o + 61) = 2 := gd_State_island hg k_o_60
  have k_o_62 : ly_k L (o + 62) = 1 := gd_Island_surnames hg k_o_61
  unfold f_Hat_allWays at hf0
  show GW E L A 4 0 0 Q σ 0 [(0, .ref (ly_a L o))] []
  refine gw_lconst C (1 : Int64) d_Hat_allWays_0 (by decide) ?_
  refine gw_lstore_n C [(1, .long (1 : Int64)), (0, .ref (ly_a L o))] d_Hat_allWays_1 rfl (by decide) rfl ?_
  refine gw_iconst C (0 : Int32) d_Hat_allWays_2 (by decide) ?_
  refine gw_istore_n C [(3, .int (0 : Int32)), (1, .long (1 : Int64)), (0, .ref (ly_a L o))] d_Hat_allWays_3 rfl (by decide) rfl ?_
  obtain ⟨q4, hq4, hf0⟩ := mx_bd hf0
  have hk4 : ∀ x9, q4 = x9 → GW E L A 4 0 0 Q σ 44 [(1, .long x9)] [] := by
    intro x9 hx9
    subst hx9
    refine gw_lload_n C 0 d_Hat_allWays_44 rfl rfl ?_
    exact en_lp hN hf0 d_Hat_allWays_45
  refine gw_sub [2, 1, 0] (lv' := [(0, .ref (ly_a L o)), (1, .long (1 : Int64)), (3, .int (0 : Int32))]) rfl ?_
  refine mm_rule hq4 (P := fun (s4 : Int64 × Int32) => GW E L A 4 0 0 Q σ 4 [(0, .ref (ly_a L o)), (1, .long s4.1), (3, .int s4.2)] []) ?_
  intro s4 ih4 hx4 ⟨w4, hb4⟩
  have hf1 := hb4
  unfold f_Hat_allWays_L4 at hf1
  refine gw_iload_n C 2 d_Hat_allWays_4 rfl rfl ?_
  refine gw_aload_n C 0 d_Hat_allWays_5 rfl rfl ?_
  refine gw_getA C 7 d_Hat_allWays_6 k_o_0 (by decide) i_Hat rfl rfl (by decide) qw_410 rfl rfl (o + 60) rfl ?_
  refine gw_getIN C 2 d_Hat_allWays_9 k_o_60 (by decide) i_State rfl rfl (by decide) qw_242 rfl rfl ?_
  refine gw_icmp_ge C 44 d_Hat_allWays_12 (by decide) (fun hc => ?_) (fun hc => ?_)
  · replace hf1 := mx_t hc hf1
    exact gw_go [1] (hk4 s4.1 (hx4 _ (hb4.trans hf1.symm)).symm) rfl
  · replace hf1 := mx_f hc hf1
    refine gw_iload_n C 2 d_Hat_allWays_15 rfl rfl ?_
    refine gw_bipush C (12 : Int32) d_Hat_allWays_16 (by decide) ?_
    refine gw_icmp_ge C 44 d_Hat_allWays_18 (by decide) (fun hc => ?_) (fun hc => ?_)
    · replace hf1 := mx_t hc hf1
      exact gw_go [1] (hk4 s4.1 (hx4 _ (hb4.trans hf1.symm)).symm) rfl
    · replace hf1 := mx_f hc hf1
      refine gw_lload_n C 1 d_Hat_allWays_21 rfl rfl ?_
      refine gw_aload_n C 0 d_Hat_allWays_22 rfl rfl ?_
      refine gw_getA C 7 d_Hat_allWays_23 k_o_0 (by decide) i_Hat rfl rfl (by decide) qw_410 rfl rfl (o + 60) rfl ?_
      refine gw_getAN C 0 d_Hat_allWays_26 k_o_60 (by decide) i_State rfl rfl (by decide) qw_237 rfl rfl (o + 61) rfl ?_
      refine gw_getAN C 0 d_Hat_allWays_29 k_o_61 (by decide) i_Island rfl rfl (by decide) qw_128 rfl rfl (o + 62) rfl ?_
      refine gw_getIN C 1 d_Hat_allWays_32 k_o_62 (by decide) i_Names rfl rfl (by decide) qw_115 rfl rfl ?_
      refine gw_i2l C d_Hat_allWays_35 ?_
      refine gw_lmul C d_Hat_allWays_36 ?_
      obtain ⟨x37, ex37, hf1⟩ := mx_lt hf1
      refine gw_topl ex37 ?_
      refine gw_lstore_n C [(1, .long x37), (0, .ref (ly_a L o)), (3, .int s4.2)] d_Hat_allWays_37 rfl (by decide) rfl ?_
      obtain ⟨x38, ex38, hf1⟩ := mx_lt hf1
      refine gw_iinc C 2 [(3, .int x38), (1, .long x37), (0, .ref (ly_a L o))] d_Hat_allWays_38 rfl (by rw [ex38]; rfl) (by decide) rfl ?_
      refine gw_goto C 4 d_Hat_allWays_41 (by decide) ?_
      exact gw_go [2, 1, 0] (ih4 (x37, x38) (hb4.trans hf1.symm)) rfl

/-! NameHat.unfair(IIII)I -/
abbrev b_Hat_unfair : ByteArray := prog_1_method_41_code
def y_Hat_unfair : MethodName := ⟨"NameHat", "unfair", "(IIII)I"⟩
abbrev rm_Hat_unfair : Room := { frames := 3, cells := 0, slots := 0, locals := 73 }
theorem hd_Hat_unfair : y_Hat_unfair.cls ≠ "java/lang/invoke/MethodHandle" ∧ y_Hat_unfair.cls ≠ "java/lang/invoke/VarHandle" ∧ (parseMethodDescriptor y_Hat_unfair.desc).map (fun d => d.parameters.length) = some 4 := by decide +kernel
theorem d_Hat_unfair_0 : decode b_Hat_unfair 0 = .ok (.aload_n 0, 1) := by decide +kernel
theorem d_Hat_unfair_1 : decode b_Hat_unfair 1 = .ok (.iload_n 1, 1) := by decide +kernel
theorem d_Hat_unfair_2 : decode b_Hat_unfair 2 = .ok (.iload_n 2, 1) := by decide +kernel
theorem d_Hat_unfair_3 : decode b_Hat_unfair 3 = .ok (.invokevirtual 305, 3) := by decide +kernel
theorem d_Hat_unfair_6 : decode b_Hat_unfair 6 = .ok (.ifCond .eq 28, 3) := by decide +kernel
theorem d_Hat_unfair_9 : decode b_Hat_unfair 9 = .ok (.iload_n 3, 1) := by decide +kernel
theorem d_Hat_unfair_10 : decode b_Hat_unfair 10 = .ok (.ifCond .lt 24, 3) := by decide +kernel
theorem d_Hat_unfair_13 : decode b_Hat_unfair 13 = .ok (.iload_n 3, 1) := by decide +kernel
theorem d_Hat_unfair_14 : decode b_Hat_unfair 14 = .ok (.sipush 999, 3) := by decide +kernel
theorem d_Hat_unfair_17 : decode b_Hat_unfair 17 = .ok (.if_icmp .gt 17, 3) := by decide +kernel
theorem d_Hat_unfair_20 : decode b_Hat_unfair 20 = .ok (.iload 4, 2) := by decide +kernel
theorem d_Hat_unfair_22 : decode b_Hat_unfair 22 = .ok (.iconst 1, 1) := by decide +kernel
theorem d_Hat_unfair_23 : decode b_Hat_unfair 23 = .ok (.if_icmp .lt 11, 3) := by decide +kernel
theorem d_Hat_unfair_26 : decode b_Hat_unfair 26 = .ok (.iload 4, 2) := by decide +kernel
theorem d_Hat_unfair_28 : decode b_Hat_unfair 28 = .ok (.sipush 999, 3) := by decide +kernel
theorem d_Hat_unfair_31 : decode b_Hat_unfair 31 = .ok (.if_icmp .le 5, 3) := by decide +kernel
theorem d_Hat_unfair_34 : decode b_Hat_unfair 34 = .ok (.iconst (-1), 1) := by decide +kernel
theorem d_Hat_unfair_35 : decode b_Hat_unfair 35 = .ok (.ireturn, 1) := by decide +kernel
theorem d_Hat_unfair_36 : decode b_Hat_unfair 36 = .ok (.aload_n 0, 1) := by decide +kernel
theorem d_Hat_unfair_37 : decode b_Hat_unfair 37 = .ok (.iload_n 1, 1) := by decide +kernel
theorem d_Hat_unfair_38 : decode b_Hat_unfair 38 = .ok (.iload_n 2, 1) := by decide +kernel
theorem d_Hat_unfair_39 : decode b_Hat_unfair 39 = .ok (.invokevirtual 314, 3) := by decide +kernel
theorem d_Hat_unfair_42 : decode b_Hat_unfair 42 = .ok (.iload 4, 2) := by decide +kernel
theorem d_Hat_unfair_44 : decode b_Hat_unfair 44 = .ok (.i2l, 1) := by decide +kernel
theorem d_Hat_unfair_45 : decode b_Hat_unfair 45 = .ok (.lmul, 1) := by decide +kernel
theorem d_Hat_unfair_46 : decode b_Hat_unfair 46 = .ok (.aload_n 0, 1) := by decide +kernel
theorem d_Hat_unfair_47 : decode b_Hat_unfair 47 = .ok (.invokevirtual 318, 3) := by decide +kernel
theorem d_Hat_unfair_50 : decode b_Hat_unfair 50 = .ok (.iload_n 3, 1) := by decide +kernel
theorem d_Hat_unfair_51 : decode b_Hat_unfair 51 = .ok (.i2l, 1) := by decide +kernel
theorem d_Hat_unfair_52 : decode b_Hat_unfair 52 = .ok (.lmul, 1) := by decide +kernel
theorem d_Hat_unfair_53 : decode b_Hat_unfair 53 = .ok (.lcmp, 1) := by decide +kernel
theorem d_Hat_unfair_54 : decode b_Hat_unfair 54 = .ok (.ifCond .gt 7, 3) := by decide +kernel
theorem d_Hat_unfair_57 : decode b_Hat_unfair 57 = .ok (.iconst 1, 1) := by decide +kernel
theorem d_Hat_unfair_58 : decode b_Hat_unfair 58 = .ok (.goto 4, 3) := by decide +kernel
theorem d_Hat_unfair_61 : decode b_Hat_unfair 61 = .ok (.iconst 0, 1) := by decide +kernel
theorem d_Hat_unfair_62 : decode b_Hat_unfair 62 = .ok (.ireturn, 1) := by decide +kernel
noncomputable def f_Hat_unfair (z : Nat → Nat) (σ : Mm) (o : Nat) (p1 : Int32) (p2 : Int32) (p3 : Int32) (p4 : Int32) : Option (Int32 × Mm) :=
  (f_Hat_tellsLuck z σ o p1 p2).bind fun q3 =>
  if q3 = 0 then (
    some (((-1) : Int32), σ)
  ) else (
    if p3 < 0 then (
      some (((-1) : Int32), σ)
    ) else (
      if (999 : Int32) < p3 then (
        some (((-1) : Int32), σ)
      ) else (
        if p4 < (1 : Int32) then (
          some (((-1) : Int32), σ)
        ) else (
          if p4 ≤ (999 : Int32) then (
            (f_Hat_luckyWays z σ o p1 p2).bind fun q39 =>
            (f_Hat_allWays z q39.2 o).bind fun q47 =>
            if 0 < (lg_cmp (q39.1 * (Int32.toInt64 p4)) (q47 * (Int32.toInt64 p3))) then (
              some ((0 : Int32), q39.2)
            ) else (
              some ((1 : Int32), q39.2)
            )
          ) else (
            some (((-1) : Int32), σ)
          )
        )
      )
    )
  )
set_option maxHeartbeats 4000000 in
set_option maxRecDepth 100000 in
theorem c_Hat_unfair (l : Launch) {L : Ly} (hg : gd_ok L) {σ : Mm} {o : Nat} {p1 : Int32} {p2 : Int32} {p3 : Int32} {p4 : Int32} (k_o_0 : ly_k L o = 10) {res : Int32 × Mm} (hf0 : f_Hat_unfair (ly_z L) σ o p1 p2 p3 p4 = some res) : CtI l y_Hat_unfair b_Hat_unfair 5 (some .int) rm_Hat_unfair L [.ref (ly_a L o), .int p1, .int p2, .int p3, .int p4] σ res.1 res.2 := by
  refine ct_i hg (by decide) (Nat.le_of_ble_eq_true rfl) ?_
  intro E A Q hE C hN
  subst hE
  unfold f_Hat_unfair at hf0
  show GW E L A 5 0 0 Q σ 0 [(0, .ref (ly_a L o)), (1, .int p1), (2, .int p2), (3, .int p3), (4, .int p4)] []
  refine gw_aload_n C 0 d_Hat_unfair_0 rfl rfl ?_
  refine gw_iload_n C 1 d_Hat_unfair_1 rfl rfl ?_
  refine gw_iload_n C 2 d_Hat_unfair_2 rfl rfl ?_
  obtain ⟨q3, hq3, hf0⟩ := mx_bd hf0
  refine gw_callI C (c_Hat_tellsLuck _ hg k_o_0 hq3) d_Hat_unfair_3 2 qw_957 qw_959 qs_30 qw_1 qw_960 k_o_0 (by decide) rfl hd_Hat_tellsLuck rfl rfl (Nat.le_of_ble_eq_true rfl) ⟨rfl, rfl, Nat.le_of_ble_eq_true rfl, Nat.le_of_ble_eq_true rfl⟩ ⟨Nat.zero_le _, Nat.zero_le _⟩ ?_
  refine gw_if_eq C 34 d_Hat_unfair_6 (by decide) (fun hc => ?_) (fun hc => ?_)
  · replace hf0 := mx_t hc hf0
    refine gw_iconst C ((-1) : Int32) d_Hat_unfair_34 (by decide) ?_
    exact en_i hN hf0 d_Hat_unfair_35
  · replace hf0 := mx_f hc hf0
    refine gw_iload_n C 3 d_Hat_unfair_9 rfl rfl ?_
    refine gw_if_lt C 34 d_Hat_unfair_10 (by decide) (fun hc => ?_) (fun hc => ?_)
    · replace hf0 := mx_t hc hf0
      refine gw_iconst C ((-1) : Int32) d_Hat_unfair_34 (by decide) ?_
      exact en_i hN hf0 d_Hat_unfair_35
    · replace hf0 := mx_f hc hf0
      refine gw_iload_n C 3 d_Hat_unfair_13 rfl rfl ?_
      refine gw_sipush C (999 : Int32) d_Hat_unfair_14 (by decide) ?_
      refine gw_icmp_gt C 34 d_Hat_unfair_17 (by decide) (fun hc => ?_) (fun hc => ?_)
      · replace hf0 := mx_t hc hf0
        refine gw_iconst C ((-1) : Int32) d_Hat_unfair_34 (by decide) ?_
        exact en_i hN hf0 d_Hat_unfair_35
      · replace hf0 := mx_f hc hf0
        refine gw_iload C 4 d_Hat_unfair_20 rfl ?_
        refine gw_iconst C (1 : Int32) d_Hat_unfair_22 (by decide) ?_
        refine gw_icmp_lt C 34 d_Hat_unfair_23 (by decide) (fun hc => ?_) (fun hc => ?_)
        · replace hf0 := mx_t hc hf0
          refine gw_iconst C ((-1) : Int32) d_Hat_unfair_34 (by decide) ?_
          exact en_i hN hf0 d_Hat_unfair_35
        · replace hf0 := mx_f hc hf0
          refine gw_iload C 4 d_Hat_unfair_26 rfl ?_
          refine gw_sipush C (999 : Int32) d_Hat_unfair_28 (by decide) ?_
          refine gw_icmp_le C 36 d_Hat_unfair_31 (by decide) (fun hc => ?_) (fun hc => ?_)
          · replace hf0 := mx_t hc hf0
            refine gw_aload_n C 0 d_Hat_unfair_36 rfl rfl ?_
            refine gw_iload_n C 1 d_Hat_unfair_37 rfl rfl ?_
            refine gw_iload_n C 2 d_Hat_unfair_38 rfl rfl ?_
            obtain ⟨q39, hq39, hf0⟩ := mx_bd hf0
            refine gw_callL C (c_Hat_luckyWays _ hg k_o_0 hq39) d_Hat_unfair_39 2 qw_961 qw_963 qs_31 qw_1 qw_964 k_o_0 (by decide) rfl hd_Hat_luckyWays rfl rfl (Nat.le_of_ble_eq_true rfl) ⟨rfl, rfl, Nat.le_of_ble_eq_true rfl, Nat.le_of_ble_eq_true rfl⟩ ⟨Nat.zero_le _, Nat.zero_le _⟩ ?_
            refine gw_iload C 4 d_Hat_unfair_42 rfl ?_
            refine gw_i2l C d_Hat_unfair_44 ?_
            refine gw_lmul C d_Hat_unfair_45 ?_
            refine gw_aload_n C 0 d_Hat_unfair_46 rfl rfl ?_
            obtain ⟨q47, hq47, hf0⟩ := mx_bd hf0
            refine gw_callL C (c_Hat_allWays _ hg k_o_0 hq47) d_Hat_unfair_47 0 qw_973 qw_975 qs_32 qw_1 qw_976 k_o_0 (by decide) rfl hd_Hat_allWays rfl rfl (Nat.le_of_ble_eq_true rfl) ⟨rfl, rfl, Nat.le_of_ble_eq_true rfl, Nat.le_of_ble_eq_true rfl⟩ ⟨Nat.zero_le _, Nat.zero_le _⟩ ?_
            refine gw_iload_n C 3 d_Hat_unfair_50 rfl rfl ?_
            refine gw_i2l C d_Hat_unfair_51 ?_
            refine gw_lmul C d_Hat_unfair_52 ?_
            refine gw_lcmp C d_Hat_unfair_53 ?_
            refine gw_if_gt C 61 d_Hat_unfair_54 (by decide) (fun hc => ?_) (fun hc => ?_)
            · replace hf0 := mx_t hc hf0
              refine gw_iconst C (0 : Int32) d_Hat_unfair_61 (by decide) ?_
              exact en_i hN hf0 d_Hat_unfair_62
            · replace hf0 := mx_f hc hf0
              refine gw_iconst C (1 : Int32) d_Hat_unfair_57 (by decide) ?_
              refine gw_goto C 62 d_Hat_unfair_58 (by decide) ?_
              exact en_i hN hf0 d_Hat_unfair_62
          · replace hf0 := mx_f hc hf0
            refine gw_iconst C ((-1) : Int32) d_Hat_unfair_34 (by decide) ?_
            exact en_i hN hf0 d_Hat_unfair_35

/-! NameHat.image(I)Z -/
abbrev b_Hat_image : ByteArray := prog_1_method_45_code
def y_Hat_image : MethodName := ⟨"NameHat", "image", "(I)Z"⟩
abbrev rm_Hat_image : Room := { frames := 3, cells := 0, slots := 0, locals := 64 }
theorem hd_Hat_image : y_Hat_image.cls ≠ "java/lang/invoke/MethodHandle" ∧ y_Hat_image.cls ≠ "java/lang/invoke/VarHandle" ∧ (parseMethodDescriptor y_Hat_image.desc).map (fun d => d.parameters.length) = some 1 := by decide +kernel
theorem d_Hat_image_0 : decode b_Hat_image 0 = .ok (.iload_n 1, 1) := by decide +kernel
theorem d_Hat_image_1 : decode b_Hat_image 1 = .ok (.ifCond .ne 22, 3) := by decide +kernel
theorem d_Hat_image_4 : decode b_Hat_image 4 = .ok (.aload_n 0, 1) := by decide +kernel
theorem d_Hat_image_5 : decode b_Hat_image 5 = .ok (.getfield 60, 3) := by decide +kernel
theorem d_Hat_image_8 : decode b_Hat_image 8 = .ok (.aload_n 0, 1) := by decide +kernel
theorem d_Hat_image_9 : decode b_Hat_image 9 = .ok (.getfield 57, 3) := by decide +kernel
theorem d_Hat_image_12 : decode b_Hat_image 12 = .ok (.invokevirtual 102, 3) := by decide +kernel
theorem d_Hat_image_15 : decode b_Hat_image 15 = .ok (.aload_n 0, 1) := by decide +kernel
theorem d_Hat_image_16 : decode b_Hat_image 16 = .ok (.iconst 1, 1) := by decide +kernel
theorem d_Hat_image_17 : decode b_Hat_image 17 = .ok (.putfield 325, 3) := by decide +kernel
theorem d_Hat_image_20 : decode b_Hat_image 20 = .ok (.goto 24, 3) := by decide +kernel
theorem d_Hat_image_23 : decode b_Hat_image 23 = .ok (.iload_n 1, 1) := by decide +kernel
theorem d_Hat_image_24 : decode b_Hat_image 24 = .ok (.iconst 1, 1) := by decide +kernel
theorem d_Hat_image_25 : decode b_Hat_image 25 = .ok (.if_icmp .ne 19, 3) := by decide +kernel
theorem d_Hat_image_28 : decode b_Hat_image 28 = .ok (.aload_n 0, 1) := by decide +kernel
theorem d_Hat_image_29 : decode b_Hat_image 29 = .ok (.getfield 63, 3) := by decide +kernel
theorem d_Hat_image_32 : decode b_Hat_image 32 = .ok (.aload_n 0, 1) := by decide +kernel
theorem d_Hat_image_33 : decode b_Hat_image 33 = .ok (.getfield 57, 3) := by decide +kernel
theorem d_Hat_image_36 : decode b_Hat_image 36 = .ok (.invokevirtual 102, 3) := by decide +kernel
theorem d_Hat_image_39 : decode b_Hat_image 39 = .ok (.aload_n 0, 1) := by decide +kernel
theorem d_Hat_image_40 : decode b_Hat_image 40 = .ok (.iconst 1, 1) := by decide +kernel
theorem d_Hat_image_41 : decode b_Hat_image 41 = .ok (.putfield 328, 3) := by decide +kernel
theorem d_Hat_image_44 : decode b_Hat_image 44 = .ok (.iload_n 1, 1) := by decide +kernel
theorem d_Hat_image_45 : decode b_Hat_image 45 = .ok (.ifCond .eq 8, 3) := by decide +kernel
theorem d_Hat_image_48 : decode b_Hat_image 48 = .ok (.iload_n 1, 1) := by decide +kernel
theorem d_Hat_image_49 : decode b_Hat_image 49 = .ok (.iconst 1, 1) := by decide +kernel
theorem d_Hat_image_50 : decode b_Hat_image 50 = .ok (.if_icmp .ne 7, 3) := by decide +kernel
theorem d_Hat_image_53 : decode b_Hat_image 53 = .ok (.iconst 1, 1) := by decide +kernel
theorem d_Hat_image_54 : decode b_Hat_image 54 = .ok (.goto 4, 3) := by decide +kernel
theorem d_Hat_image_57 : decode b_Hat_image 57 = .ok (.iconst 0, 1) := by decide +kernel
theorem d_Hat_image_58 : decode b_Hat_image 58 = .ok (.ireturn, 1) := by decide +kernel
noncomputable def f_Hat_image_J44 (z : Nat → Nat) (o : Nat) (v1 : Int32) (m44 : Mm) : Option (Int32 × Mm) :=
  if v1 = 0 then (
    some ((1 : Int32), m44)
  ) else (
    if v1 = (1 : Int32) then (
      some ((1 : Int32), m44)
    ) else (
      some ((0 : Int32), m44)
    )
  )
noncomputable def f_Hat_image (z : Nat → Nat) (σ : Mm) (o : Nat) (p1 : Int32) : Option (Int32 × Mm) :=
  if p1 = 0 then (
    (f_State_copyFrom z σ (o + 95) (o + 60)).bind fun q12 =>
    mm_lt (kI q12 o 11 (1 : Int32)) fun m17 =>
    f_Hat_image_J44 z o p1 m17
  ) else (
    if p1 = (1 : Int32) then (
      (f_State_copyFrom z σ (o + 130) (o + 60)).bind fun q36 =>
      mm_lt (kI q36 o 12 (1 : Int32)) fun m41 =>
      f_Hat_image_J44 z o p1 m41
    ) else (
      f_Hat_image_J44 z o p1 σ
    )
  )
set_option maxHeartbeats 4000000 in
set_option maxRecDepth 100000 in
theorem c_Hat_image (l : Launch) {L : Ly} (hg : gd_ok L) {σ : Mm} {o : Nat} {p1 : Int32} (k_o_0 : ly_k L o = 10) {res : Int32 × Mm} (hf0 : f_Hat_image (ly_z L) σ o p1 = some res) : CtI l y_Hat_image b_Hat_image 2 (some .boolean) rm_Hat_image L [.ref (ly_a L o), .int p1] σ res.1 res.2 := by
  refine ct_z hg (by decide) (Nat.le_of_ble_eq_true rfl) ?_
  intro E A Q hE C hN
  subst hE
  have k_o_130 : ly_k L (o + 130) = 4 := gd_Hat_secondImage hg k_o_0
  have k_o_60 : ly_k L (o + 60) = 4 := gd_Hat_now hg k_o_0
  have k_o_95 : ly_k L (o + 95) = 4 := gd_Hat_firstImage hg k_o_0
  unfold f_Hat_image at hf0
  show GW E L A 2 0 0 Q σ 0 [(0, .ref (ly_a L o)), (1, .int p1)] []
  have hj44 : ∀ (v1 : Int32) (m44 : Mm), f_Hat_image_J44 (ly_z L) o v1 m44 = some res → GW E L A 2 0 0 Q m44 44 [(1, .int v1)] [] := by
    intro v1 m44 hf0
    unfold f_Hat_image_J44 at hf0
    refine gw_iload_n C 0 d_Hat_image_44 rfl rfl ?_
    refine gw_if_eq C 53 d_Hat_image_45 (by decide) (fun hc => ?_) (fun hc => ?_)
    · replace hf0 := mx_t hc hf0
      refine gw_iconst C (1 : Int32) d_Hat_image_53 (by decide) ?_
      refine gw_goto C 58 d_Hat_image_54 (by decide) ?_
      exact en_z hN (Or.inr rfl) hf0 d_Hat_image_58
    · replace hf0 := mx_f hc hf0
      refine gw_iload_n C 0 d_Hat_image_48 rfl rfl ?_
      refine gw_iconst C (1 : Int32) d_Hat_image_49 (by decide) ?_
      refine gw_icmp_ne C 57 d_Hat_image_50 (by decide) (fun hc => ?_) (fun hc => ?_)
      · replace hf0 := mx_f hc hf0
        refine gw_iconst C (0 : Int32) d_Hat_image_57 (by decide) ?_
        exact en_z hN (Or.inl rfl) hf0 d_Hat_image_58
      · replace hf0 := mx_t hc hf0
        refine gw_iconst C (1 : Int32) d_Hat_image_53 (by decide) ?_
        refine gw_goto C 58 d_Hat_image_54 (by decide) ?_
        exact en_z hN (Or.inr rfl) hf0 d_Hat_image_58
  refine gw_iload_n C 1 d_Hat_image_0 rfl rfl ?_
  refine gw_if_ne C 23 d_Hat_image_1 (by decide) (fun hc => ?_) (fun hc => ?_)
  · replace hf0 := mx_f hc hf0
    refine gw_iload_n C 1 d_Hat_image_23 rfl rfl ?_
    refine gw_iconst C (1 : Int32) d_Hat_image_24 (by decide) ?_
    refine gw_icmp_ne C 44 d_Hat_image_25 (by decide) (fun hc => ?_) (fun hc => ?_)
    · replace hf0 := mx_f hc hf0
      exact gw_go [1] (hj44 _ _ hf0) rfl
    · replace hf0 := mx_t hc hf0
      refine gw_aload_n C 0 d_Hat_image_28 rfl rfl ?_
      refine gw_getA C 10 d_Hat_image_29 k_o_0 (by decide) i_Hat rfl rfl (by decide) qw_413 rfl rfl (o + 130) rfl ?_
      refine gw_aload_n C 0 d_Hat_image_32 rfl rfl ?_
      refine gw_getA C 7 d_Hat_image_33 k_o_0 (by decide) i_Hat rfl rfl (by decide) qw_410 rfl rfl (o + 60) rfl ?_
      obtain ⟨q36, hq36, hf0⟩ := mx_bd hf0
      refine gw_callV C (c_State_copyFrom _ hg k_o_130 k_o_60 hq36) d_Hat_image_36 1 qw_669 qw_670 qw_671 qw_5 qw_672 k_o_130 (by decide) rfl hd_State_copyFrom rfl rfl (Nat.le_of_ble_eq_true rfl) ⟨rfl, rfl, Nat.le_of_ble_eq_true rfl, Nat.le_of_ble_eq_true rfl⟩ ⟨Nat.zero_le _, Nat.zero_le _⟩ ?_
      refine gw_aload_n C 0 d_Hat_image_39 rfl rfl ?_
      refine gw_iconst C (1 : Int32) d_Hat_image_40 (by decide) ?_
      obtain ⟨m41, em41, hf0⟩ := mx_lt hf0
      refine gw_putI t_Hat C 12 d_Hat_image_41 k_o_0 (by decide) i_Hat rfl rfl (by decide) qw_415 rfl rfl t_Hat_ok n_Hat rfl (t_Hat_ok 12 (by decide)) rfl rfl em41 ?_
      exact gw_go [1] (hj44 _ _ hf0) rfl
  · replace hf0 := mx_t hc hf0
    refine gw_aload_n C 0 d_Hat_image_4 rfl rfl ?_
    refine gw_getA C 9 d_Hat_image_5 k_o_0 (by decide) i_Hat rfl rfl (by decide) qw_412 rfl rfl (o + 95) rfl ?_
    refine gw_aload_n C 0 d_Hat_image_8 rfl rfl ?_
    refine gw_getA C 7 d_Hat_image_9 k_o_0 (by decide) i_Hat rfl rfl (by decide) qw_410 rfl rfl (o + 60) rfl ?_
    obtain ⟨q12, hq12, hf0⟩ := mx_bd hf0
    refine gw_callV C (c_State_copyFrom _ hg k_o_95 k_o_60 hq12) d_Hat_image_12 1 qw_669 qw_670 qw_671 qw_5 qw_672 k_o_95 (by decide) rfl hd_State_copyFrom rfl rfl (Nat.le_of_ble_eq_true rfl) ⟨rfl, rfl, Nat.le_of_ble_eq_true rfl, Nat.le_of_ble_eq_true rfl⟩ ⟨Nat.zero_le _, Nat.zero_le _⟩ ?_
    refine gw_aload_n C 0 d_Hat_image_15 rfl rfl ?_
    refine gw_iconst C (1 : Int32) d_Hat_image_16 (by decide) ?_
    obtain ⟨m17, em17, hf0⟩ := mx_lt hf0
    refine gw_putI t_Hat C 11 d_Hat_image_17 k_o_0 (by decide) i_Hat rfl rfl (by decide) qw_414 rfl rfl t_Hat_ok n_Hat rfl (t_Hat_ok 11 (by decide)) rfl rfl em17 ?_
    refine gw_goto C 44 d_Hat_image_20 (by decide) ?_
    exact gw_go [1] (hj44 _ _ hf0) rfl
