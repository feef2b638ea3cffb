/-! NameHat.Hands.tradeAll(LNameHat.Island;)I -/
abbrev b_Hands_tradeAll : ByteArray := prog_3_method_12_code
def y_Hands_tradeAll : MethodName := ⟨"NameHat$Hands", "tradeAll", "(LNameHat$Island;)I"⟩
abbrev rm_Hands_tradeAll : Room := { frames := 4, cells := 0, slots := 0, locals := 93 }
theorem hd_Hands_tradeAll : y_Hands_tradeAll.cls ≠ "java/lang/invoke/MethodHandle" ∧ y_Hands_tradeAll.cls ≠ "java/lang/invoke/VarHandle" ∧ (parseMethodDescriptor y_Hands_tradeAll.desc).map (fun d => d.parameters.length) = some 1 := by decide +kernel
theorem d_Hands_tradeAll_0 : decode b_Hands_tradeAll 0 = .ok (.iconst 0, 1) := by decide +kernel
theorem d_Hands_tradeAll_1 : decode b_Hands_tradeAll 1 = .ok (.istore_n 2, 1) := by decide +kernel
theorem d_Hands_tradeAll_2 : decode b_Hands_tradeAll 2 = .ok (.iconst 0, 1) := by decide +kernel
theorem d_Hands_tradeAll_3 : decode b_Hands_tradeAll 3 = .ok (.istore_n 3, 1) := by decide +kernel
theorem d_Hands_tradeAll_4 : decode b_Hands_tradeAll 4 = .ok (.iload_n 3, 1) := by decide +kernel
theorem d_Hands_tradeAll_5 : decode b_Hands_tradeAll 5 = .ok (.aload_n 1, 1) := by decide +kernel
theorem d_Hands_tradeAll_6 : decode b_Hands_tradeAll 6 = .ok (.getfield 46, 3) := by decide +kernel
theorem d_Hands_tradeAll_9 : decode b_Hands_tradeAll 9 = .ok (.getfield 50, 3) := by decide +kernel
theorem d_Hands_tradeAll_12 : decode b_Hands_tradeAll 12 = .ok (.if_icmp .ge 28, 3) := by decide +kernel
theorem d_Hands_tradeAll_15 : decode b_Hands_tradeAll 15 = .ok (.iload_n 2, 1) := by decide +kernel
theorem d_Hands_tradeAll_16 : decode b_Hands_tradeAll 16 = .ok (.aload_n 0, 1) := by decide +kernel
theorem d_Hands_tradeAll_17 : decode b_Hands_tradeAll 17 = .ok (.aload_n 1, 1) := by decide +kernel
theorem d_Hands_tradeAll_18 : decode b_Hands_tradeAll 18 = .ok (.iload_n 3, 1) := by decide +kernel
theorem d_Hands_tradeAll_19 : decode b_Hands_tradeAll 19 = .ok (.invokevirtual 72, 3) := by decide +kernel
theorem d_Hands_tradeAll_22 : decode b_Hands_tradeAll 22 = .ok (.ifCond .eq 9, 3) := by decide +kernel
theorem d_Hands_tradeAll_25 : decode b_Hands_tradeAll 25 = .ok (.iconst 1, 1) := by decide +kernel
theorem d_Hands_tradeAll_26 : decode b_Hands_tradeAll 26 = .ok (.iload_n 3, 1) := by decide +kernel
theorem d_Hands_tradeAll_27 : decode b_Hands_tradeAll 27 = .ok (.ishl, 1) := by decide +kernel
theorem d_Hands_tradeAll_28 : decode b_Hands_tradeAll 28 = .ok (.goto 4, 3) := by decide +kernel
theorem d_Hands_tradeAll_31 : decode b_Hands_tradeAll 31 = .ok (.iconst 0, 1) := by decide +kernel
theorem d_Hands_tradeAll_32 : decode b_Hands_tradeAll 32 = .ok (.ior, 1) := by decide +kernel
theorem d_Hands_tradeAll_33 : decode b_Hands_tradeAll 33 = .ok (.istore_n 2, 1) := by decide +kernel
theorem d_Hands_tradeAll_34 : decode b_Hands_tradeAll 34 = .ok (.iinc 3 1, 3) := by decide +kernel
theorem d_Hands_tradeAll_37 : decode b_Hands_tradeAll 37 = .ok (.goto (-33), 3) := by decide +kernel
theorem d_Hands_tradeAll_40 : decode b_Hands_tradeAll 40 = .ok (.iconst 0, 1) := by decide +kernel
theorem d_Hands_tradeAll_41 : decode b_Hands_tradeAll 41 = .ok (.istore_n 3, 1) := by decide +kernel
theorem d_Hands_tradeAll_42 : decode b_Hands_tradeAll 42 = .ok (.iconst 0, 1) := by decide +kernel
theorem d_Hands_tradeAll_43 : decode b_Hands_tradeAll 43 = .ok (.istore 4, 2) := by decide +kernel
theorem d_Hands_tradeAll_45 : decode b_Hands_tradeAll 45 = .ok (.iload 4, 2) := by decide +kernel
theorem d_Hands_tradeAll_47 : decode b_Hands_tradeAll 47 = .ok (.bipush 8, 2) := by decide +kernel
theorem d_Hands_tradeAll_49 : decode b_Hands_tradeAll 49 = .ok (.if_icmp .ge 104, 3) := by decide +kernel
theorem d_Hands_tradeAll_52 : decode b_Hands_tradeAll 52 = .ok (.iload_n 2, 1) := by decide +kernel
theorem d_Hands_tradeAll_53 : decode b_Hands_tradeAll 53 = .ok (.ifCond .eq 100, 3) := by decide +kernel
theorem d_Hands_tradeAll_56 : decode b_Hands_tradeAll 56 = .ok (.aload_n 0, 1) := by decide +kernel
theorem d_Hands_tradeAll_57 : decode b_Hands_tradeAll 57 = .ok (.aload_n 1, 1) := by decide +kernel
theorem d_Hands_tradeAll_58 : decode b_Hands_tradeAll 58 = .ok (.iload_n 2, 1) := by decide +kernel
theorem d_Hands_tradeAll_59 : decode b_Hands_tradeAll 59 = .ok (.invokevirtual 76, 3) := by decide +kernel
theorem d_Hands_tradeAll_62 : decode b_Hands_tradeAll 62 = .ok (.iconst 0, 1) := by decide +kernel
theorem d_Hands_tradeAll_63 : decode b_Hands_tradeAll 63 = .ok (.istore 5, 2) := by decide +kernel
theorem d_Hands_tradeAll_65 : decode b_Hands_tradeAll 65 = .ok (.iconst 0, 1) := by decide +kernel
theorem d_Hands_tradeAll_66 : decode b_Hands_tradeAll 66 = .ok (.istore 6, 2) := by decide +kernel
theorem d_Hands_tradeAll_68 : decode b_Hands_tradeAll 68 = .ok (.iload 6, 2) := by decide +kernel
theorem d_Hands_tradeAll_70 : decode b_Hands_tradeAll 70 = .ok (.bipush 8, 2) := by decide +kernel
theorem d_Hands_tradeAll_72 : decode b_Hands_tradeAll 72 = .ok (.if_icmp .ge 62, 3) := by decide +kernel
theorem d_Hands_tradeAll_75 : decode b_Hands_tradeAll 75 = .ok (.iload_n 2, 1) := by decide +kernel
theorem d_Hands_tradeAll_76 : decode b_Hands_tradeAll 76 = .ok (.iload 6, 2) := by decide +kernel
theorem d_Hands_tradeAll_78 : decode b_Hands_tradeAll 78 = .ok (.ishr, 1) := by decide +kernel
theorem d_Hands_tradeAll_79 : decode b_Hands_tradeAll 79 = .ok (.iconst 1, 1) := by decide +kernel
theorem d_Hands_tradeAll_80 : decode b_Hands_tradeAll 80 = .ok (.iand, 1) := by decide +kernel
theorem d_Hands_tradeAll_81 : decode b_Hands_tradeAll 81 = .ok (.iconst 1, 1) := by decide +kernel
theorem d_Hands_tradeAll_82 : decode b_Hands_tradeAll 82 = .ok (.if_icmp .ne 12, 3) := by decide +kernel
theorem d_Hands_tradeAll_85 : decode b_Hands_tradeAll 85 = .ok (.aload_n 0, 1) := by decide +kernel
theorem d_Hands_tradeAll_86 : decode b_Hands_tradeAll 86 = .ok (.iload 6, 2) := by decide +kernel
theorem d_Hands_tradeAll_88 : decode b_Hands_tradeAll 88 = .ok (.invokevirtual 80, 3) := by decide +kernel
theorem d_Hands_tradeAll_91 : decode b_Hands_tradeAll 91 = .ok (.goto 4, 3) := by decide +kernel
theorem d_Hands_tradeAll_94 : decode b_Hands_tradeAll 94 = .ok (.iconst 0, 1) := by decide +kernel
theorem d_Hands_tradeAll_95 : decode b_Hands_tradeAll 95 = .ok (.istore 7, 2) := by decide +kernel
theorem d_Hands_tradeAll_97 : decode b_Hands_tradeAll 97 = .ok (.iload 5, 2) := by decide +kernel
theorem d_Hands_tradeAll_99 : decode b_Hands_tradeAll 99 = .ok (.iload 7, 2) := by decide +kernel
theorem d_Hands_tradeAll_101 : decode b_Hands_tradeAll 101 = .ok (.ior, 1) := by decide +kernel
theorem d_Hands_tradeAll_102 : decode b_Hands_tradeAll 102 = .ok (.istore 5, 2) := by decide +kernel
theorem d_Hands_tradeAll_104 : decode b_Hands_tradeAll 104 = .ok (.iload 7, 2) := by decide +kernel
theorem d_Hands_tradeAll_106 : decode b_Hands_tradeAll 106 = .ok (.invokestatic 83, 3) := by decide +kernel
theorem d_Hands_tradeAll_109 : decode b_Hands_tradeAll 109 = .ok (.iconst 1, 1) := by decide +kernel
theorem d_Hands_tradeAll_110 : decode b_Hands_tradeAll 110 = .ok (.if_icmp .le 18, 3) := by decide +kernel
theorem d_Hands_tradeAll_113 : decode b_Hands_tradeAll 113 = .ok (.iload 7, 2) := by decide +kernel
theorem d_Hands_tradeAll_115 : decode b_Hands_tradeAll 115 = .ok (.iconst 1, 1) := by decide +kernel
theorem d_Hands_tradeAll_116 : decode b_Hands_tradeAll 116 = .ok (.iload 6, 2) := by decide +kernel
theorem d_Hands_tradeAll_118 : decode b_Hands_tradeAll 118 = .ok (.ishl, 1) := by decide +kernel
theorem d_Hands_tradeAll_119 : decode b_Hands_tradeAll 119 = .ok (.iconst 1, 1) := by decide +kernel
theorem d_Hands_tradeAll_120 : decode b_Hands_tradeAll 120 = .ok (.isub, 1) := by decide +kernel
theorem d_Hands_tradeAll_121 : decode b_Hands_tradeAll 121 = .ok (.iand, 1) := by decide +kernel
theorem d_Hands_tradeAll_122 : decode b_Hands_tradeAll 122 = .ok (.ifCond .ne 6, 3) := by decide +kernel
theorem d_Hands_tradeAll_125 : decode b_Hands_tradeAll 125 = .ok (.iinc 3 1, 3) := by decide +kernel
theorem d_Hands_tradeAll_128 : decode b_Hands_tradeAll 128 = .ok (.iinc 6 1, 3) := by decide +kernel
theorem d_Hands_tradeAll_131 : decode b_Hands_tradeAll 131 = .ok (.goto (-63), 3) := by decide +kernel
theorem d_Hands_tradeAll_134 : decode b_Hands_tradeAll 134 = .ok (.aload_n 0, 1) := by decide +kernel
theorem d_Hands_tradeAll_135 : decode b_Hands_tradeAll 135 = .ok (.iload 5, 2) := by decide +kernel
theorem d_Hands_tradeAll_137 : decode b_Hands_tradeAll 137 = .ok (.invokevirtual 88, 3) := by decide +kernel
theorem d_Hands_tradeAll_140 : decode b_Hands_tradeAll 140 = .ok (.iload_n 2, 1) := by decide +kernel
theorem d_Hands_tradeAll_141 : decode b_Hands_tradeAll 141 = .ok (.iload 5, 2) := by decide +kernel
theorem d_Hands_tradeAll_143 : decode b_Hands_tradeAll 143 = .ok (.iconst (-1), 1) := by decide +kernel
theorem d_Hands_tradeAll_144 : decode b_Hands_tradeAll 144 = .ok (.ixor, 1) := by decide +kernel
theorem d_Hands_tradeAll_145 : decode b_Hands_tradeAll 145 = .ok (.iand, 1) := by decide +kernel
theorem d_Hands_tradeAll_146 : decode b_Hands_tradeAll 146 = .ok (.istore_n 2, 1) := by decide +kernel
theorem d_Hands_tradeAll_147 : decode b_Hands_tradeAll 147 = .ok (.iinc 4 1, 3) := by decide +kernel
theorem d_Hands_tradeAll_150 : decode b_Hands_tradeAll 150 = .ok (.goto (-105), 3) := by decide +kernel
theorem d_Hands_tradeAll_153 : decode b_Hands_tradeAll 153 = .ok (.iload_n 3, 1) := by decide +kernel
theorem d_Hands_tradeAll_154 : decode b_Hands_tradeAll 154 = .ok (.ireturn, 1) := by decide +kernel
noncomputable def f_Hands_tradeAll_L4 (z : Nat → Nat) (σ : Mm) (o : Nat) (o1 : Nat) (s4 : Int32 × Int32) : Option ((Int32 × Int32) ⊕ (Int32)) :=
  if (σ.1 (o1 + 3) 1) ≤ s4.2 then (
    some (.inr s4.1)
  ) else (
    (f_Hands_canTrade z σ o o1 s4.2).bind fun q19 =>
    if q19 = 0 then (
      mm_lt ((s4.1 ||| (0 : Int32))) fun x33 =>
      mm_lt (s4.2 + (1 : Int32)) fun x34 =>
      some (.inl (x33, x34))
    ) else (
      mm_lt ((s4.1 ||| ((1 : Int32) <<< (s4.2 &&& 31)))) fun x33 =>
      mm_lt (s4.2 + (1 : Int32)) fun x34 =>
      some (.inl (x33, x34))
    )
  )
noncomputable def f_Hands_tradeAll_J95 (z : Nat → Nat) (o : Nat) (o1 : Nat) (v2 : Int32) (v3 : Int32) (v4 : Int32) (v5 : Int32) (v6 : Int32) (t95_0 : Int32) (m95 : Mm) : Option ((Int32 × Int32 × Int32) ⊕ (Int32 × Int32)) :=
  mm_lt ((v5 ||| t95_0)) fun x102 =>
  (f_Int_bitCount z m95 t95_0).bind fun q106 =>
  if q106 ≤ (1 : Int32) then (
    mm_lt (v6 + (1 : Int32)) fun x128 =>
    some (.inl (v3, x102, x128))
  ) else (
    if (t95_0 &&& (((1 : Int32) <<< (v6 &&& 31)) - (1 : Int32))) = 0 then (
      mm_lt (v3 + (1 : Int32)) fun x125 =>
      mm_lt (v6 + (1 : Int32)) fun x128 =>
      some (.inl (x125, x102, x128))
    ) else (
      mm_lt (v6 + (1 : Int32)) fun x128 =>
      some (.inl (v3, x102, x128))
    )
  )
noncomputable def f_Hands_tradeAll_L68 (z : Nat → Nat) (σ : Mm) (o : Nat) (o1 : Nat) (v2 : Int32) (v4 : Int32) (s68 : Int32 × Int32 × Int32) : Option ((Int32 × Int32 × Int32) ⊕ (Int32 × Int32)) :=
  if (8 : Int32) ≤ s68.2.2 then (
    some (.inr (s68.1, s68.2.1))
  ) else (
    if ((v2 >>> (s68.2.2 &&& 31)) &&& (1 : Int32)) = (1 : Int32) then (
      (f_Hands_circleOf z σ o s68.2.2).bind fun q88 =>
      f_Hands_tradeAll_J95 z o o1 v2 s68.1 v4 s68.2.1 s68.2.2 q88 σ
    ) else (
      f_Hands_tradeAll_J95 z o o1 v2 s68.1 v4 s68.2.1 s68.2.2 (0 : Int32) σ
    )
  )
noncomputable def f_Hands_tradeAll_L45 (z : Nat → Nat) (o : Nat) (o1 : Nat) (s45 : Int32 × Int32 × Int32 × Mm) : Option ((Int32 × Int32 × Int32 × Mm) ⊕ (Int32 × Mm)) :=
  if (8 : Int32) ≤ s45.2.2.1 then (
    some (.inr (s45.2.1, s45.2.2.2))
  ) else (
    if s45.1 = 0 then (
      some (.inr (s45.2.1, s45.2.2.2))
    ) else (
      (f_Hands_pointAll z s45.2.2.2 o o1 s45.1).bind fun q59 =>
      (mm_lp (f_Hands_tradeAll_L68 z q59 o o1 s45.1 s45.2.2.1) (s45.2.1, (0 : Int32), (0 : Int32))).bind (fun q68 =>
        (f_Hands_takeWhatTheyPointTo z q59 o q68.2).bind fun q137 =>
        mm_lt ((s45.1 &&& (q68.2 ^^^ ((-1) : Int32)))) fun x146 =>
        mm_lt (s45.2.2.1 + (1 : Int32)) fun x147 =>
        some (.inl (x146, q68.1, x147, q137)))
    )
  )
noncomputable def f_Hands_tradeAll (z : Nat → Nat) (σ : Mm) (o : Nat) (o1 : Nat) : Option (Int32 × Mm) :=
  (mm_lp (f_Hands_tradeAll_L4 z σ o o1) ((0 : Int32), (0 : Int32))).bind (fun q4 =>
    (mm_lp (f_Hands_tradeAll_L45 z o o1) (q4, (0 : Int32), (0 : Int32), σ)).bind (fun q45 =>
      some (q45.1, q45.2)))
set_option maxHeartbeats 4000000 in
set_option maxRecDepth 100000 in
theorem c_Hands_tradeAll (l : Launch) {L : Ly} (hg : gd_ok L) {σ : Mm} {o : Nat} {o1 : Nat} (k_o_0 : ly_k L o = 3) (k_o1_0 : ly_k L o1 = 2) {res : Int32 × Mm} (hf0 : f_Hands_tradeAll (ly_z L) σ o o1 = some res) : CtI l y_Hands_tradeAll b_Hands_tradeAll 8 (some .int) rm_Hands_tradeAll L [.ref (ly_a L o), .ref (ly_a L o1)] σ res.1 res.2 := by
  refine ct_i hg (by decide) (Nat.le_of_ble_eq_true rfl) ?_
  intro E A Q hE C hN
  subst hE
  have k_o1_3 : ly_k L (o1 + 3) = 1 := gd_Island_houses hg k_o1_0
  unfold f_Hands_tradeAll at hf0
  show GW E L A 8 0 0 Q σ 0 [(0, .ref (ly_a L o)), (1, .ref (ly_a L o1))] []
  refine gw_iconst C (0 : Int32) d_Hands_tradeAll_0 (by decide) ?_
  refine gw_istore_n C [(2, .int (0 : Int32)), (0, .ref (ly_a L o)), (1, .ref (ly_a L o1))] d_Hands_tradeAll_1 rfl (by decide) rfl ?_
  refine gw_iconst C (0 : Int32) d_Hands_tradeAll_2 (by decide) ?_
  refine gw_istore_n C [(3, .int (0 : Int32)), (2, .int (0 : Int32)), (0, .ref (ly_a L o)), (1, .ref (ly_a L o1))] d_Hands_tradeAll_3 rfl (by decide) rfl ?_
  obtain ⟨q4, hq4, hf0⟩ := mx_bd hf0
  have hk4 : ∀ x9, q4 = x9 → GW E L A 8 0 0 Q σ 40 [(0, .ref (ly_a L o)), (1, .ref (ly_a L o1)), (2, .int x9)] [] := by
    intro x9 hx9
    subst hx9
    refine gw_iconst C (0 : Int32) d_Hands_tradeAll_40 (by decide) ?_
    refine gw_istore_n C [(3, .int (0 : Int32)), (0, .ref (ly_a L o)), (1, .ref (ly_a L o1)), (2, .int q4)] d_Hands_tradeAll_41 rfl (by decide) rfl ?_
    refine gw_iconst C (0 : Int32) d_Hands_tradeAll_42 (by decide) ?_
    refine gw_istore C [(4, .int (0 : Int32)), (3, .int (0 : Int32)), (0, .ref (ly_a L o)), (1, .ref (ly_a L o1)), (2, .int q4)] d_Hands_tradeAll_43 (by decide) rfl ?_
    obtain ⟨q45, hq45, hf0⟩ := mx_bd hf0
    have hk45 : ∀ x9, q45 = x9 → GW E L A 8 0 0 Q x9.2 153 [(3, .int x9.1)] [] := by
      intro x9 hx9
      subst hx9
      refine gw_iload_n C 0 d_Hands_tradeAll_153 rfl rfl ?_
      exact en_i hN hf0 d_Hands_tradeAll_154
    refine gw_sub [2, 3, 4, 1, 0] (lv' := [(0, .ref (ly_a L o)), (1, .ref (ly_a L o1)), (2, .int q4), (3, .int (0 : Int32)), (4, .int (0 : Int32))]) rfl ?_
    refine mm_rule hq45 (P := fun (s45 : Int32 × Int32 × Int32 × Mm) => GW E L A 8 0 0 Q s45.2.2.2 45 [(0, .ref (ly_a L o)), (1, .ref (ly_a L o1)), (2, .int s45.1), (3, .int s45.2.1), (4, .int s45.2.2.1)] []) ?_
    intro s45 ih45 hx45 ⟨w45, hb45⟩
    have hf1 := hb45
    unfold f_Hands_tradeAll_L45 at hf1
    refine gw_iload C 4 d_Hands_tradeAll_45 rfl ?_
    refine gw_bipush C (8 : Int32) d_Hands_tradeAll_47 (by decide) ?_
    refine gw_icmp_ge C 153 d_Hands_tradeAll_49 (by decide) (fun hc => ?_) (fun hc => ?_)
    · replace hf1 := mx_t hc hf1
      exact gw_go [3] (hk45 (s45.2.1, s45.2.2.2) (hx45 _ (hb45.trans hf1.symm)).symm) rfl
    · replace hf1 := mx_f hc hf1
      refine gw_iload_n C 2 d_Hands_tradeAll_52 rfl rfl ?_
      refine gw_if_eq C 153 d_Hands_tradeAll_53 (by decide) (fun hc => ?_) (fun hc => ?_)
      · replace hf1 := mx_t hc hf1
        exact gw_go [3] (hk45 (s45.2.1, s45.2.2.2) (hx45 _ (hb45.trans hf1.symm)).symm) rfl
      · replace hf1 := mx_f hc hf1
        refine gw_aload_n C 0 d_Hands_tradeAll_56 rfl rfl ?_
        refine gw_aload_n C 1 d_Hands_tradeAll_57 rfl rfl ?_
        refine gw_iload_n C 2 d_Hands_tradeAll_58 rfl rfl ?_
        obtain ⟨q59, hq59, hf1⟩ := mx_bd hf1
        refine gw_callV C (c_Hands_pointAll _ hg k_o_0 k_o1_0 hq59) d_Hands_tradeAll_59 2 qw_826 qw_828 qs_21 qw_8 qw_829 k_o_0 (by decide) rfl hd_Hands_pointAll rfl rfl (Nat.le_of_ble_eq_true rfl) ⟨rfl, rfl, Nat.le_of_ble_eq_true rfl, Nat.le_of_ble_eq_true rfl⟩ ⟨Nat.zero_le _, Nat.zero_le _⟩ ?_
        refine gw_iconst C (0 : Int32) d_Hands_tradeAll_62 (by decide) ?_
        refine gw_istore C [(5, .int (0 : Int32)), (0, .ref (ly_a L o)), (1, .ref (ly_a L o1)), (2, .int s45.1), (3, .int s45.2.1), (4, .int s45.2.2.1)] d_Hands_tradeAll_63 (by decide) rfl ?_
        refine gw_iconst C (0 : Int32) d_Hands_tradeAll_65 (by decide) ?_
        refine gw_istore C [(6, .int (0 : Int32)), (5, .int (0 : Int32)), (0, .ref (ly_a L o)), (1, .ref (ly_a L o1)), (2, .int s45.1), (3, .int s45.2.1), (4, .int s45.2.2.1)] d_Hands_tradeAll_66 (by decide) rfl ?_
        obtain ⟨q68, hq68, hf1⟩ := mx_bd hf1
        have hk68 : ∀ x9, q68 = x9 → GW E L A 8 0 0 Q q59 134 [(0, .ref (ly_a L o)), (1, .ref (ly_a L o1)), (2, .int s45.1), (3, .int x9.1), (4, .int s45.2.2.1), (5, .int x9.2)] [] := by
          intro x9 hx9
          subst hx9
          refine gw_aload_n C 0 d_Hands_tradeAll_134 rfl rfl ?_
          refine gw_iload C 5 d_Hands_tradeAll_135 rfl ?_
          obtain ⟨q137, hq137, hf1⟩ := mx_bd hf1
          refine gw_callV C (c_Hands_takeWhatTheyPointTo _ hg k_o_0 hq137) d_Hands_tradeAll_137 1 qw_835 qw_837 qs_23 qw_8 qw_838 k_o_0 (by decide) rfl hd_Hands_takeWhatTheyPointTo rfl rfl (Nat.le_of_ble_eq_true rfl) ⟨rfl, rfl, Nat.le_of_ble_eq_true rfl, Nat.le_of_ble_eq_true rfl⟩ ⟨Nat.zero_le _, Nat.zero_le _⟩ ?_
          refine gw_iload_n C 2 d_Hands_tradeAll_140 rfl rfl ?_
          refine gw_iload C 5 d_Hands_tradeAll_141 rfl ?_
          refine gw_iconst C ((-1) : Int32) d_Hands_tradeAll_143 (by decide) ?_
          refine gw_ixor C d_Hands_tradeAll_144 ?_
          refine gw_iand C d_Hands_tradeAll_145 ?_
          obtain ⟨x146, ex146, hf1⟩ := mx_lt hf1
          refine gw_topi ex146 ?_
          refine gw_istore_n C [(2, .int x146), (0, .ref (ly_a L o)), (1, .ref (ly_a L o1)), (3, .int q68.1), (4, .int s45.2.2.1), (5, .int q68.2)] d_Hands_tradeAll_146 rfl (by decide) rfl ?_
          obtain ⟨x147, ex147, hf1⟩ := mx_lt hf1
          refine gw_iinc C 4 [(4, .int x147), (2, .int x146), (0, .ref (ly_a L o)), (1, .ref (ly_a L o1)), (3, .int q68.1), (5, .int q68.2)] d_Hands_tradeAll_147 rfl (by rw [ex147]; rfl) (by decide) rfl ?_
          refine gw_goto C 45 d_Hands_tradeAll_150 (by decide) ?_
          exact gw_go [2, 3, 1, 4, 0] (ih45 (x146, q68.1, x147, q137) (hb45.trans hf1.symm)) rfl
        refine gw_sub [2, 3, 4, 5, 6, 1, 0] (lv' := [(0, .ref (ly_a L o)), (1, .ref (ly_a L o1)), (2, .int s45.1), (3, .int s45.2.1), (4, .int s45.2.2.1), (5, .int (0 : Int32)), (6, .int (0 : Int32))]) rfl ?_
        refine mm_rule hq68 (P := fun (s68 : Int32 × Int32 × Int32) => GW E L A 8 0 0 Q q59 68 [(0, .ref (ly_a L o)), (1, .ref (ly_a L o1)), (2, .int s45.1), (3, .int s68.1), (4, .int s45.2.2.1), (5, .int s68.2.1), (6, .int s68.2.2)] []) ?_
        intro s68 ih68 hx68 ⟨w68, hb68⟩
        have hj95 : ∀ (v3 : Int32) (v5 : Int32) (v6 : Int32) (t95_0 : Int32), f_Hands_tradeAll_J95 (ly_z L) o o1 s45.1 v3 s45.2.2.1 v5 v6 t95_0 q59 = some w68 → GW E L A 8 0 0 Q q59 95 [(0, .ref (ly_a L o)), (1, .ref (ly_a L o1)), (2, .int s45.1), (3, .int v3), (4, .int s45.2.2.1), (5, .int v5), (6, .int v6)] [.int t95_0] := by
          intro v3 v5 v6 t95_0 hf2
          unfold f_Hands_tradeAll_J95 at hf2
          refine gw_istore C [(7, .int t95_0), (0, .ref (ly_a L o)), (1, .ref (ly_a L o1)), (2, .int s45.1), (3, .int v3), (4, .int s45.2.2.1), (5, .int v5), (6, .int v6)] d_Hands_tradeAll_95 (by decide) rfl ?_
          refine gw_iload C 6 d_Hands_tradeAll_97 rfl ?_
          refine gw_iload C 0 d_Hands_tradeAll_99 rfl ?_
          refine gw_ior C d_Hands_tradeAll_101 ?_
          obtain ⟨x102, ex102, hf2⟩ := mx_lt hf2
          refine gw_topi ex102 ?_
          refine gw_istore C [(5, .int x102), (7, .int t95_0), (0, .ref (ly_a L o)), (1, .ref (ly_a L o1)), (2, .int s45.1), (3, .int v3), (4, .int s45.2.2.1), (6, .int v6)] d_Hands_tradeAll_102 (by decide) rfl ?_
          refine gw_iload C 1 d_Hands_tradeAll_104 rfl ?_
          obtain ⟨q106, hq106, hf2⟩ := mx_bd hf2
          refine gw_callIS C (c_Int_bitCount _ hg hq106) d_Hands_tradeAll_106 1 qw_834 qw_720 qw_23 qw_721 hd_Int_bitCount rfl rfl (Nat.le_of_ble_eq_true rfl) ⟨rfl, rfl, Nat.le_of_ble_eq_true rfl, Nat.le_of_ble_eq_true rfl⟩ ⟨Nat.zero_le _, Nat.zero_le _⟩ ?_
          refine gw_iconst C (1 : Int32) d_Hands_tradeAll_109 (by decide) ?_
          refine gw_icmp_le C 128 d_Hands_tradeAll_110 (by decide) (fun hc => ?_) (fun hc => ?_)
          · replace hf2 := mx_t hc hf2
            obtain ⟨x128, ex128, hf2⟩ := mx_lt hf2
            refine gw_iinc C 7 [(6, .int x128), (5, .int x102), (7, .int t95_0), (0, .ref (ly_a L o)), (1, .ref (ly_a L o1)), (2, .int s45.1), (3, .int v3), (4, .int s45.2.2.1)] d_Hands_tradeAll_128 rfl (by rw [ex128]; rfl) (by decide) rfl ?_
            refine gw_goto C 68 d_Hands_tradeAll_131 (by decide) ?_
            exact gw_go [3, 4, 5, 6, 7, 1, 0] (ih68 (v3, x102, x128) (hb68.trans hf2.symm)) rfl
          · replace hf2 := mx_f hc hf2
            refine gw_iload C 1 d_Hands_tradeAll_113 rfl ?_
            refine gw_iconst C (1 : Int32) d_Hands_tradeAll_115 (by decide) ?_
            refine gw_iload C 7 d_Hands_tradeAll_116 rfl ?_
            refine gw_ishl C d_Hands_tradeAll_118 ?_
            refine gw_iconst C (1 : Int32) d_Hands_tradeAll_119 (by decide) ?_
            refine gw_isub C d_Hands_tradeAll_120 ?_
            refine gw_iand C d_Hands_tradeAll_121 ?_
            refine gw_if_ne C 128 d_Hands_tradeAll_122 (by decide) (fun hc => ?_) (fun hc => ?_)
            · replace hf2 := mx_f hc hf2
              obtain ⟨x128, ex128, hf2⟩ := mx_lt hf2
              refine gw_iinc C 7 [(6, .int x128), (5, .int x102), (7, .int t95_0), (0, .ref (ly_a L o)), (1, .ref (ly_a L o1)), (2, .int s45.1), (3, .int v3), (4, .int s45.2.2.1)] d_Hands_tradeAll_128 rfl (by rw [ex128]; rfl) (by decide) rfl ?_
              refine gw_goto C 68 d_Hands_tradeAll_131 (by decide) ?_
              exact gw_go [3, 4, 5, 6, 7, 1, 0] (ih68 (v3, x102, x128) (hb68.trans hf2.symm)) rfl
            · replace hf2 := mx_t hc hf2
              obtain ⟨x125, ex125, hf2⟩ := mx_lt hf2
              refine gw_iinc C 5 [(3, .int x125), (5, .int x102), (7, .int t95_0), (0, .ref (ly_a L o)), (1, .ref (ly_a L o1)), (2, .int s45.1), (4, .int s45.2.2.1), (6, .int v6)] d_Hands_tradeAll_125 rfl (by rw [ex125]; rfl) (by decide) rfl ?_
              obtain ⟨x128, ex128, hf2⟩ := mx_lt hf2
              refine gw_iinc C 7 [(6, .int x128), (3, .int x125), (5, .int x102), (7, .int t95_0), (0, .ref (ly_a L o)), (1, .ref (ly_a L o1)), (2, .int s45.1), (4, .int s45.2.2.1)] d_Hands_tradeAll_128 rfl (by rw [ex128]; rfl) (by decide) rfl ?_
              refine gw_goto C 68 d_Hands_tradeAll_131 (by decide) ?_
              exact gw_go [4, 5, 6, 1, 7, 2, 0] (ih68 (x125, x102, x128) (hb68.trans hf2.symm)) rfl
        have hf2 := hb68
        unfold f_Hands_tradeAll_L68 at hf2
        refine gw_iload C 6 d_Hands_tradeAll_68 rfl ?_
        refine gw_bipush C (8 : Int32) d_Hands_tradeAll_70 (by decide) ?_
        refine gw_icmp_ge C 134 d_Hands_tradeAll_72 (by decide) (fun hc => ?_) (fun hc => ?_)
        · replace hf2 := mx_t hc hf2
          exact gw_go [0, 1, 2, 3, 4, 5] (hk68 (s68.1, s68.2.1) (hx68 _ (hb68.trans hf2.symm)).symm) rfl
        · replace hf2 := mx_f hc hf2
          refine gw_iload_n C 2 d_Hands_tradeAll_75 rfl rfl ?_
          refine gw_iload C 6 d_Hands_tradeAll_76 rfl ?_
          refine gw_ishr C d_Hands_tradeAll_78 ?_
          refine gw_iconst C (1 : Int32) d_Hands_tradeAll_79 (by decide) ?_
          refine gw_iand C d_Hands_tradeAll_80 ?_
          refine gw_iconst C (1 : Int32) d_Hands_tradeAll_81 (by decide) ?_
          refine gw_icmp_ne C 94 d_Hands_tradeAll_82 (by decide) (fun hc => ?_) (fun hc => ?_)
          · replace hf2 := mx_f hc hf2
            refine gw_iconst C (0 : Int32) d_Hands_tradeAll_94 (by decide) ?_
            exact gw_go [0, 1, 2, 3, 4, 5, 6] (hj95 _ _ _ _ hf2) rfl
          · replace hf2 := mx_t hc hf2
            refine gw_aload_n C 0 d_Hands_tradeAll_85 rfl rfl ?_
            refine gw_iload C 6 d_Hands_tradeAll_86 rfl ?_
            obtain ⟨q88, hq88, hf2⟩ := mx_bd hf2
            refine gw_callI C (c_Hands_circleOf _ hg k_o_0 hq88) d_Hands_tradeAll_88 1 qw_830 qw_832 qs_22 qw_8 qw_833 k_o_0 (by decide) rfl hd_Hands_circleOf rfl rfl (Nat.le_of_ble_eq_true rfl) ⟨rfl, rfl, Nat.le_of_ble_eq_true rfl, Nat.le_of_ble_eq_true rfl⟩ ⟨Nat.zero_le _, Nat.zero_le _⟩ ?_
            refine gw_goto C 95 d_Hands_tradeAll_91 (by decide) ?_
            exact gw_go [0, 1, 2, 3, 4, 5, 6] (hj95 _ _ _ _ hf2) rfl
  refine gw_sub [2, 3, 1, 0] (lv' := [(0, .ref (ly_a L o)), (1, .ref (ly_a L o1)), (2, .int (0 : Int32)), (3, .int (0 : Int32))]) rfl ?_
  refine mm_rule hq4 (P := fun (s4 : Int32 × Int32) => GW E L A 8 0 0 Q σ 4 [(0, .ref (ly_a L o)), (1, .ref (ly_a L o1)), (2, .int s4.1), (3, .int s4.2)] []) ?_
  intro s4 ih4 hx4 ⟨w4, hb4⟩
  have hf1 := hb4
  unfold f_Hands_tradeAll_L4 at hf1
  refine gw_iload_n C 3 d_Hands_tradeAll_4 rfl rfl ?_
  refine gw_aload_n C 1 d_Hands_tradeAll_5 rfl rfl ?_
  refine gw_getAN C 1 d_Hands_tradeAll_6 k_o1_0 (by decide) i_Island rfl rfl (by decide) qw_134 rfl rfl (o1 + 3) rfl ?_
  refine gw_getIN C 1 d_Hands_tradeAll_9 k_o1_3 (by decide) i_Names rfl rfl (by decide) qw_113 rfl rfl ?_
  refine gw_icmp_ge C 40 d_Hands_tradeAll_12 (by decide) (fun hc => ?_) (fun hc => ?_)
  · replace hf1 := mx_t hc hf1
    exact gw_go [0, 1, 2] (hk4 s4.1 (hx4 _ (hb4.trans hf1.symm)).symm) rfl
  · replace hf1 := mx_f hc hf1
    refine gw_iload_n C 2 d_Hands_tradeAll_15 rfl rfl ?_
    refine gw_aload_n C 0 d_Hands_tradeAll_16 rfl rfl ?_
    refine gw_aload_n C 1 d_Hands_tradeAll_17 rfl rfl ?_
    refine gw_iload_n C 3 d_Hands_tradeAll_18 rfl rfl ?_
    obtain ⟨q19, hq19, hf1⟩ := mx_bd hf1
    refine gw_callI C (c_Hands_canTrade _ hg k_o_0 k_o1_0 hq19) d_Hands_tradeAll_19 2 qw_825 qw_780 qw_781 qw_8 qw_782 k_o_0 (by decide) rfl hd_Hands_canTrade rfl rfl (Nat.le_of_ble_eq_true rfl) ⟨rfl, rfl, Nat.le_of_ble_eq_true rfl, Nat.le_of_ble_eq_true rfl⟩ ⟨Nat.zero_le _, Nat.zero_le _⟩ ?_
    refine gw_if_eq C 31 d_Hands_tradeAll_22 (by decide) (fun hc => ?_) (fun hc => ?_)
    · replace hf1 := mx_t hc hf1
      refine gw_iconst C (0 : Int32) d_Hands_tradeAll_31 (by decide) ?_
      refine gw_ior C d_Hands_tradeAll_32 ?_
      obtain ⟨x33, ex33, hf1⟩ := mx_lt hf1
      refine gw_topi ex33 ?_
      refine gw_istore_n C [(2, .int x33), (0, .ref (ly_a L o)), (1, .ref (ly_a L o1)), (3, .int s4.2)] d_Hands_tradeAll_33 rfl (by decide) rfl ?_
      obtain ⟨x34, ex34, hf1⟩ := mx_lt hf1
      refine gw_iinc C 3 [(3, .int x34), (2, .int x33), (0, .ref (ly_a L o)), (1, .ref (ly_a L o1))] d_Hands_tradeAll_34 rfl (by rw [ex34]; rfl) (by decide) rfl ?_
      refine gw_goto C 4 d_Hands_tradeAll_37 (by decide) ?_
      exact gw_go [2, 3, 1, 0] (ih4 (x33, x34) (hb4.trans hf1.symm)) rfl
    · replace hf1 := mx_f hc hf1
      refine gw_iconst C (1 : Int32) d_Hands_tradeAll_25 (by decide) ?_
      refine gw_iload_n C 3 d_Hands_tradeAll_26 rfl rfl ?_
      refine gw_ishl C d_Hands_tradeAll_27 ?_
      refine gw_goto C 32 d_Hands_tradeAll_28 (by decide) ?_
      refine gw_ior C d_Hands_tradeAll_32 ?_
      obtain ⟨x33, ex33, hf1⟩ := mx_lt hf1
      refine gw_topi ex33 ?_
      refine gw_istore_n C [(2, .int x33), (0, .ref (ly_a L o)), (1, .ref (ly_a L o1)), (3, .int s4.2)] d_Hands_tradeAll_33 rfl (by decide) rfl ?_
      obtain ⟨x34, ex34, hf1⟩ := mx_lt hf1
      refine gw_iinc C 3 [(3, .int x34), (2, .int x33), (0, .ref (ly_a L o)), (1, .ref (ly_a L o1))] d_Hands_tradeAll_34 rfl (by rw [ex34]; rfl) (by decide) rfl ?_
      refine gw_goto C 4 d_Hands_tradeAll_37 (by decide) ?_
      exact gw_go [2, 3, 1, 0] (ih4 (x33, x34) (hb4.trans hf1.symm)) rfl

/-! NameHat.trade()I -/
abbrev b_Hat_trade : ByteArray := prog_1_method_21_code
def y_Hat_trade : MethodName := ⟨"NameHat", "trade", "()I"⟩
abbrev rm_Hat_trade : Room := { frames := 5, cells := 0, slots := 0, locals := 120 }
theorem hd_Hat_trade : y_Hat_trade.cls ≠ "java/lang/invoke/MethodHandle" ∧ y_Hat_trade.cls ≠ "java/lang/invoke/VarHandle" ∧ (parseMethodDescriptor y_Hat_trade.desc).map (fun d => d.parameters.length) = some 0 := by decide +kernel
theorem d_Hat_trade_0 : decode b_Hat_trade 0 = .ok (.aload_n 0, 1) := by decide +kernel
theorem d_Hat_trade_1 : decode b_Hat_trade 1 = .ok (.getfield 57, 3) := by decide +kernel
theorem d_Hat_trade_4 : decode b_Hat_trade 4 = .ok (.getfield 154, 3) := by decide +kernel
theorem d_Hat_trade_7 : decode b_Hat_trade 7 = .ok (.aload_n 0, 1) := by decide +kernel
theorem d_Hat_trade_8 : decode b_Hat_trade 8 = .ok (.getfield 57, 3) := by decide +kernel
theorem d_Hat_trade_11 : decode b_Hat_trade 11 = .ok (.getfield 121, 3) := by decide +kernel
theorem d_Hat_trade_14 : decode b_Hat_trade 14 = .ok (.invokevirtual 223, 3) := by decide +kernel
theorem d_Hat_trade_17 : decode b_Hat_trade 17 = .ok (.ireturn, 1) := by decide +kernel
noncomputable def f_Hat_trade (z : Nat → Nat) (σ : Mm) (o : Nat) : Option (Int32 × Mm) :=
  (f_Hands_tradeAll z σ (o + 74) (o + 61)).bind fun q14 =>
  some (q14.1, q14.2)
set_option maxHeartbeats 4000000 in
set_option maxRecDepth 100000 in
theorem c_Hat_trade (l : Launch) {L : Ly} (hg : gd_ok L) {σ : Mm} {o : Nat} (k_o_0 : ly_k L o = 10) {res : Int32 × Mm} (hf0 : f_Hat_trade (ly_z L) σ o = some res) : CtI l y_Hat_trade b_Hat_trade 1 (some .int) rm_Hat_trade L [.ref (ly_a L o)] σ res.1 res.2 := by
  refine ct_i hg (by decide) (Nat.le_of_ble_eq_true rfl) ?_
  intro E A Q hE C hN
  subst hE
  have k_o_60 : ly_k L (o + 60) = 4 := gd_Hat_now hg k_o_0
  have k_o_74 : ly_k L (o + 74) = 3 := gd_State_hands hg k_o_60
  have k_o_61 : ly_k L (o + 61) = 2 := gd_State_island hg k_o_60
  unfold f_Hat_trade at hf0
  show GW E L A 1 0 0 Q σ 0 [(0, .ref (ly_a L o))] []
  refine gw_aload_n C 0 d_Hat_trade_0 rfl rfl ?_
  refine gw_getA C 7 d_Hat_trade_1 k_o_0 (by decide) i_Hat rfl rfl (by decide) qw_410 rfl rfl (o + 60) rfl ?_
  refine gw_getAN C 1 d_Hat_trade_4 k_o_60 (by decide) i_State rfl rfl (by decide) qw_239 rfl rfl (o + 74) rfl ?_
  refine gw_aload_n C 0 d_Hat_trade_7 rfl rfl ?_
  refine gw_getA C 7 d_Hat_trade_8 k_o_0 (by decide) i_Hat rfl rfl (by decide) qw_410 rfl rfl (o + 60) rfl ?_
  refine gw_getAN C 0 d_Hat_trade_11 k_o_60 (by decide) i_State rfl rfl (by decide) qw_237 rfl rfl (o + 61) rfl ?_
  obtain ⟨q14, hq14, hf0⟩ := mx_bd hf0
  refine gw_callI C (c_Hands_tradeAll _ hg k_o_74 k_o_61 hq14) d_Hat_trade_14 1 qw_821 qw_822 qw_823 qw_8 qw_824 k_o_74 (by decide) rfl hd_Hands_tradeAll rfl rfl (Nat.le_of_ble_eq_true rfl) ⟨rfl, rfl, Nat.le_of_ble_eq_true rfl, Nat.le_of_ble_eq_true rfl⟩ ⟨Nat.zero_le _, Nat.zero_le _⟩ ?_
  exact en_i hN hf0 d_Hat_trade_17

/-! NameHat.Hands.doSwap(LNameHat.Island;II)I -/
abbrev b_Hands_doSwap : ByteArray := prog_3_method_17_code
def y_Hands_doSwap : MethodName := ⟨"NameHat$Hands", "doSwap", "(LNameHat$Island;II)I"⟩
abbrev rm_Hands_doSwap : Room := { frames := 3, cells := 0, slots := 0, locals := 67 }
theorem hd_Hands_doSwap : y_Hands_doSwap.cls ≠ "java/lang/invoke/MethodHandle" ∧ y_Hands_doSwap.cls ≠ "java/lang/invoke/VarHandle" ∧ (parseMethodDescriptor y_Hands_doSwap.desc).map (fun d => d.parameters.length) = some 3 := by decide +kernel
theorem d_Hands_doSwap_0 : decode b_Hands_doSwap 0 = .ok (.iload_n 2, 1) := by decide +kernel
theorem d_Hands_doSwap_1 : decode b_Hands_doSwap 1 = .ok (.iload_n 3, 1) := by decide +kernel
theorem d_Hands_doSwap_2 : decode b_Hands_doSwap 2 = .ok (.if_icmp .eq 27, 3) := by decide +kernel
theorem d_Hands_doSwap_5 : decode b_Hands_doSwap 5 = .ok (.aload_n 0, 1) := by decide +kernel
theorem d_Hands_doSwap_6 : decode b_Hands_doSwap 6 = .ok (.getfield 14, 3) := by decide +kernel
theorem d_Hands_doSwap_9 : decode b_Hands_doSwap 9 = .ok (.iload_n 2, 1) := by decide +kernel
theorem d_Hands_doSwap_10 : decode b_Hands_doSwap 10 = .ok (.invokevirtual 36, 3) := by decide +kernel
theorem d_Hands_doSwap_13 : decode b_Hands_doSwap 13 = .ok (.iconst (-1), 1) := by decide +kernel
theorem d_Hands_doSwap_14 : decode b_Hands_doSwap 14 = .ok (.if_icmp .eq 15, 3) := by decide +kernel
theorem d_Hands_doSwap_17 : decode b_Hands_doSwap 17 = .ok (.aload_n 0, 1) := by decide +kernel
theorem d_Hands_doSwap_18 : decode b_Hands_doSwap 18 = .ok (.getfield 14, 3) := by decide +kernel
theorem d_Hands_doSwap_21 : decode b_Hands_doSwap 21 = .ok (.iload_n 3, 1) := by decide +kernel
theorem d_Hands_doSwap_22 : decode b_Hands_doSwap 22 = .ok (.invokevirtual 36, 3) := by decide +kernel
theorem d_Hands_doSwap_25 : decode b_Hands_doSwap 25 = .ok (.iconst (-1), 1) := by decide +kernel
theorem d_Hands_doSwap_26 : decode b_Hands_doSwap 26 = .ok (.if_icmp .ne 5, 3) := by decide +kernel
theorem d_Hands_doSwap_29 : decode b_Hands_doSwap 29 = .ok (.iconst 1, 1) := by decide +kernel
theorem d_Hands_doSwap_30 : decode b_Hands_doSwap 30 = .ok (.ireturn, 1) := by decide +kernel
theorem d_Hands_doSwap_31 : decode b_Hands_doSwap 31 = .ok (.aload_n 1, 1) := by decide +kernel
theorem d_Hands_doSwap_32 : decode b_Hands_doSwap 32 = .ok (.aload_n 0, 1) := by decide +kernel
theorem d_Hands_doSwap_33 : decode b_Hands_doSwap 33 = .ok (.getfield 14, 3) := by decide +kernel
theorem d_Hands_doSwap_36 : decode b_Hands_doSwap 36 = .ok (.iload_n 2, 1) := by decide +kernel
theorem d_Hands_doSwap_37 : decode b_Hands_doSwap 37 = .ok (.invokevirtual 36, 3) := by decide +kernel
theorem d_Hands_doSwap_40 : decode b_Hands_doSwap 40 = .ok (.invokevirtual 64, 3) := by decide +kernel
theorem d_Hands_doSwap_43 : decode b_Hands_doSwap 43 = .ok (.ifCond .ne 18, 3) := by decide +kernel
theorem d_Hands_doSwap_46 : decode b_Hands_doSwap 46 = .ok (.aload_n 1, 1) := by decide +kernel
theorem d_Hands_doSwap_47 : decode b_Hands_doSwap 47 = .ok (.aload_n 0, 1) := by decide +kernel
theorem d_Hands_doSwap_48 : decode b_Hands_doSwap 48 = .ok (.getfield 14, 3) := by decide +kernel
theorem d_Hands_doSwap_51 : decode b_Hands_doSwap 51 = .ok (.iload_n 3, 1) := by decide +kernel
theorem d_Hands_doSwap_52 : decode b_Hands_doSwap 52 = .ok (.invokevirtual 36, 3) := by decide +kernel
theorem d_Hands_doSwap_55 : decode b_Hands_doSwap 55 = .ok (.invokevirtual 64, 3) := by decide +kernel
theorem d_Hands_doSwap_58 : decode b_Hands_doSwap 58 = .ok (.ifCond .eq 5, 3) := by decide +kernel
theorem d_Hands_doSwap_61 : decode b_Hands_doSwap 61 = .ok (.iconst 2, 1) := by decide +kernel
theorem d_Hands_doSwap_62 : decode b_Hands_doSwap 62 = .ok (.ireturn, 1) := by decide +kernel
theorem d_Hands_doSwap_63 : decode b_Hands_doSwap 63 = .ok (.aload_n 1, 1) := by decide +kernel
theorem d_Hands_doSwap_64 : decode b_Hands_doSwap 64 = .ok (.iload_n 2, 1) := by decide +kernel
theorem d_Hands_doSwap_65 : decode b_Hands_doSwap 65 = .ok (.aload_n 0, 1) := by decide +kernel
theorem d_Hands_doSwap_66 : decode b_Hands_doSwap 66 = .ok (.getfield 14, 3) := by decide +kernel
theorem d_Hands_doSwap_69 : decode b_Hands_doSwap 69 = .ok (.iload_n 3, 1) := by decide +kernel
theorem d_Hands_doSwap_70 : decode b_Hands_doSwap 70 = .ok (.invokevirtual 36, 3) := by decide +kernel
theorem d_Hands_doSwap_73 : decode b_Hands_doSwap 73 = .ok (.invokevirtual 40, 3) := by decide +kernel
theorem d_Hands_doSwap_76 : decode b_Hands_doSwap 76 = .ok (.aload_n 1, 1) := by decide +kernel
theorem d_Hands_doSwap_77 : decode b_Hands_doSwap 77 = .ok (.iload_n 2, 1) := by decide +kernel
theorem d_Hands_doSwap_78 : decode b_Hands_doSwap 78 = .ok (.aload_n 0, 1) := by decide +kernel
theorem d_Hands_doSwap_79 : decode b_Hands_doSwap 79 = .ok (.getfield 14, 3) := by decide +kernel
theorem d_Hands_doSwap_82 : decode b_Hands_doSwap 82 = .ok (.iload_n 2, 1) := by decide +kernel
theorem d_Hands_doSwap_83 : decode b_Hands_doSwap 83 = .ok (.invokevirtual 36, 3) := by decide +kernel
theorem d_Hands_doSwap_86 : decode b_Hands_doSwap 86 = .ok (.invokevirtual 40, 3) := by decide +kernel
theorem d_Hands_doSwap_89 : decode b_Hands_doSwap 89 = .ok (.if_icmp .lt 32, 3) := by decide +kernel
theorem d_Hands_doSwap_92 : decode b_Hands_doSwap 92 = .ok (.aload_n 1, 1) := by decide +kernel
theorem d_Hands_doSwap_93 : decode b_Hands_doSwap 93 = .ok (.iload_n 3, 1) := by decide +kernel
theorem d_Hands_doSwap_94 : decode b_Hands_doSwap 94 = .ok (.aload_n 0, 1) := by decide +kernel
theorem d_Hands_doSwap_95 : decode b_Hands_doSwap 95 = .ok (.getfield 14, 3) := by decide +kernel
theorem d_Hands_doSwap_98 : decode b_Hands_doSwap 98 = .ok (.iload_n 2, 1) := by decide +kernel
theorem d_Hands_doSwap_99 : decode b_Hands_doSwap 99 = .ok (.invokevirtual 36, 3) := by decide +kernel
theorem d_Hands_doSwap_102 : decode b_Hands_doSwap 102 = .ok (.invokevirtual 40, 3) := by decide +kernel
theorem d_Hands_doSwap_105 : decode b_Hands_doSwap 105 = .ok (.aload_n 1, 1) := by decide +kernel
theorem d_Hands_doSwap_106 : decode b_Hands_doSwap 106 = .ok (.iload_n 3, 1) := by decide +kernel
theorem d_Hands_doSwap_107 : decode b_Hands_doSwap 107 = .ok (.aload_n 0, 1) := by decide +kernel
theorem d_Hands_doSwap_108 : decode b_Hands_doSwap 108 = .ok (.getfield 14, 3) := by decide +kernel
theorem d_Hands_doSwap_111 : decode b_Hands_doSwap 111 = .ok (.iload_n 3, 1) := by decide +kernel
theorem d_Hands_doSwap_112 : decode b_Hands_doSwap 112 = .ok (.invokevirtual 36, 3) := by decide +kernel
theorem d_Hands_doSwap_115 : decode b_Hands_doSwap 115 = .ok (.invokevirtual 40, 3) := by decide +kernel
theorem d_Hands_doSwap_118 : decode b_Hands_doSwap 118 = .ok (.if_icmp .ge 5, 3) := by decide +kernel
theorem d_Hands_doSwap_121 : decode b_Hands_doSwap 121 = .ok (.iconst 3, 1) := by decide +kernel
theorem d_Hands_doSwap_122 : decode b_Hands_doSwap 122 = .ok (.ireturn, 1) := by decide +kernel
theorem d_Hands_doSwap_123 : decode b_Hands_doSwap 123 = .ok (.aload_n 0, 1) := by decide +kernel
theorem d_Hands_doSwap_124 : decode b_Hands_doSwap 124 = .ok (.iload_n 2, 1) := by decide +kernel
theorem d_Hands_doSwap_125 : decode b_Hands_doSwap 125 = .ok (.iload_n 3, 1) := by decide +kernel
theorem d_Hands_doSwap_126 : decode b_Hands_doSwap 126 = .ok (.invokevirtual 111, 3) := by decide +kernel
theorem d_Hands_doSwap_129 : decode b_Hands_doSwap 129 = .ok (.iconst 0, 1) := by decide +kernel
theorem d_Hands_doSwap_130 : decode b_Hands_doSwap 130 = .ok (.ireturn, 1) := by decide +kernel
noncomputable def f_Hands_doSwap (z : Nat → Nat) (σ : Mm) (o : Nat) (o1 : Nat) (p2 : Int32) (p3 : Int32) : Option (Int32 × Mm) :=
  if p2 = p3 then (
    some ((1 : Int32), σ)
  ) else (
    (f_Row_at z σ (o + 1) p2).bind fun q10 =>
    if q10 = ((-1) : Int32) then (
      some ((1 : Int32), σ)
    ) else (
      (f_Row_at z σ (o + 1) p3).bind fun q22 =>
      if q22 = ((-1) : Int32) then (
        some ((1 : Int32), σ)
      ) else (
        (f_Row_at z σ (o + 1) p2).bind fun q37 =>
        (f_Island_isPawned z σ o1 q37).bind fun q40 =>
        if q40 = 0 then (
          (f_Row_at z σ (o + 1) p3).bind fun q52 =>
          (f_Island_isPawned z σ o1 q52).bind fun q55 =>
          if q55 = 0 then (
            (f_Row_at z σ (o + 1) p3).bind fun q70 =>
            (f_Island_valueFor z σ o1 p2 q70).bind fun q73 =>
            (f_Row_at z σ (o + 1) p2).bind fun q83 =>
            (f_Island_valueFor z σ o1 p2 q83).bind fun q86 =>
            if q73 < q86 then (
              some ((3 : Int32), σ)
            ) else (
              (f_Row_at z σ (o + 1) p2).bind fun q99 =>
              (f_Island_valueFor z σ o1 p3 q99).bind fun q102 =>
              (f_Row_at z σ (o + 1) p3).bind fun q112 =>
              (f_Island_valueFor z σ o1 p3 q112).bind fun q115 =>
              if q115 ≤ q102 then (
                (f_Hands_exchange z σ o p2 p3).bind fun q126 =>
                some ((0 : Int32), q126)
              ) else (
                some ((3 : Int32), σ)
              )
            )
          ) else (
            some ((2 : Int32), σ)
          )
        ) else (
          some ((2 : Int32), σ)
        )
      )
    )
  )
set_option maxHeartbeats 4000000 in
set_option maxRecDepth 100000 in
theorem c_Hands_doSwap (l : Launch) {L : Ly} (hg : gd_ok L) {σ : Mm} {o : Nat} {o1 : Nat} {p2 : Int32} {p3 : Int32} (k_o_0 : ly_k L o = 3) (k_o1_0 : ly_k L o1 = 2) {res : Int32 × Mm} (hf0 : f_Hands_doSwap (ly_z L) σ o o1 p2 p3 = some res) : CtI l y_Hands_doSwap b_Hands_doSwap 4 (some .int) rm_Hands_doSwap L [.ref (ly_a L o), .ref (ly_a L o1), .int p2, .int p3] σ res.1 res.2 := by
  refine ct_i hg (by decide) (Nat.le_of_ble_eq_true rfl) ?_
  intro E A Q hE C hN
  subst hE
  have k_o_1 : ly_k L (o + 1) = 0 := gd_Hands_held hg k_o_0
  unfold f_Hands_doSwap at hf0
  show GW E L A 4 0 0 Q σ 0 [(0, .ref (ly_a L o)), (1, .ref (ly_a L o1)), (2, .int p2), (3, .int p3)] []
  refine gw_iload_n C 2 d_Hands_doSwap_0 rfl rfl ?_
  refine gw_iload_n C 3 d_Hands_doSwap_1 rfl rfl ?_
  refine gw_icmp_eq C 29 d_Hands_doSwap_2 (by decide) (fun hc => ?_) (fun hc => ?_)
  · replace hf0 := mx_t hc hf0
    refine gw_iconst C (1 : Int32) d_Hands_doSwap_29 (by decide) ?_
    exact en_i hN hf0 d_Hands_doSwap_30
  · replace hf0 := mx_f hc hf0
    refine gw_aload_n C 0 d_Hands_doSwap_5 rfl rfl ?_
    refine gw_getA C 0 d_Hands_doSwap_6 k_o_0 (by decide) i_Hands rfl rfl (by decide) qw_186 rfl rfl (o + 1) rfl ?_
    refine gw_iload_n C 2 d_Hands_doSwap_9 rfl rfl ?_
    obtain ⟨q10, hq10, hf0⟩ := mx_bd hf0
    refine gw_callI C (c_Row_at _ hg k_o_1 hq10) d_Hands_doSwap_10 1 qw_609 qw_489 qw_490 qw_4 qw_491 k_o_1 (by decide) rfl hd_Row_at rfl rfl (Nat.le_of_ble_eq_true rfl) ⟨rfl, rfl, Nat.le_of_ble_eq_true rfl, Nat.le_of_ble_eq_true rfl⟩ ⟨Nat.zero_le _, Nat.zero_le _⟩ ?_
    refine gw_iconst C ((-1) : Int32) d_Hands_doSwap_13 (by decide) ?_
    refine gw_icmp_eq C 29 d_Hands_doSwap_14 (by decide) (fun hc => ?_) (fun hc => ?_)
    · replace hf0 := mx_t hc hf0
      refine gw_iconst C (1 : Int32) d_Hands_doSwap_29 (by decide) ?_
      exact en_i hN hf0 d_Hands_doSwap_30
    · replace hf0 := mx_f hc hf0
      refine gw_aload_n C 0 d_Hands_doSwap_17 rfl rfl ?_
      refine gw_getA C 0 d_Hands_doSwap_18 k_o_0 (by decide) i_Hands rfl rfl (by decide) qw_186 rfl rfl (o + 1) rfl ?_
      refine gw_iload_n C 3 d_Hands_doSwap_21 rfl rfl ?_
      obtain ⟨q22, hq22, hf0⟩ := mx_bd hf0
      refine gw_callI C (c_Row_at _ hg k_o_1 hq22) d_Hands_doSwap_22 1 qw_609 qw_489 qw_490 qw_4 qw_491 k_o_1 (by decide) rfl hd_Row_at rfl rfl (Nat.le_of_ble_eq_true rfl) ⟨rfl, rfl, Nat.le_of_ble_eq_true rfl, Nat.le_of_ble_eq_true rfl⟩ ⟨Nat.zero_le _, Nat.zero_le _⟩ ?_
      refine gw_iconst C ((-1) : Int32) d_Hands_doSwap_25 (by decide) ?_
      refine gw_icmp_ne C 31 d_Hands_doSwap_26 (by decide) (fun hc => ?_) (fun hc => ?_)
      · replace hf0 := mx_f hc hf0
        refine gw_aload_n C 1 d_Hands_doSwap_31 rfl rfl ?_
        refine gw_aload_n C 0 d_Hands_doSwap_32 rfl rfl ?_
        refine gw_getA C 0 d_Hands_doSwap_33 k_o_0 (by decide) i_Hands rfl rfl (by decide) qw_186 rfl rfl (o + 1) rfl ?_
        refine gw_iload_n C 2 d_Hands_doSwap_36 rfl rfl ?_
        obtain ⟨q37, hq37, hf0⟩ := mx_bd hf0
        refine gw_callI C (c_Row_at _ hg k_o_1 hq37) d_Hands_doSwap_37 1 qw_609 qw_489 qw_490 qw_4 qw_491 k_o_1 (by decide) rfl hd_Row_at rfl rfl (Nat.le_of_ble_eq_true rfl) ⟨rfl, rfl, Nat.le_of_ble_eq_true rfl, Nat.le_of_ble_eq_true rfl⟩ ⟨Nat.zero_le _, Nat.zero_le _⟩ ?_
        obtain ⟨q40, hq40, hf0⟩ := mx_bd hf0
        refine gw_callI C (c_Island_isPawned _ hg k_o1_0 hq40) d_Hands_doSwap_40 1 qw_783 qw_784 qw_785 qw_6 qw_786 k_o1_0 (by decide) rfl hd_Island_isPawned rfl rfl (Nat.le_of_ble_eq_true rfl) ⟨rfl, rfl, Nat.le_of_ble_eq_true rfl, Nat.le_of_ble_eq_true rfl⟩ ⟨Nat.zero_le _, Nat.zero_le _⟩ ?_
        refine gw_if_ne C 61 d_Hands_doSwap_43 (by decide) (fun hc => ?_) (fun hc => ?_)
        · replace hf0 := mx_f hc hf0
          refine gw_iconst C (2 : Int32) d_Hands_doSwap_61 (by decide) ?_
          exact en_i hN hf0 d_Hands_doSwap_62
        · replace hf0 := mx_t hc hf0
          refine gw_aload_n C 1 d_Hands_doSwap_46 rfl rfl ?_
          refine gw_aload_n C 0 d_Hands_doSwap_47 rfl rfl ?_
          refine gw_getA C 0 d_Hands_doSwap_48 k_o_0 (by decide) i_Hands rfl rfl (by decide) qw_186 rfl rfl (o + 1) rfl ?_
          refine gw_iload_n C 3 d_Hands_doSwap_51 rfl rfl ?_
          obtain ⟨q52, hq52, hf0⟩ := mx_bd hf0
          refine gw_callI C (c_Row_at _ hg k_o_1 hq52) d_Hands_doSwap_52 1 qw_609 qw_489 qw_490 qw_4 qw_491 k_o_1 (by decide) rfl hd_Row_at rfl rfl (Nat.le_of_ble_eq_true rfl) ⟨rfl, rfl, Nat.le_of_ble_eq_true rfl, Nat.le_of_ble_eq_true rfl⟩ ⟨Nat.zero_le _, Nat.zero_le _⟩ ?_
          obtain ⟨q55, hq55, hf0⟩ := mx_bd hf0
          refine gw_callI C (c_Island_isPawned _ hg k_o1_0 hq55) d_Hands_doSwap_55 1 qw_783 qw_784 qw_785 qw_6 qw_786 k_o1_0 (by decide) rfl hd_Island_isPawned rfl rfl (Nat.le_of_ble_eq_true rfl) ⟨rfl, rfl, Nat.le_of_ble_eq_true rfl, Nat.le_of_ble_eq_true rfl⟩ ⟨Nat.zero_le _, Nat.zero_le _⟩ ?_
          refine gw_if_eq C 63 d_Hands_doSwap_58 (by decide) (fun hc => ?_) (fun hc => ?_)
          · replace hf0 := mx_t hc hf0
            refine gw_aload_n C 1 d_Hands_doSwap_63 rfl rfl ?_
            refine gw_iload_n C 2 d_Hands_doSwap_64 rfl rfl ?_
            refine gw_aload_n C 0 d_Hands_doSwap_65 rfl rfl ?_
            refine gw_getA C 0 d_Hands_doSwap_66 k_o_0 (by decide) i_Hands rfl rfl (by decide) qw_186 rfl rfl (o + 1) rfl ?_
            refine gw_iload_n C 3 d_Hands_doSwap_69 rfl rfl ?_
            obtain ⟨q70, hq70, hf0⟩ := mx_bd hf0
            refine gw_callI C (c_Row_at _ hg k_o_1 hq70) d_Hands_doSwap_70 1 qw_609 qw_489 qw_490 qw_4 qw_491 k_o_1 (by decide) rfl hd_Row_at rfl rfl (Nat.le_of_ble_eq_true rfl) ⟨rfl, rfl, Nat.le_of_ble_eq_true rfl, Nat.le_of_ble_eq_true rfl⟩ ⟨Nat.zero_le _, Nat.zero_le _⟩ ?_
            obtain ⟨q73, hq73, hf0⟩ := mx_bd hf0
            refine gw_callI C (c_Island_valueFor _ hg k_o1_0 hq73) d_Hands_doSwap_73 2 qw_765 qw_757 qw_758 qw_6 qw_759 k_o1_0 (by decide) rfl hd_Island_valueFor rfl rfl (Nat.le_of_ble_eq_true rfl) ⟨rfl, rfl, Nat.le_of_ble_eq_true rfl, Nat.le_of_ble_eq_true rfl⟩ ⟨Nat.zero_le _, Nat.zero_le _⟩ ?_
            refine gw_aload_n C 1 d_Hands_doSwap_76 rfl rfl ?_
            refine gw_iload_n C 2 d_Hands_doSwap_77 rfl rfl ?_
            refine gw_aload_n C 0 d_Hands_doSwap_78 rfl rfl ?_
            refine gw_getA C 0 d_Hands_doSwap_79 k_o_0 (by decide) i_Hands rfl rfl (by decide) qw_186 rfl rfl (o + 1) rfl ?_
            refine gw_iload_n C 2 d_Hands_doSwap_82 rfl rfl ?_
            obtain ⟨q83, hq83, hf0⟩ := mx_bd hf0
            refine gw_callI C (c_Row_at _ hg k_o_1 hq83) d_Hands_doSwap_83 1 qw_609 qw_489 qw_490 qw_4 qw_491 k_o_1 (by decide) rfl hd_Row_at rfl rfl (Nat.le_of_ble_eq_true rfl) ⟨rfl, rfl, Nat.le_of_ble_eq_true rfl, Nat.le_of_ble_eq_true rfl⟩ ⟨Nat.zero_le _, Nat.zero_le _⟩ ?_
            obtain ⟨q86, hq86, hf0⟩ := mx_bd hf0
            refine gw_callI C (c_Island_valueFor _ hg k_o1_0 hq86) d_Hands_doSwap_86 2 qw_765 qw_757 qw_758 qw_6 qw_759 k_o1_0 (by decide) rfl hd_Island_valueFor rfl rfl (Nat.le_of_ble_eq_true rfl) ⟨rfl, rfl, Nat.le_of_ble_eq_true rfl, Nat.le_of_ble_eq_true rfl⟩ ⟨Nat.zero_le _, Nat.zero_le _⟩ ?_
            refine gw_icmp_lt C 121 d_Hands_doSwap_89 (by decide) (fun hc => ?_) (fun hc => ?_)
            · replace hf0 := mx_t hc hf0
              refine gw_iconst C (3 : Int32) d_Hands_doSwap_121 (by decide) ?_
              exact en_i hN hf0 d_Hands_doSwap_122
            · replace hf0 := mx_f hc hf0
              refine gw_aload_n C 1 d_Hands_doSwap_92 rfl rfl ?_
              refine gw_iload_n C 3 d_Hands_doSwap_93 rfl rfl ?_
              refine gw_aload_n C 0 d_Hands_doSwap_94 rfl rfl ?_
              refine gw_getA C 0 d_Hands_doSwap_95 k_o_0 (by decide) i_Hands rfl rfl (by decide) qw_186 rfl rfl (o + 1) rfl ?_
              refine gw_iload_n C 2 d_Hands_doSwap_98 rfl rfl ?_
              obtain ⟨q99, hq99, hf0⟩ := mx_bd hf0
              refine gw_callI C (c_Row_at _ hg k_o_1 hq99) d_Hands_doSwap_99 1 qw_609 qw_489 qw_490 qw_4 qw_491 k_o_1 (by decide) rfl hd_Row_at rfl rfl (Nat.le_of_ble_eq_true rfl) ⟨rfl, rfl, Nat.le_of_ble_eq_true rfl, Nat.le_of_ble_eq_true rfl⟩ ⟨Nat.zero_le _, Nat.zero_le _⟩ ?_
              obtain ⟨q102, hq102, hf0⟩ := mx_bd hf0
              refine gw_callI C (c_Island_valueFor _ hg k_o1_0 hq102) d_Hands_doSwap_102 2 qw_765 qw_757 qw_758 qw_6 qw_759 k_o1_0 (by decide) rfl hd_Island_valueFor rfl rfl (Nat.le_of_ble_eq_true rfl) ⟨rfl, rfl, Nat.le_of_ble_eq_true rfl, Nat.le_of_ble_eq_true rfl⟩ ⟨Nat.zero_le _, Nat.zero_le _⟩ ?_
              refine gw_aload_n C 1 d_Hands_doSwap_105 rfl rfl ?_
              refine gw_iload_n C 3 d_Hands_doSwap_106 rfl rfl ?_
              refine gw_aload_n C 0 d_Hands_doSwap_107 rfl rfl ?_
              refine gw_getA C 0 d_Hands_doSwap_108 k_o_0 (by decide) i_Hands rfl rfl (by decide) qw_186 rfl rfl (o + 1) rfl ?_
              refine gw_iload_n C 3 d_Hands_doSwap_111 rfl rfl ?_
              obtain ⟨q112, hq112, hf0⟩ := mx_bd hf0
              refine gw_callI C (c_Row_at _ hg k_o_1 hq112) d_Hands_doSwap_112 1 qw_609 qw_489 qw_490 qw_4 qw_491 k_o_1 (by decide) rfl hd_Row_at rfl rfl (Nat.le_of_ble_eq_true rfl) ⟨rfl, rfl, Nat.le_of_ble_eq_true rfl, Nat.le_of_ble_eq_true rfl⟩ ⟨Nat.zero_le _, Nat.zero_le _⟩ ?_
              obtain ⟨q115, hq115, hf0⟩ := mx_bd hf0
              refine gw_callI C (c_Island_valueFor _ hg k_o1_0 hq115) d_Hands_doSwap_115 2 qw_765 qw_757 qw_758 qw_6 qw_759 k_o1_0 (by decide) rfl hd_Island_valueFor rfl rfl (Nat.le_of_ble_eq_true rfl) ⟨rfl, rfl, Nat.le_of_ble_eq_true rfl, Nat.le_of_ble_eq_true rfl⟩ ⟨Nat.zero_le _, Nat.zero_le _⟩ ?_
              refine gw_icmp_ge C 123 d_Hands_doSwap_118 (by decide) (fun hc => ?_) (fun hc => ?_)
              · replace hf0 := mx_t hc hf0
                refine gw_aload_n C 0 d_Hands_doSwap_123 rfl rfl ?_
                refine gw_iload_n C 2 d_Hands_doSwap_124 rfl rfl ?_
                refine gw_iload_n C 3 d_Hands_doSwap_125 rfl rfl ?_
                obtain ⟨q126, hq126, hf0⟩ := mx_bd hf0
                refine gw_callV C (c_Hands_exchange _ hg k_o_0 hq126) d_Hands_doSwap_126 2 qw_852 qw_788 qw_789 qw_8 qw_790 k_o_0 (by decide) rfl hd_Hands_exchange rfl rfl (Nat.le_of_ble_eq_true rfl) ⟨rfl, rfl, Nat.le_of_ble_eq_true rfl, Nat.le_of_ble_eq_true rfl⟩ ⟨Nat.zero_le _, Nat.zero_le _⟩ ?_
                refine gw_iconst C (0 : Int32) d_Hands_doSwap_129 (by decide) ?_
                exact en_i hN hf0 d_Hands_doSwap_130
              · replace hf0 := mx_f hc hf0
                refine gw_iconst C (3 : Int32) d_Hands_doSwap_121 (by decide) ?_
                exact en_i hN hf0 d_Hands_doSwap_122
          · replace hf0 := mx_f hc hf0
            refine gw_iconst C (2 : Int32) d_Hands_doSwap_61 (by decide) ?_
            exact en_i hN hf0 d_Hands_doSwap_62
      · replace hf0 := mx_t hc hf0
        refine gw_iconst C (1 : Int32) d_Hands_doSwap_29 (by decide) ?_
        exact en_i hN hf0 d_Hands_doSwap_30

/-! NameHat.Hands.doGive(LNameHat.Island;II)I -/
abbrev b_Hands_doGive : ByteArray := prog_3_method_18_code
def y_Hands_doGive : MethodName := ⟨"NameHat$Hands", "doGive", "(LNameHat$Island;II)I"⟩
abbrev rm_Hands_doGive : Room := { frames := 3, cells := 0, slots := 0, locals := 67 }
theorem hd_Hands_doGive : y_Hands_doGive.cls ≠ "java/lang/invoke/MethodHandle" ∧ y_Hands_doGive.cls ≠ "java/lang/invoke/VarHandle" ∧ (parseMethodDescriptor y_Hands_doGive.desc).map (fun d => d.parameters.length) = some 3 := by decide +kernel
theorem d_Hands_doGive_0 : decode b_Hands_doGive 0 = .ok (.iload_n 2, 1) := by decide +kernel
theorem d_Hands_doGive_1 : decode b_Hands_doGive 1 = .ok (.iload_n 3, 1) := by decide +kernel
theorem d_Hands_doGive_2 : decode b_Hands_doGive 2 = .ok (.if_icmp .eq 27, 3) := by decide +kernel
theorem d_Hands_doGive_5 : decode b_Hands_doGive 5 = .ok (.aload_n 0, 1) := by decide +kernel
theorem d_Hands_doGive_6 : decode b_Hands_doGive 6 = .ok (.getfield 14, 3) := by decide +kernel
theorem d_Hands_doGive_9 : decode b_Hands_doGive 9 = .ok (.iload_n 2, 1) := by decide +kernel
theorem d_Hands_doGive_10 : decode b_Hands_doGive 10 = .ok (.invokevirtual 36, 3) := by decide +kernel
theorem d_Hands_doGive_13 : decode b_Hands_doGive 13 = .ok (.iconst (-1), 1) := by decide +kernel
theorem d_Hands_doGive_14 : decode b_Hands_doGive 14 = .ok (.if_icmp .eq 15, 3) := by decide +kernel
theorem d_Hands_doGive_17 : decode b_Hands_doGive 17 = .ok (.aload_n 0, 1) := by decide +kernel
theorem d_Hands_doGive_18 : decode b_Hands_doGive 18 = .ok (.getfield 14, 3) := by decide +kernel
theorem d_Hands_doGive_21 : decode b_Hands_doGive 21 = .ok (.iload_n 3, 1) := by decide +kernel
theorem d_Hands_doGive_22 : decode b_Hands_doGive 22 = .ok (.invokevirtual 36, 3) := by decide +kernel
theorem d_Hands_doGive_25 : decode b_Hands_doGive 25 = .ok (.iconst (-1), 1) := by decide +kernel
theorem d_Hands_doGive_26 : decode b_Hands_doGive 26 = .ok (.if_icmp .eq 5, 3) := by decide +kernel
theorem d_Hands_doGive_29 : decode b_Hands_doGive 29 = .ok (.iconst 1, 1) := by decide +kernel
theorem d_Hands_doGive_30 : decode b_Hands_doGive 30 = .ok (.ireturn, 1) := by decide +kernel
theorem d_Hands_doGive_31 : decode b_Hands_doGive 31 = .ok (.aload_n 1, 1) := by decide +kernel
theorem d_Hands_doGive_32 : decode b_Hands_doGive 32 = .ok (.aload_n 0, 1) := by decide +kernel
theorem d_Hands_doGive_33 : decode b_Hands_doGive 33 = .ok (.getfield 14, 3) := by decide +kernel
theorem d_Hands_doGive_36 : decode b_Hands_doGive 36 = .ok (.iload_n 2, 1) := by decide +kernel
theorem d_Hands_doGive_37 : decode b_Hands_doGive 37 = .ok (.invokevirtual 36, 3) := by decide +kernel
theorem d_Hands_doGive_40 : decode b_Hands_doGive 40 = .ok (.invokevirtual 64, 3) := by decide +kernel
theorem d_Hands_doGive_43 : decode b_Hands_doGive 43 = .ok (.ifCond .eq 5, 3) := by decide +kernel
theorem d_Hands_doGive_46 : decode b_Hands_doGive 46 = .ok (.iconst 2, 1) := by decide +kernel
theorem d_Hands_doGive_47 : decode b_Hands_doGive 47 = .ok (.ireturn, 1) := by decide +kernel
theorem d_Hands_doGive_48 : decode b_Hands_doGive 48 = .ok (.aload_n 1, 1) := by decide +kernel
theorem d_Hands_doGive_49 : decode b_Hands_doGive 49 = .ok (.iload_n 3, 1) := by decide +kernel
theorem d_Hands_doGive_50 : decode b_Hands_doGive 50 = .ok (.aload_n 0, 1) := by decide +kernel
theorem d_Hands_doGive_51 : decode b_Hands_doGive 51 = .ok (.getfield 14, 3) := by decide +kernel
theorem d_Hands_doGive_54 : decode b_Hands_doGive 54 = .ok (.iload_n 2, 1) := by decide +kernel
theorem d_Hands_doGive_55 : decode b_Hands_doGive 55 = .ok (.invokevirtual 36, 3) := by decide +kernel
theorem d_Hands_doGive_58 : decode b_Hands_doGive 58 = .ok (.invokevirtual 40, 3) := by decide +kernel
theorem d_Hands_doGive_61 : decode b_Hands_doGive 61 = .ok (.ifCond .ge 5, 3) := by decide +kernel
theorem d_Hands_doGive_64 : decode b_Hands_doGive 64 = .ok (.iconst 3, 1) := by decide +kernel
theorem d_Hands_doGive_65 : decode b_Hands_doGive 65 = .ok (.ireturn, 1) := by decide +kernel
theorem d_Hands_doGive_66 : decode b_Hands_doGive 66 = .ok (.aload_n 0, 1) := by decide +kernel
theorem d_Hands_doGive_67 : decode b_Hands_doGive 67 = .ok (.iload_n 2, 1) := by decide +kernel
theorem d_Hands_doGive_68 : decode b_Hands_doGive 68 = .ok (.iload_n 3, 1) := by decide +kernel
theorem d_Hands_doGive_69 : decode b_Hands_doGive 69 = .ok (.invokevirtual 111, 3) := by decide +kernel
theorem d_Hands_doGive_72 : decode b_Hands_doGive 72 = .ok (.iconst 0, 1) := by decide +kernel
theorem d_Hands_doGive_73 : decode b_Hands_doGive 73 = .ok (.ireturn, 1) := by decide +kernel
noncomputable def f_Hands_doGive (z : Nat → Nat) (σ : Mm) (o : Nat) (o1 : Nat) (p2 : Int32) (p3 : Int32) : Option (Int32 × Mm) :=
  if p2 = p3 then (
    some ((1 : Int32), σ)
  ) else (
    (f_Row_at z σ (o + 1) p2).bind fun q10 =>
    if q10 = ((-1) : Int32) then (
      some ((1 : Int32), σ)
    ) else (
      (f_Row_at z σ (o + 1) p3).bind fun q22 =>
      if q22 = ((-1) : Int32) then (
        (f_Row_at z σ (o + 1) p2).bind fun q37 =>
        (f_Island_isPawned z σ o1 q37).bind fun q40 =>
        if q40 = 0 then (
          (f_Row_at z σ (o + 1) p2).bind fun q55 =>
          (f_Island_valueFor z σ o1 p3 q55).bind fun q58 =>
          if 0 ≤ q58 then (
            (f_Hands_exchange z σ o p2 p3).bind fun q69 =>
            some ((0 : Int32), q69)
          ) else (
            some ((3 : Int32), σ)
          )
        ) else (
          some ((2 : Int32), σ)
        )
      ) else (
        some ((1 : Int32), σ)
      )
    )
  )
set_option maxHeartbeats 4000000 in
set_option maxRecDepth 100000 in
theorem c_Hands_doGive (l : Launch) {L : Ly} (hg : gd_ok L) {σ : Mm} {o : Nat} {o1 : Nat} {p2 : Int32} {p3 : Int32} (k_o_0 : ly_k L o = 3) (k_o1_0 : ly_k L o1 = 2) {res : Int32 × Mm} (hf0 : f_Hands_doGive (ly_z L) σ o o1 p2 p3 = some res) : CtI l y_Hands_doGive b_Hands_doGive 4 (some .int) rm_Hands_doGive L [.ref (ly_a L o), .ref (ly_a L o1), .int p2, .int p3] σ res.1 res.2 := by
  refine ct_i hg (by decide) (Nat.le_of_ble_eq_true rfl) ?_
  intro E A Q hE C hN
  subst hE
  have k_o_1 : ly_k L (o + 1) = 0 := gd_Hands_held hg k_o_0
  unfold f_Hands_doGive at hf0
  show GW E L A 4 0 0 Q σ 0 [(0, .ref (ly_a L o)), (1, .ref (ly_a L o1)), (2, .int p2), (3, .int p3)] []
  refine gw_iload_n C 2 d_Hands_doGive_0 rfl rfl ?_
  refine gw_iload_n C 3 d_Hands_doGive_1 rfl rfl ?_
  refine gw_icmp_eq C 29 d_Hands_doGive_2 (by decide) (fun hc => ?_) (fun hc => ?_)
  · replace hf0 := mx_t hc hf0
    refine gw_iconst C (1 : Int32) d_Hands_doGive_29 (by decide) ?_
    exact en_i hN hf0 d_Hands_doGive_30
  · replace hf0 := mx_f hc hf0
    refine gw_aload_n C 0 d_Hands_doGive_5 rfl rfl ?_
    refine gw_getA C 0 d_Hands_doGive_6 k_o_0 (by decide) i_Hands rfl rfl (by decide) qw_186 rfl rfl (o + 1) rfl ?_
    refine gw_iload_n C 2 d_Hands_doGive_9 rfl rfl ?_
    obtain ⟨q10, hq10, hf0⟩ := mx_bd hf0
    refine gw_callI C (c_Row_at _ hg k_o_1 hq10) d_Hands_doGive_10 1 qw_609 qw_489 qw_490 qw_4 qw_491 k_o_1 (by decide) rfl hd_Row_at rfl rfl (Nat.le_of_ble_eq_true rfl) ⟨rfl, rfl, Nat.le_of_ble_eq_true rfl, Nat.le_of_ble_eq_true rfl⟩ ⟨Nat.zero_le _, Nat.zero_le _⟩ ?_
    refine gw_iconst C ((-1) : Int32) d_Hands_doGive_13 (by decide) ?_
    refine gw_icmp_eq C 29 d_Hands_doGive_14 (by decide) (fun hc => ?_) (fun hc => ?_)
    · replace hf0 := mx_t hc hf0
      refine gw_iconst C (1 : Int32) d_Hands_doGive_29 (by decide) ?_
      exact en_i hN hf0 d_Hands_doGive_30
    · replace hf0 := mx_f hc hf0
      refine gw_aload_n C 0 d_Hands_doGive_17 rfl rfl ?_
      refine gw_getA C 0 d_Hands_doGive_18 k_o_0 (by decide) i_Hands rfl rfl (by decide) qw_186 rfl rfl (o + 1) rfl ?_
      refine gw_iload_n C 3 d_Hands_doGive_21 rfl rfl ?_
      obtain ⟨q22, hq22, hf0⟩ := mx_bd hf0
      refine gw_callI C (c_Row_at _ hg k_o_1 hq22) d_Hands_doGive_22 1 qw_609 qw_489 qw_490 qw_4 qw_491 k_o_1 (by decide) rfl hd_Row_at rfl rfl (Nat.le_of_ble_eq_true rfl) ⟨rfl, rfl, Nat.le_of_ble_eq_true rfl, Nat.le_of_ble_eq_true rfl⟩ ⟨Nat.zero_le _, Nat.zero_le _⟩ ?_
      refine gw_iconst C ((-1) : Int32) d_Hands_doGive_25 (by decide) ?_
      refine gw_icmp_eq C 31 d_Hands_doGive_26 (by decide) (fun hc => ?_) (fun hc => ?_)
      · replace hf0 := mx_t hc hf0
        refine gw_aload_n C 1 d_Hands_doGive_31 rfl rfl ?_
        refine gw_aload_n C 0 d_Hands_doGive_32 rfl rfl ?_
        refine gw_getA C 0 d_Hands_doGive_33 k_o_0 (by decide) i_Hands rfl rfl (by decide) qw_186 rfl rfl (o + 1) rfl ?_
        refine gw_iload_n C 2 d_Hands_doGive_36 rfl rfl ?_
        obtain ⟨q37, hq37, hf0⟩ := mx_bd hf0
        refine gw_callI C (c_Row_at _ hg k_o_1 hq37) d_Hands_doGive_37 1 qw_609 qw_489 qw_490 qw_4 qw_491 k_o_1 (by decide) rfl hd_Row_at rfl rfl (Nat.le_of_ble_eq_true rfl) ⟨rfl, rfl, Nat.le_of_ble_eq_true rfl, Nat.le_of_ble_eq_true rfl⟩ ⟨Nat.zero_le _, Nat.zero_le _⟩ ?_
        obtain ⟨q40, hq40, hf0⟩ := mx_bd hf0
        refine gw_callI C (c_Island_isPawned _ hg k_o1_0 hq40) d_Hands_doGive_40 1 qw_783 qw_784 qw_785 qw_6 qw_786 k_o1_0 (by decide) rfl hd_Island_isPawned rfl rfl (Nat.le_of_ble_eq_true rfl) ⟨rfl, rfl, Nat.le_of_ble_eq_true rfl, Nat.le_of_ble_eq_true rfl⟩ ⟨Nat.zero_le _, Nat.zero_le _⟩ ?_
        refine gw_if_eq C 48 d_Hands_doGive_43 (by decide) (fun hc => ?_) (fun hc => ?_)
        · replace hf0 := mx_t hc hf0
          refine gw_aload_n C 1 d_Hands_doGive_48 rfl rfl ?_
          refine gw_iload_n C 3 d_Hands_doGive_49 rfl rfl ?_
          refine gw_aload_n C 0 d_Hands_doGive_50 rfl rfl ?_
          refine gw_getA C 0 d_Hands_doGive_51 k_o_0 (by decide) i_Hands rfl rfl (by decide) qw_186 rfl rfl (o + 1) rfl ?_
          refine gw_iload_n C 2 d_Hands_doGive_54 rfl rfl ?_
          obtain ⟨q55, hq55, hf0⟩ := mx_bd hf0
          refine gw_callI C (c_Row_at _ hg k_o_1 hq55) d_Hands_doGive_55 1 qw_609 qw_489 qw_490 qw_4 qw_491 k_o_1 (by decide) rfl hd_Row_at rfl rfl (Nat.le_of_ble_eq_true rfl) ⟨rfl, rfl, Nat.le_of_ble_eq_true rfl, Nat.le_of_ble_eq_true rfl⟩ ⟨Nat.zero_le _, Nat.zero_le _⟩ ?_
          obtain ⟨q58, hq58, hf0⟩ := mx_bd hf0
          refine gw_callI C (c_Island_valueFor _ hg k_o1_0 hq58) d_Hands_doGive_58 2 qw_765 qw_757 qw_758 qw_6 qw_759 k_o1_0 (by decide) rfl hd_Island_valueFor rfl rfl (Nat.le_of_ble_eq_true rfl) ⟨rfl, rfl, Nat.le_of_ble_eq_true rfl, Nat.le_of_ble_eq_true rfl⟩ ⟨Nat.zero_le _, Nat.zero_le _⟩ ?_
          refine gw_if_ge C 66 d_Hands_doGive_61 (by decide) (fun hc => ?_) (fun hc => ?_)
          · replace hf0 := mx_t hc hf0
            refine gw_aload_n C 0 d_Hands_doGive_66 rfl rfl ?_
            refine gw_iload_n C 2 d_Hands_doGive_67 rfl rfl ?_
            refine gw_iload_n C 3 d_Hands_doGive_68 rfl rfl ?_
            obtain ⟨q69, hq69, hf0⟩ := mx_bd hf0
            refine gw_callV C (c_Hands_exchange _ hg k_o_0 hq69) d_Hands_doGive_69 2 qw_852 qw_788 qw_789 qw_8 qw_790 k_o_0 (by decide) rfl hd_Hands_exchange rfl rfl (Nat.le_of_ble_eq_true rfl) ⟨rfl, rfl, Nat.le_of_ble_eq_true rfl, Nat.le_of_ble_eq_true rfl⟩ ⟨Nat.zero_le _, Nat.zero_le _⟩ ?_
            refine gw_iconst C (0 : Int32) d_Hands_doGive_72 (by decide) ?_
            exact en_i hN hf0 d_Hands_doGive_73
          · replace hf0 := mx_f hc hf0
            refine gw_iconst C (3 : Int32) d_Hands_doGive_64 (by decide) ?_
            exact en_i hN hf0 d_Hands_doGive_65
        · replace hf0 := mx_f hc hf0
          refine gw_iconst C (2 : Int32) d_Hands_doGive_46 (by decide) ?_
          exact en_i hN hf0 d_Hands_doGive_47
      · replace hf0 := mx_f hc hf0
        refine gw_iconst C (1 : Int32) d_Hands_doGive_29 (by decide) ?_
        exact en_i hN hf0 d_Hands_doGive_30

/-! NameHat.Hands.doDrop(LNameHat.Island;I)I -/
abbrev b_Hands_doDrop : ByteArray := prog_3_method_19_code
def y_Hands_doDrop : MethodName := ⟨"NameHat$Hands", "doDrop", "(LNameHat$Island;I)I"⟩
abbrev rm_Hands_doDrop : Room := { frames := 2, cells := 0, slots := 0, locals := 42 }
theorem hd_Hands_doDrop : y_Hands_doDrop.cls ≠ "java/lang/invoke/MethodHandle" ∧ y_Hands_doDrop.cls ≠ "java/lang/invoke/VarHandle" ∧ (parseMethodDescriptor y_Hands_doDrop.desc).map (fun d => d.parameters.length) = some 2 := by decide +kernel
theorem d_Hands_doDrop_0 : decode b_Hands_doDrop 0 = .ok (.aload_n 0, 1) := by decide +kernel
theorem d_Hands_doDrop_1 : decode b_Hands_doDrop 1 = .ok (.getfield 14, 3) := by decide +kernel
theorem d_Hands_doDrop_4 : decode b_Hands_doDrop 4 = .ok (.iload_n 2, 1) := by decide +kernel
theorem d_Hands_doDrop_5 : decode b_Hands_doDrop 5 = .ok (.invokevirtual 36, 3) := by decide +kernel
theorem d_Hands_doDrop_8 : decode b_Hands_doDrop 8 = .ok (.iconst (-1), 1) := by decide +kernel
theorem d_Hands_doDrop_9 : decode b_Hands_doDrop 9 = .ok (.if_icmp .ne 5, 3) := by decide +kernel
theorem d_Hands_doDrop_12 : decode b_Hands_doDrop 12 = .ok (.iconst 1, 1) := by decide +kernel
theorem d_Hands_doDrop_13 : decode b_Hands_doDrop 13 = .ok (.ireturn, 1) := by decide +kernel
theorem d_Hands_doDrop_14 : decode b_Hands_doDrop 14 = .ok (.aload_n 1, 1) := by decide +kernel
theorem d_Hands_doDrop_15 : decode b_Hands_doDrop 15 = .ok (.aload_n 0, 1) := by decide +kernel
theorem d_Hands_doDrop_16 : decode b_Hands_doDrop 16 = .ok (.getfield 14, 3) := by decide +kernel
theorem d_Hands_doDrop_19 : decode b_Hands_doDrop 19 = .ok (.iload_n 2, 1) := by decide +kernel
theorem d_Hands_doDrop_20 : decode b_Hands_doDrop 20 = .ok (.invokevirtual 36, 3) := by decide +kernel
theorem d_Hands_doDrop_23 : decode b_Hands_doDrop 23 = .ok (.invokevirtual 64, 3) := by decide +kernel
theorem d_Hands_doDrop_26 : decode b_Hands_doDrop 26 = .ok (.ifCond .eq 5, 3) := by decide +kernel
theorem d_Hands_doDrop_29 : decode b_Hands_doDrop 29 = .ok (.iconst 2, 1) := by decide +kernel
theorem d_Hands_doDrop_30 : decode b_Hands_doDrop 30 = .ok (.ireturn, 1) := by decide +kernel
theorem d_Hands_doDrop_31 : decode b_Hands_doDrop 31 = .ok (.aload_n 0, 1) := by decide +kernel
theorem d_Hands_doDrop_32 : decode b_Hands_doDrop 32 = .ok (.getfield 14, 3) := by decide +kernel
theorem d_Hands_doDrop_35 : decode b_Hands_doDrop 35 = .ok (.iload_n 2, 1) := by decide +kernel
theorem d_Hands_doDrop_36 : decode b_Hands_doDrop 36 = .ok (.iconst (-1), 1) := by decide +kernel
theorem d_Hands_doDrop_37 : decode b_Hands_doDrop 37 = .ok (.invokevirtual 68, 3) := by decide +kernel
theorem d_Hands_doDrop_40 : decode b_Hands_doDrop 40 = .ok (.iconst 0, 1) := by decide +kernel
theorem d_Hands_doDrop_41 : decode b_Hands_doDrop 41 = .ok (.ireturn, 1) := by decide +kernel
noncomputable def f_Hands_doDrop (z : Nat → Nat) (σ : Mm) (o : Nat) (o1 : Nat) (p2 : Int32) : Option (Int32 × Mm) :=
  (f_Row_at z σ (o + 1) p2).bind fun q5 =>
  if q5 = ((-1) : Int32) then (
    some ((1 : Int32), σ)
  ) else (
    (f_Row_at z σ (o + 1) p2).bind fun q20 =>
    (f_Island_isPawned z σ o1 q20).bind fun q23 =>
    if q23 = 0 then (
      (f_Row_put z σ (o + 1) p2 ((-1) : Int32)).bind fun q37 =>
      some ((0 : Int32), q37)
    ) else (
      some ((2 : Int32), σ)
    )
  )
set_option maxHeartbeats 4000000 in
set_option maxRecDepth 100000 in
theorem c_Hands_doDrop (l : Launch) {L : Ly} (hg : gd_ok L) {σ : Mm} {o : Nat} {o1 : Nat} {p2 : Int32} (k_o_0 : ly_k L o = 3) (k_o1_0 : ly_k L o1 = 2) {res : Int32 × Mm} (hf0 : f_Hands_doDrop (ly_z L) σ o o1 p2 = some res) : CtI l y_Hands_doDrop b_Hands_doDrop 3 (some .int) rm_Hands_doDrop L [.ref (ly_a L o), .ref (ly_a L o1), .int p2] σ res.1 res.2 := by
  refine ct_i hg (by decide) (Nat.le_of_ble_eq_true rfl) ?_
  intro E A Q hE C hN
  subst hE
  have k_o_1 : ly_k L (o + 1) = 0 := gd_Hands_held hg k_o_0
  unfold f_Hands_doDrop at hf0
  show GW E L A 3 0 0 Q σ 0 [(0, .ref (ly_a L o)), (1, .ref (ly_a L o1)), (2, .int p2)] []
  refine gw_aload_n C 0 d_Hands_doDrop_0 rfl rfl ?_
  refine gw_getA C 0 d_Hands_doDrop_1 k_o_0 (by decide) i_Hands rfl rfl (by decide) qw_186 rfl rfl (o + 1) rfl ?_
  refine gw_iload_n C 2 d_Hands_doDrop_4 rfl rfl ?_
  obtain ⟨q5, hq5, hf0⟩ := mx_bd hf0
  refine gw_callI C (c_Row_at _ hg k_o_1 hq5) d_Hands_doDrop_5 1 qw_609 qw_489 qw_490 qw_4 qw_491 k_o_1 (by decide) rfl hd_Row_at rfl rfl (Nat.le_of_ble_eq_true rfl) ⟨rfl, rfl, Nat.le_of_ble_eq_true rfl, Nat.le_of_ble_eq_true rfl⟩ ⟨Nat.zero_le _, Nat.zero_le _⟩ ?_
  refine gw_iconst C ((-1) : Int32) d_Hands_doDrop_8 (by decide) ?_
  refine gw_icmp_ne C 14 d_Hands_doDrop_9 (by decide) (fun hc => ?_) (fun hc => ?_)
  · replace hf0 := mx_f hc hf0
    refine gw_aload_n C 1 d_Hands_doDrop_14 rfl rfl ?_
    refine gw_aload_n C 0 d_Hands_doDrop_15 rfl rfl ?_
    refine gw_getA C 0 d_Hands_doDrop_16 k_o_0 (by decide) i_Hands rfl rfl (by decide) qw_186 rfl rfl (o + 1) rfl ?_
    refine gw_iload_n C 2 d_Hands_doDrop_19 rfl rfl ?_
    obtain ⟨q20, hq20, hf0⟩ := mx_bd hf0
    refine gw_callI C (c_Row_at _ hg k_o_1 hq20) d_Hands_doDrop_20 1 qw_609 qw_489 qw_490 qw_4 qw_491 k_o_1 (by decide) rfl hd_Row_at rfl rfl (Nat.le_of_ble_eq_true rfl) ⟨rfl, rfl, Nat.le_of_ble_eq_true rfl, Nat.le_of_ble_eq_true rfl⟩ ⟨Nat.zero_le _, Nat.zero_le _⟩ ?_
    obtain ⟨q23, hq23, hf0⟩ := mx_bd hf0
    refine gw_callI C (c_Island_isPawned _ hg k_o1_0 hq23) d_Hands_doDrop_23 1 qw_783 qw_784 qw_785 qw_6 qw_786 k_o1_0 (by decide) rfl hd_Island_isPawned rfl rfl (Nat.le_of_ble_eq_true rfl) ⟨rfl, rfl, Nat.le_of_ble_eq_true rfl, Nat.le_of_ble_eq_true rfl⟩ ⟨Nat.zero_le _, Nat.zero_le _⟩ ?_
    refine gw_if_eq C 31 d_Hands_doDrop_26 (by decide) (fun hc => ?_) (fun hc => ?_)
    · replace hf0 := mx_t hc hf0
      refine gw_aload_n C 0 d_Hands_doDrop_31 rfl rfl ?_
      refine gw_getA C 0 d_Hands_doDrop_32 k_o_0 (by decide) i_Hands rfl rfl (by decide) qw_186 rfl rfl (o + 1) rfl ?_
      refine gw_iload_n C 2 d_Hands_doDrop_35 rfl rfl ?_
      refine gw_iconst C ((-1) : Int32) d_Hands_doDrop_36 (by decide) ?_
      obtain ⟨q37, hq37, hf0⟩ := mx_bd hf0
      refine gw_callV C (c_Row_put _ hg k_o_1 hq37) d_Hands_doDrop_37 2 qw_791 qw_461 qw_462 qw_4 qw_463 k_o_1 (by decide) rfl hd_Row_put rfl rfl (Nat.le_of_ble_eq_true rfl) ⟨rfl, rfl, Nat.le_of_ble_eq_true rfl, Nat.le_of_ble_eq_true rfl⟩ ⟨Nat.zero_le _, Nat.zero_le _⟩ ?_
      refine gw_iconst C (0 : Int32) d_Hands_doDrop_40 (by decide) ?_
      exact en_i hN hf0 d_Hands_doDrop_41
    · replace hf0 := mx_f hc hf0
      refine gw_iconst C (2 : Int32) d_Hands_doDrop_29 (by decide) ?_
      exact en_i hN hf0 d_Hands_doDrop_30
  · replace hf0 := mx_t hc hf0
    refine gw_iconst C (1 : Int32) d_Hands_doDrop_12 (by decide) ?_
    exact en_i hN hf0 d_Hands_doDrop_13

/-! NameHat.Hands.doTake(LNameHat.Island;II)I -/
abbrev b_Hands_doTake : ByteArray := prog_3_method_20_code
def y_Hands_doTake : MethodName := ⟨"NameHat$Hands", "doTake", "(LNameHat$Island;II)I"⟩
abbrev rm_Hands_doTake : Room := { frames := 2, cells := 0, slots := 0, locals := 43 }
theorem hd_Hands_doTake : y_Hands_doTake.cls ≠ "java/lang/invoke/MethodHandle" ∧ y_Hands_doTake.cls ≠ "java/lang/invoke/VarHandle" ∧ (parseMethodDescriptor y_Hands_doTake.desc).map (fun d => d.parameters.length) = some 3 := by decide +kernel
theorem d_Hands_doTake_0 : decode b_Hands_doTake 0 = .ok (.aload_n 0, 1) := by decide +kernel
theorem d_Hands_doTake_1 : decode b_Hands_doTake 1 = .ok (.getfield 14, 3) := by decide +kernel
theorem d_Hands_doTake_4 : decode b_Hands_doTake 4 = .ok (.iload_n 2, 1) := by decide +kernel
theorem d_Hands_doTake_5 : decode b_Hands_doTake 5 = .ok (.invokevirtual 36, 3) := by decide +kernel
theorem d_Hands_doTake_8 : decode b_Hands_doTake 8 = .ok (.iconst (-1), 1) := by decide +kernel
theorem d_Hands_doTake_9 : decode b_Hands_doTake 9 = .ok (.if_icmp .eq 5, 3) := by decide +kernel
theorem d_Hands_doTake_12 : decode b_Hands_doTake 12 = .ok (.iconst 1, 1) := by decide +kernel
theorem d_Hands_doTake_13 : decode b_Hands_doTake 13 = .ok (.ireturn, 1) := by decide +kernel
theorem d_Hands_doTake_14 : decode b_Hands_doTake 14 = .ok (.aload_n 1, 1) := by decide +kernel
theorem d_Hands_doTake_15 : decode b_Hands_doTake 15 = .ok (.iload_n 3, 1) := by decide +kernel
theorem d_Hands_doTake_16 : decode b_Hands_doTake 16 = .ok (.invokevirtual 64, 3) := by decide +kernel
theorem d_Hands_doTake_19 : decode b_Hands_doTake 19 = .ok (.ifCond .eq 5, 3) := by decide +kernel
theorem d_Hands_doTake_22 : decode b_Hands_doTake 22 = .ok (.iconst 2, 1) := by decide +kernel
theorem d_Hands_doTake_23 : decode b_Hands_doTake 23 = .ok (.ireturn, 1) := by decide +kernel
theorem d_Hands_doTake_24 : decode b_Hands_doTake 24 = .ok (.aload_n 0, 1) := by decide +kernel
theorem d_Hands_doTake_25 : decode b_Hands_doTake 25 = .ok (.iload_n 3, 1) := by decide +kernel
theorem d_Hands_doTake_26 : decode b_Hands_doTake 26 = .ok (.invokevirtual 114, 3) := by decide +kernel
theorem d_Hands_doTake_29 : decode b_Hands_doTake 29 = .ok (.iconst (-1), 1) := by decide +kernel
theorem d_Hands_doTake_30 : decode b_Hands_doTake 30 = .ok (.if_icmp .eq 5, 3) := by decide +kernel
theorem d_Hands_doTake_33 : decode b_Hands_doTake 33 = .ok (.iconst 4, 1) := by decide +kernel
theorem d_Hands_doTake_34 : decode b_Hands_doTake 34 = .ok (.ireturn, 1) := by decide +kernel
theorem d_Hands_doTake_35 : decode b_Hands_doTake 35 = .ok (.aload_n 0, 1) := by decide +kernel
theorem d_Hands_doTake_36 : decode b_Hands_doTake 36 = .ok (.getfield 14, 3) := by decide +kernel
theorem d_Hands_doTake_39 : decode b_Hands_doTake 39 = .ok (.iload_n 2, 1) := by decide +kernel
theorem d_Hands_doTake_40 : decode b_Hands_doTake 40 = .ok (.iload_n 3, 1) := by decide +kernel
theorem d_Hands_doTake_41 : decode b_Hands_doTake 41 = .ok (.invokevirtual 68, 3) := by decide +kernel
theorem d_Hands_doTake_44 : decode b_Hands_doTake 44 = .ok (.iconst 0, 1) := by decide +kernel
theorem d_Hands_doTake_45 : decode b_Hands_doTake 45 = .ok (.ireturn, 1) := by decide +kernel
noncomputable def f_Hands_doTake (z : Nat → Nat) (σ : Mm) (o : Nat) (o1 : Nat) (p2 : Int32) (p3 : Int32) : Option (Int32 × Mm) :=
  (f_Row_at z σ (o + 1) p2).bind fun q5 =>
  if q5 = ((-1) : Int32) then (
    (f_Island_isPawned z σ o1 p3).bind fun q16 =>
    if q16 = 0 then (
      (f_Hands_holderOf z σ o p3).bind fun q26 =>
      if q26 = ((-1) : Int32) then (
        (f_Row_put z σ (o + 1) p2 p3).bind fun q41 =>
        some ((0 : Int32), q41)
      ) else (
        some ((4 : Int32), σ)
      )
    ) else (
      some ((2 : Int32), σ)
    )
  ) else (
    some ((1 : Int32), σ)
  )
set_option maxHeartbeats 4000000 in
set_option maxRecDepth 100000 in
theorem c_Hands_doTake (l : Launch) {L : Ly} (hg : gd_ok L) {σ : Mm} {o : Nat} {o1 : Nat} {p2 : Int32} {p3 : Int32} (k_o_0 : ly_k L o = 3) (k_o1_0 : ly_k L o1 = 2) {res : Int32 × Mm} (hf0 : f_Hands_doTake (ly_z L) σ o o1 p2 p3 = some res) : CtI l y_Hands_doTake b_Hands_doTake 4 (some .int) rm_Hands_doTake L [.ref (ly_a L o), .ref (ly_a L o1), .int p2, .int p3] σ res.1 res.2 := by
  refine ct_i hg (by decide) (Nat.le_of_ble_eq_true rfl) ?_
  intro E A Q hE C hN
  subst hE
  have k_o_1 : ly_k L (o + 1) = 0 := gd_Hands_held hg k_o_0
  unfold f_Hands_doTake at hf0
  show GW E L A 4 0 0 Q σ 0 [(0, .ref (ly_a L o)), (1, .ref (ly_a L o1)), (2, .int p2), (3, .int p3)] []
  refine gw_aload_n C 0 d_Hands_doTake_0 rfl rfl ?_
  refine gw_getA C 0 d_Hands_doTake_1 k_o_0 (by decide) i_Hands rfl rfl (by decide) qw_186 rfl rfl (o + 1) rfl ?_
  refine gw_iload_n C 2 d_Hands_doTake_4 rfl rfl ?_
  obtain ⟨q5, hq5, hf0⟩ := mx_bd hf0
  refine gw_callI C (c_Row_at _ hg k_o_1 hq5) d_Hands_doTake_5 1 qw_609 qw_489 qw_490 qw_4 qw_491 k_o_1 (by decide) rfl hd_Row_at rfl rfl (Nat.le_of_ble_eq_true rfl) ⟨rfl, rfl, Nat.le_of_ble_eq_true rfl, Nat.le_of_ble_eq_true rfl⟩ ⟨Nat.zero_le _, Nat.zero_le _⟩ ?_
  refine gw_iconst C ((-1) : Int32) d_Hands_doTake_8 (by decide) ?_
  refine gw_icmp_eq C 14 d_Hands_doTake_9 (by decide) (fun hc => ?_) (fun hc => ?_)
  · replace hf0 := mx_t hc hf0
    refine gw_aload_n C 1 d_Hands_doTake_14 rfl rfl ?_
    refine gw_iload_n C 3 d_Hands_doTake_15 rfl rfl ?_
    obtain ⟨q16, hq16, hf0⟩ := mx_bd hf0
    refine gw_callI C (c_Island_isPawned _ hg k_o1_0 hq16) d_Hands_doTake_16 1 qw_783 qw_784 qw_785 qw_6 qw_786 k_o1_0 (by decide) rfl hd_Island_isPawned rfl rfl (Nat.le_of_ble_eq_true rfl) ⟨rfl, rfl, Nat.le_of_ble_eq_true rfl, Nat.le_of_ble_eq_true rfl⟩ ⟨Nat.zero_le _, Nat.zero_le _⟩ ?_
    refine gw_if_eq C 24 d_Hands_doTake_19 (by decide) (fun hc => ?_) (fun hc => ?_)
    · replace hf0 := mx_t hc hf0
      refine gw_aload_n C 0 d_Hands_doTake_24 rfl rfl ?_
      refine gw_iload_n C 3 d_Hands_doTake_25 rfl rfl ?_
      obtain ⟨q26, hq26, hf0⟩ := mx_bd hf0
      refine gw_callI C (c_Hands_holderOf _ hg k_o_0 hq26) d_Hands_doTake_26 1 qw_865 qw_606 qw_607 qw_8 qw_608 k_o_0 (by decide) rfl hd_Hands_holderOf rfl rfl (Nat.le_of_ble_eq_true rfl) ⟨rfl, rfl, Nat.le_of_ble_eq_true rfl, Nat.le_of_ble_eq_true rfl⟩ ⟨Nat.zero_le _, Nat.zero_le _⟩ ?_
      refine gw_iconst C ((-1) : Int32) d_Hands_doTake_29 (by decide) ?_
      refine gw_icmp_eq C 35 d_Hands_doTake_30 (by decide) (fun hc => ?_) (fun hc => ?_)
      · replace hf0 := mx_t hc hf0
        refine gw_aload_n C 0 d_Hands_doTake_35 rfl rfl ?_
        refine gw_getA C 0 d_Hands_doTake_36 k_o_0 (by decide) i_Hands rfl rfl (by decide) qw_186 rfl rfl (o + 1) rfl ?_
        refine gw_iload_n C 2 d_Hands_doTake_39 rfl rfl ?_
        refine gw_iload_n C 3 d_Hands_doTake_40 rfl rfl ?_
        obtain ⟨q41, hq41, hf0⟩ := mx_bd hf0
        refine gw_callV C (c_Row_put _ hg k_o_1 hq41) d_Hands_doTake_41 2 qw_791 qw_461 qw_462 qw_4 qw_463 k_o_1 (by decide) rfl hd_Row_put rfl rfl (Nat.le_of_ble_eq_true rfl) ⟨rfl, rfl, Nat.le_of_ble_eq_true rfl, Nat.le_of_ble_eq_true rfl⟩ ⟨Nat.zero_le _, Nat.zero_le _⟩ ?_
        refine gw_iconst C (0 : Int32) d_Hands_doTake_44 (by decide) ?_
        exact en_i hN hf0 d_Hands_doTake_45
      · replace hf0 := mx_f hc hf0
        refine gw_iconst C (4 : Int32) d_Hands_doTake_33 (by decide) ?_
        exact en_i hN hf0 d_Hands_doTake_34
    · replace hf0 := mx_f hc hf0
      refine gw_iconst C (2 : Int32) d_Hands_doTake_22 (by decide) ?_
      exact en_i hN hf0 d_Hands_doTake_23
  · replace hf0 := mx_f hc hf0
    refine gw_iconst C (1 : Int32) d_Hands_doTake_12 (by decide) ?_
    exact en_i hN hf0 d_Hands_doTake_13

/-! NameHat.Hands.howManyIn(LNameHat.Island;I)I -/
abbrev b_Hands_howManyIn : ByteArray := prog_3_method_8_code
def y_Hands_howManyIn : MethodName := ⟨"NameHat$Hands", "howManyIn", "(LNameHat$Island;I)I"⟩
abbrev rm_Hands_howManyIn : Room := { frames := 1, cells := 0, slots := 0, locals := 21 }
theorem hd_Hands_howManyIn : y_Hands_howManyIn.cls ≠ "java/lang/invoke/MethodHandle" ∧ y_Hands_howManyIn.cls ≠ "java/lang/invoke/VarHandle" ∧ (parseMethodDescriptor y_Hands_howManyIn.desc).map (fun d => d.parameters.length) = some 2 := by decide +kernel
theorem d_Hands_howManyIn_0 : decode b_Hands_howManyIn 0 = .ok (.iconst 0, 1) := by decide +kernel
theorem d_Hands_howManyIn_1 : decode b_Hands_howManyIn 1 = .ok (.istore_n 3, 1) := by decide +kernel
theorem d_Hands_howManyIn_2 : decode b_Hands_howManyIn 2 = .ok (.iconst 0, 1) := by decide +kernel
theorem d_Hands_howManyIn_3 : decode b_Hands_howManyIn 3 = .ok (.istore 4, 2) := by decide +kernel
theorem d_Hands_howManyIn_5 : decode b_Hands_howManyIn 5 = .ok (.iload 4, 2) := by decide +kernel
theorem d_Hands_howManyIn_7 : decode b_Hands_howManyIn 7 = .ok (.aload_n 1, 1) := by decide +kernel
theorem d_Hands_howManyIn_8 : decode b_Hands_howManyIn 8 = .ok (.getfield 46, 3) := by decide +kernel
theorem d_Hands_howManyIn_11 : decode b_Hands_howManyIn 11 = .ok (.getfield 50, 3) := by decide +kernel
theorem d_Hands_howManyIn_14 : decode b_Hands_howManyIn 14 = .ok (.if_icmp .ge 25, 3) := by decide +kernel
theorem d_Hands_howManyIn_17 : decode b_Hands_howManyIn 17 = .ok (.aload_n 0, 1) := by decide +kernel
theorem d_Hands_howManyIn_18 : decode b_Hands_howManyIn 18 = .ok (.getfield 20, 3) := by decide +kernel
theorem d_Hands_howManyIn_21 : decode b_Hands_howManyIn 21 = .ok (.iload 4, 2) := by decide +kernel
theorem d_Hands_howManyIn_23 : decode b_Hands_howManyIn 23 = .ok (.invokevirtual 36, 3) := by decide +kernel
theorem d_Hands_howManyIn_26 : decode b_Hands_howManyIn 26 = .ok (.iload_n 2, 1) := by decide +kernel
theorem d_Hands_howManyIn_27 : decode b_Hands_howManyIn 27 = .ok (.if_icmp .ne 6, 3) := by decide +kernel
theorem d_Hands_howManyIn_30 : decode b_Hands_howManyIn 30 = .ok (.iinc 3 1, 3) := by decide +kernel
theorem d_Hands_howManyIn_33 : decode b_Hands_howManyIn 33 = .ok (.iinc 4 1, 3) := by decide +kernel
theorem d_Hands_howManyIn_36 : decode b_Hands_howManyIn 36 = .ok (.goto (-31), 3) := by decide +kernel
theorem d_Hands_howManyIn_39 : decode b_Hands_howManyIn 39 = .ok (.iload_n 3, 1) := by decide +kernel
theorem d_Hands_howManyIn_40 : decode b_Hands_howManyIn 40 = .ok (.ireturn, 1) := by decide +kernel
noncomputable def f_Hands_howManyIn_L5 (z : Nat → Nat) (σ : Mm) (o : Nat) (o1 : Nat) (v2 : Int32) (s5 : Int32 × Int32) : Option ((Int32 × Int32) ⊕ (Int32)) :=
  if (σ.1 (o1 + 3) 1) ≤ s5.2 then (
    some (.inr s5.1)
  ) else (
    (f_Row_at z σ (o + 3) s5.2).bind fun q23 =>
    if q23 = v2 then (
      mm_lt (s5.1 + (1 : Int32)) fun x30 =>
      mm_lt (s5.2 + (1 : Int32)) fun x33 =>
      some (.inl (x30, x33))
    ) else (
      mm_lt (s5.2 + (1 : Int32)) fun x33 =>
      some (.inl (s5.1, x33))
    )
  )
noncomputable def f_Hands_howManyIn (z : Nat → Nat) (σ : Mm) (o : Nat) (o1 : Nat) (p2 : Int32) : Option (Int32) :=
  (mm_lp (f_Hands_howManyIn_L5 z σ o o1 p2) ((0 : Int32), (0 : Int32))).bind (fun q5 =>
    some q5)
set_option maxHeartbeats 4000000 in
set_option maxRecDepth 100000 in
theorem c_Hands_howManyIn (l : Launch) {L : Ly} (hg : gd_ok L) {σ : Mm} {o : Nat} {o1 : Nat} {p2 : Int32} (k_o_0 : ly_k L o = 3) (k_o1_0 : ly_k L o1 = 2) {res : Int32} (hf0 : f_Hands_howManyIn (ly_z L) σ o o1 p2 = some res) : CtI l y_Hands_howManyIn b_Hands_howManyIn 5 (some .int) rm_Hands_howManyIn L [.ref (ly_a L o), .ref (ly_a L o1), .int p2] σ res σ := by
  refine ct_i hg (by decide) (Nat.le_of_ble_eq_true rfl) ?_
  intro E A Q hE C hN
  subst hE
  have k_o1_3 : ly_k L (o1 + 3) = 1 := gd_Island_houses hg k_o1_0
  have k_o_3 : ly_k L (o + 3) = 0 := gd_Hands_sits hg k_o_0
  unfold f_Hands_howManyIn at hf0
  show GW E L A 5 0 0 Q σ 0 [(0, .ref (ly_a L o)), (1, .ref (ly_a L o1)), (2, .int p2)] []
  refine gw_iconst C (0 : Int32) d_Hands_howManyIn_0 (by decide) ?_
  refine gw_istore_n C [(3, .int (0 : Int32)), (0, .ref (ly_a L o)), (1, .ref (ly_a L o1)), (2, .int p2)] d_Hands_howManyIn_1 rfl (by decide) rfl ?_
  refine gw_iconst C (0 : Int32) d_Hands_howManyIn_2 (by decide) ?_
  refine gw_istore C [(4, .int (0 : Int32)), (3, .int (0 : Int32)), (0, .ref (ly_a L o)), (1, .ref (ly_a L o1)), (2, .int p2)] d_Hands_howManyIn_3 (by decide) rfl ?_
  obtain ⟨q5, hq5, hf0⟩ := mx_bd hf0
  have hk5 : ∀ x9, q5 = x9 → GW E L A 5 0 0 Q σ 39 [(3, .int x9)] [] := by
    intro x9 hx9
    subst hx9
    refine gw_iload_n C 0 d_Hands_howManyIn_39 rfl rfl ?_
    exact en_ip hN hf0 d_Hands_howManyIn_40
  refine gw_sub [2, 3, 4, 1, 0] (lv' := [(0, .ref (ly_a L o)), (1, .ref (ly_a L o1)), (2, .int p2), (3, .int (0 : Int32)), (4, .int (0 : Int32))]) rfl ?_
  refine mm_rule hq5 (P := fun (s5 : Int32 × Int32) => GW E L A 5 0 0 Q σ 5 [(0, .ref (ly_a L o)), (1, .ref (ly_a L o1)), (2, .int p2), (3, .int s5.1), (4, .int s5.2)] []) ?_
  intro s5 ih5 hx5 ⟨w5, hb5⟩
  have hf1 := hb5
  unfold f_Hands_howManyIn_L5 at hf1
  refine gw_iload C 4 d_Hands_howManyIn_5 rfl ?_
  refine gw_aload_n C 1 d_Hands_howManyIn_7 rfl rfl ?_
  refine gw_getAN C 1 d_Hands_howManyIn_8 k_o1_0 (by decide) i_Island rfl rfl (by decide) qw_134 rfl rfl (o1 + 3) rfl ?_
  refine gw_getIN C 1 d_Hands_howManyIn_11 k_o1_3 (by decide) i_Names rfl rfl (by decide) qw_113 rfl rfl ?_
  refine gw_icmp_ge C 39 d_Hands_howManyIn_14 (by decide) (fun hc => ?_) (fun hc => ?_)
  · replace hf1 := mx_t hc hf1
    exact gw_go [3] (hk5 s5.1 (hx5 _ (hb5.trans hf1.symm)).symm) rfl
  · replace hf1 := mx_f hc hf1
    refine gw_aload_n C 0 d_Hands_howManyIn_17 rfl rfl ?_
    refine gw_getA C 1 d_Hands_howManyIn_18 k_o_0 (by decide) i_Hands rfl rfl (by decide) qw_191 rfl rfl (o + 3) rfl ?_
    refine gw_iload C 4 d_Hands_howManyIn_21 rfl ?_
    obtain ⟨q23, hq23, hf1⟩ := mx_bd hf1
    refine gw_callI C (c_Row_at _ hg k_o_3 hq23) d_Hands_howManyIn_23 1 qw_609 qw_489 qw_490 qw_4 qw_491 k_o_3 (by decide) rfl hd_Row_at rfl rfl (Nat.le_of_ble_eq_true rfl) ⟨rfl, rfl, Nat.le_of_ble_eq_true rfl, Nat.le_of_ble_eq_true rfl⟩ ⟨Nat.zero_le _, Nat.zero_le _⟩ ?_
    refine gw_iload_n C 2 d_Hands_howManyIn_26 rfl rfl ?_
    refine gw_icmp_ne C 33 d_Hands_howManyIn_27 (by decide) (fun hc => ?_) (fun hc => ?_)
    · replace hf1 := mx_f hc hf1
      obtain ⟨x33, ex33, hf1⟩ := mx_lt hf1
      refine gw_iinc C 4 [(4, .int x33), (0, .ref (ly_a L o)), (1, .ref (ly_a L o1)), (2, .int p2), (3, .int s5.1)] d_Hands_howManyIn_33 rfl (by rw [ex33]; rfl) (by decide) rfl ?_
      refine gw_goto C 5 d_Hands_howManyIn_36 (by decide) ?_
      exact gw_go [1, 2, 3, 4, 0] (ih5 (s5.1, x33) (hb5.trans hf1.symm)) rfl
    · replace hf1 := mx_t hc hf1
      obtain ⟨x30, ex30, hf1⟩ := mx_lt hf1
      refine gw_iinc C 3 [(3, .int x30), (0, .ref (ly_a L o)), (1, .ref (ly_a L o1)), (2, .int p2), (4, .int s5.2)] d_Hands_howManyIn_30 rfl (by rw [ex30]; rfl) (by decide) rfl ?_
      obtain ⟨x33, ex33, hf1⟩ := mx_lt hf1
      refine gw_iinc C 4 [(4, .int x33), (3, .int x30), (0, .ref (ly_a L o)), (1, .ref (ly_a L o1)), (2, .int p2)] d_Hands_howManyIn_33 rfl (by rw [ex33]; rfl) (by decide) rfl ?_
      refine gw_goto C 5 d_Hands_howManyIn_36 (by decide) ?_
      exact gw_go [2, 3, 4, 1, 0] (ih5 (x30, x33) (hb5.trans hf1.symm)) rfl

/-! NameHat.Hands.doSit(LNameHat.Island;II)I -/
abbrev b_Hands_doSit : ByteArray := prog_3_method_21_code
def y_Hands_doSit : MethodName := ⟨"NameHat$Hands", "doSit", "(LNameHat$Island;II)I"⟩
abbrev rm_Hands_doSit : Room := { frames := 2, cells := 0, slots := 0, locals := 45 }
theorem hd_Hands_doSit : y_Hands_doSit.cls ≠ "java/lang/invoke/MethodHandle" ∧ y_Hands_doSit.cls ≠ "java/lang/invoke/VarHandle" ∧ (parseMethodDescriptor y_Hands_doSit.desc).map (fun d => d.parameters.length) = some 3 := by decide +kernel
theorem d_Hands_doSit_0 : decode b_Hands_doSit 0 = .ok (.aload_n 0, 1) := by decide +kernel
theorem d_Hands_doSit_1 : decode b_Hands_doSit 1 = .ok (.getfield 20, 3) := by decide +kernel
theorem d_Hands_doSit_4 : decode b_Hands_doSit 4 = .ok (.iload_n 2, 1) := by decide +kernel
theorem d_Hands_doSit_5 : decode b_Hands_doSit 5 = .ok (.invokevirtual 36, 3) := by decide +kernel
theorem d_Hands_doSit_8 : decode b_Hands_doSit 8 = .ok (.iload_n 3, 1) := by decide +kernel
theorem d_Hands_doSit_9 : decode b_Hands_doSit 9 = .ok (.if_icmp .ne 5, 3) := by decide +kernel
theorem d_Hands_doSit_12 : decode b_Hands_doSit 12 = .ok (.iconst 5, 1) := by decide +kernel
theorem d_Hands_doSit_13 : decode b_Hands_doSit 13 = .ok (.ireturn, 1) := by decide +kernel
theorem d_Hands_doSit_14 : decode b_Hands_doSit 14 = .ok (.aload_n 0, 1) := by decide +kernel
theorem d_Hands_doSit_15 : decode b_Hands_doSit 15 = .ok (.aload_n 1, 1) := by decide +kernel
theorem d_Hands_doSit_16 : decode b_Hands_doSit 16 = .ok (.iload_n 3, 1) := by decide +kernel
theorem d_Hands_doSit_17 : decode b_Hands_doSit 17 = .ok (.invokevirtual 117, 3) := by decide +kernel
theorem d_Hands_doSit_20 : decode b_Hands_doSit 20 = .ok (.aload_n 1, 1) := by decide +kernel
theorem d_Hands_doSit_21 : decode b_Hands_doSit 21 = .ok (.getfield 120, 3) := by decide +kernel
theorem d_Hands_doSit_24 : decode b_Hands_doSit 24 = .ok (.if_icmp .lt 6, 3) := by decide +kernel
theorem d_Hands_doSit_27 : decode b_Hands_doSit 27 = .ok (.bipush 6, 2) := by decide +kernel
theorem d_Hands_doSit_29 : decode b_Hands_doSit 29 = .ok (.ireturn, 1) := by decide +kernel
theorem d_Hands_doSit_30 : decode b_Hands_doSit 30 = .ok (.aload_n 0, 1) := by decide +kernel
theorem d_Hands_doSit_31 : decode b_Hands_doSit 31 = .ok (.getfield 20, 3) := by decide +kernel
theorem d_Hands_doSit_34 : decode b_Hands_doSit 34 = .ok (.iload_n 2, 1) := by decide +kernel
theorem d_Hands_doSit_35 : decode b_Hands_doSit 35 = .ok (.iload_n 3, 1) := by decide +kernel
theorem d_Hands_doSit_36 : decode b_Hands_doSit 36 = .ok (.invokevirtual 68, 3) := by decide +kernel
theorem d_Hands_doSit_39 : decode b_Hands_doSit 39 = .ok (.iconst 0, 1) := by decide +kernel
theorem d_Hands_doSit_40 : decode b_Hands_doSit 40 = .ok (.ireturn, 1) := by decide +kernel
noncomputable def f_Hands_doSit (z : Nat → Nat) (σ : Mm) (o : Nat) (o1 : Nat) (p2 : Int32) (p3 : Int32) : Option (Int32 × Mm) :=
  (f_Row_at z σ (o + 3) p2).bind fun q5 =>
  if q5 = p3 then (
    some ((5 : Int32), σ)
  ) else (
    (f_Hands_howManyIn z σ o o1 p3).bind fun q17 =>
    if q17 < (σ.1 o1 7) then (
      (f_Row_put z σ (o + 3) p2 p3).bind fun q36 =>
      some ((0 : Int32), q36)
    ) else (
      some ((6 : Int32), σ)
    )
  )
set_option maxHeartbeats 4000000 in
set_option maxRecDepth 100000 in
theorem c_Hands_doSit (l : Launch) {L : Ly} (hg : gd_ok L) {σ : Mm} {o : Nat} {o1 : Nat} {p2 : Int32} {p3 : Int32} (k_o_0 : ly_k L o = 3) (k_o1_0 : ly_k L o1 = 2) {res : Int32 × Mm} (hf0 : f_Hands_doSit (ly_z L) σ o o1 p2 p3 = some res) : CtI l y_Hands_doSit b_Hands_doSit 4 (some .int) rm_Hands_doSit L [.ref (ly_a L o), .ref (ly_a L o1), .int p2, .int p3] σ res.1 res.2 := by
  refine ct_i hg (by decide) (Nat.le_of_ble_eq_true rfl) ?_
  intro E A Q hE C hN
  subst hE
  have k_o_3 : ly_k L (o + 3) = 0 := gd_Hands_sits hg k_o_0
  unfold f_Hands_doSit at hf0
  show GW E L A 4 0 0 Q σ 0 [(0, .ref (ly_a L o)), (1, .ref (ly_a L o1)), (2, .int p2), (3, .int p3)] []
  refine gw_aload_n C 0 d_Hands_doSit_0 rfl rfl ?_
  refine gw_getA C 1 d_Hands_doSit_1 k_o_0 (by decide) i_Hands rfl rfl (by decide) qw_191 rfl rfl (o + 3) rfl ?_
  refine gw_iload_n C 2 d_Hands_doSit_4 rfl rfl ?_
  obtain ⟨q5, hq5, hf0⟩ := mx_bd hf0
  refine gw_callI C (c_Row_at _ hg k_o_3 hq5) d_Hands_doSit_5 1 qw_609 qw_489 qw_490 qw_4 qw_491 k_o_3 (by decide) rfl hd_Row_at rfl rfl (Nat.le_of_ble_eq_true rfl) ⟨rfl, rfl, Nat.le_of_ble_eq_true rfl, Nat.le_of_ble_eq_true rfl⟩ ⟨Nat.zero_le _, Nat.zero_le _⟩ ?_
  refine gw_iload_n C 3 d_Hands_doSit_8 rfl rfl ?_
  refine gw_icmp_ne C 14 d_Hands_doSit_9 (by decide) (fun hc => ?_) (fun hc => ?_)
  · replace hf0 := mx_f hc hf0
    refine gw_aload_n C 0 d_Hands_doSit_14 rfl rfl ?_
    refine gw_aload_n C 1 d_Hands_doSit_15 rfl rfl ?_
    refine gw_iload_n C 3 d_Hands_doSit_16 rfl rfl ?_
    obtain ⟨q17, hq17, hf0⟩ := mx_bd hf0
    refine gw_callI C (c_Hands_howManyIn _ hg k_o_0 k_o1_0 hq17) d_Hands_doSit_17 2 qw_870 qw_871 qw_872 qw_8 qw_873 k_o_0 (by decide) rfl hd_Hands_howManyIn rfl rfl (Nat.le_of_ble_eq_true rfl) ⟨rfl, rfl, Nat.le_of_ble_eq_true rfl, Nat.le_of_ble_eq_true rfl⟩ ⟨Nat.zero_le _, Nat.zero_le _⟩ ?_
    refine gw_aload_n C 1 d_Hands_doSit_20 rfl rfl ?_
    refine gw_getIN C 7 d_Hands_doSit_21 k_o1_0 (by decide) i_Island rfl rfl (by decide) qw_154 rfl rfl ?_
    refine gw_icmp_lt C 30 d_Hands_doSit_24 (by decide) (fun hc => ?_) (fun hc => ?_)
    · replace hf0 := mx_t hc hf0
      refine gw_aload_n C 0 d_Hands_doSit_30 rfl rfl ?_
      refine gw_getA C 1 d_Hands_doSit_31 k_o_0 (by decide) i_Hands rfl rfl (by decide) qw_191 rfl rfl (o + 3) rfl ?_
      refine gw_iload_n C 2 d_Hands_doSit_34 rfl rfl ?_
      refine gw_iload_n C 3 d_Hands_doSit_35 rfl rfl ?_
      obtain ⟨q36, hq36, hf0⟩ := mx_bd hf0
      refine gw_callV C (c_Row_put _ hg k_o_3 hq36) d_Hands_doSit_36 2 qw_791 qw_461 qw_462 qw_4 qw_463 k_o_3 (by decide) rfl hd_Row_put rfl rfl (Nat.le_of_ble_eq_true rfl) ⟨rfl, rfl, Nat.le_of_ble_eq_true rfl, Nat.le_of_ble_eq_true rfl⟩ ⟨Nat.zero_le _, Nat.zero_le _⟩ ?_
      refine gw_iconst C (0 : Int32) d_Hands_doSit_39 (by decide) ?_
      exact en_i hN hf0 d_Hands_doSit_40
    · replace hf0 := mx_f hc hf0
      refine gw_bipush C (6 : Int32) d_Hands_doSit_27 (by decide) ?_
      exact en_i hN hf0 d_Hands_doSit_29
  · replace hf0 := mx_t hc hf0
    refine gw_iconst C (5 : Int32) d_Hands_doSit_12 (by decide) ?_
    exact en_i hN hf0 d_Hands_doSit_13

/-! NameHat.Hands.doLine(LNameHat.Island;III)I -/
abbrev b_Hands_doLine : ByteArray := prog_3_method_16_code
def y_Hands_doLine : MethodName := ⟨"NameHat$Hands", "doLine", "(LNameHat$Island;III)I"⟩
abbrev rm_Hands_doLine : Room := { frames := 5, cells := 0, slots := 0, locals := 120 }
theorem hd_Hands_doLine : y_Hands_doLine.cls ≠ "java/lang/invoke/MethodHandle" ∧ y_Hands_doLine.cls ≠ "java/lang/invoke/VarHandle" ∧ (parseMethodDescriptor y_Hands_doLine.desc).map (fun d => d.parameters.length) = some 4 := by decide +kernel
theorem d_Hands_doLine_0 : decode b_Hands_doLine 0 = .ok (.iload_n 2, 1) := by decide +kernel
theorem d_Hands_doLine_1 : decode b_Hands_doLine 1 = .ok (.tableswitch 90 8 15 #[81, 90, 90, 90, 47, 56, 65, 72], 47) := by decide +kernel
theorem d_Hands_doLine_48 : decode b_Hands_doLine 48 = .ok (.aload_n 0, 1) := by decide +kernel
theorem d_Hands_doLine_49 : decode b_Hands_doLine 49 = .ok (.aload_n 1, 1) := by decide +kernel
theorem d_Hands_doLine_50 : decode b_Hands_doLine 50 = .ok (.iload_n 3, 1) := by decide +kernel
theorem d_Hands_doLine_51 : decode b_Hands_doLine 51 = .ok (.iload 4, 2) := by decide +kernel
theorem d_Hands_doLine_53 : decode b_Hands_doLine 53 = .ok (.invokevirtual 91, 3) := by decide +kernel
theorem d_Hands_doLine_56 : decode b_Hands_doLine 56 = .ok (.ireturn, 1) := by decide +kernel
theorem d_Hands_doLine_57 : decode b_Hands_doLine 57 = .ok (.aload_n 0, 1) := by decide +kernel
theorem d_Hands_doLine_58 : decode b_Hands_doLine 58 = .ok (.aload_n 1, 1) := by decide +kernel
theorem d_Hands_doLine_59 : decode b_Hands_doLine 59 = .ok (.iload_n 3, 1) := by decide +kernel
theorem d_Hands_doLine_60 : decode b_Hands_doLine 60 = .ok (.iload 4, 2) := by decide +kernel
theorem d_Hands_doLine_62 : decode b_Hands_doLine 62 = .ok (.invokevirtual 95, 3) := by decide +kernel
theorem d_Hands_doLine_65 : decode b_Hands_doLine 65 = .ok (.ireturn, 1) := by decide +kernel
theorem d_Hands_doLine_66 : decode b_Hands_doLine 66 = .ok (.aload_n 0, 1) := by decide +kernel
theorem d_Hands_doLine_67 : decode b_Hands_doLine 67 = .ok (.aload_n 1, 1) := by decide +kernel
theorem d_Hands_doLine_68 : decode b_Hands_doLine 68 = .ok (.iload_n 3, 1) := by decide +kernel
theorem d_Hands_doLine_69 : decode b_Hands_doLine 69 = .ok (.invokevirtual 98, 3) := by decide +kernel
theorem d_Hands_doLine_72 : decode b_Hands_doLine 72 = .ok (.ireturn, 1) := by decide +kernel
theorem d_Hands_doLine_73 : decode b_Hands_doLine 73 = .ok (.aload_n 0, 1) := by decide +kernel
theorem d_Hands_doLine_74 : decode b_Hands_doLine 74 = .ok (.aload_n 1, 1) := by decide +kernel
theorem d_Hands_doLine_75 : decode b_Hands_doLine 75 = .ok (.iload_n 3, 1) := by decide +kernel
theorem d_Hands_doLine_76 : decode b_Hands_doLine 76 = .ok (.iload 4, 2) := by decide +kernel
theorem d_Hands_doLine_78 : decode b_Hands_doLine 78 = .ok (.invokevirtual 101, 3) := by decide +kernel
theorem d_Hands_doLine_81 : decode b_Hands_doLine 81 = .ok (.ireturn, 1) := by decide +kernel
theorem d_Hands_doLine_82 : decode b_Hands_doLine 82 = .ok (.aload_n 0, 1) := by decide +kernel
theorem d_Hands_doLine_83 : decode b_Hands_doLine 83 = .ok (.aload_n 1, 1) := by decide +kernel
theorem d_Hands_doLine_84 : decode b_Hands_doLine 84 = .ok (.iload_n 3, 1) := by decide +kernel
theorem d_Hands_doLine_85 : decode b_Hands_doLine 85 = .ok (.iload 4, 2) := by decide +kernel
theorem d_Hands_doLine_87 : decode b_Hands_doLine 87 = .ok (.invokevirtual 104, 3) := by decide +kernel
theorem d_Hands_doLine_90 : decode b_Hands_doLine 90 = .ok (.ireturn, 1) := by decide +kernel
theorem d_Hands_doLine_91 : decode b_Hands_doLine 91 = .ok (.aload_n 0, 1) := by decide +kernel
theorem d_Hands_doLine_92 : decode b_Hands_doLine 92 = .ok (.aload_n 1, 1) := by decide +kernel
theorem d_Hands_doLine_93 : decode b_Hands_doLine 93 = .ok (.invokevirtual 107, 3) := by decide +kernel
theorem d_Hands_doLine_96 : decode b_Hands_doLine 96 = .ok (.pop, 1) := by decide +kernel
theorem d_Hands_doLine_97 : decode b_Hands_doLine 97 = .ok (.iconst 0, 1) := by decide +kernel
theorem d_Hands_doLine_98 : decode b_Hands_doLine 98 = .ok (.ireturn, 1) := by decide +kernel
noncomputable def f_Hands_doLine (z : Nat → Nat) (σ : Mm) (o : Nat) (o1 : Nat) (p2 : Int32) (p3 : Int32) (p4 : Int32) : Option (Int32 × Mm) :=
  if p2 = (8 : Int32) then (
    (f_Hands_doSit z σ o o1 p3 p4).bind fun q87 =>
    some (q87.1, q87.2)
  ) else (
  if p2 = (9 : Int32) then (
    (f_Hands_tradeAll z σ o o1).bind fun q93 =>
    some ((0 : Int32), q93.2)
  ) else (
  if p2 = (10 : Int32) then (
    (f_Hands_tradeAll z σ o o1).bind fun q93 =>
    some ((0 : Int32), q93.2)
  ) else (
  if p2 = (11 : Int32) then (
    (f_Hands_tradeAll z σ o o1).bind fun q93 =>
    some ((0 : Int32), q93.2)
  ) else (
  if p2 = (12 : Int32) then (
    (f_Hands_doSwap z σ o o1 p3 p4).bind fun q53 =>
    some (q53.1, q53.2)
  ) else (
  if p2 = (13 : Int32) then (
    (f_Hands_doGive z σ o o1 p3 p4).bind fun q62 =>
    some (q62.1, q62.2)
  ) else (
  if p2 = (14 : Int32) then (
    (f_Hands_doDrop z σ o o1 p3).bind fun q69 =>
    some (q69.1, q69.2)
  ) else (
  if p2 = (15 : Int32) then (
    (f_Hands_doTake z σ o o1 p3 p4).bind fun q78 =>
    some (q78.1, q78.2)
  ) else (
    (f_Hands_tradeAll z σ o o1).bind fun q93 =>
    some ((0 : Int32), q93.2)
  ))))))))
set_option maxHeartbeats 4000000 in
set_option maxRecDepth 100000 in
theorem c_Hands_doLine (l : Launch) {L : Ly} (hg : gd_ok L) {σ : Mm} {o : Nat} {o1 : Nat} {p2 : Int32} {p3 : Int32} {p4 : Int32} (k_o_0 : ly_k L o = 3) (k_o1_0 : ly_k L o1 = 2) {res : Int32 × Mm} (hf0 : f_Hands_doLine (ly_z L) σ o o1 p2 p3 p4 = some res) : CtI l y_Hands_doLine b_Hands_doLine 5 (some .int) rm_Hands_doLine L [.ref (ly_a L o), .ref (ly_a L o1), .int p2, .int p3, .int p4] σ res.1 res.2 := by
  refine ct_i hg (by decide) (Nat.le_of_ble_eq_true rfl) ?_
  intro E A Q hE C hN
  subst hE
  unfold f_Hands_doLine at hf0
  show GW E L A 5 0 0 Q σ 0 [(0, .ref (ly_a L o)), (1, .ref (ly_a L o1)), (2, .int p2), (3, .int p3), (4, .int p4)] []
  refine gw_iload_n C 2 d_Hands_doLine_0 rfl rfl ?_
  by_cases hc8 : p2 = (8 : Int32)
  · replace hf0 := mx_t hc8 hf0
    refine gw_tabEq (off := 81) C 82 hc8 d_Hands_doLine_1 (by decide) (by decide) (by decide) (by decide) ?_
    refine gw_aload_n C 0 d_Hands_doLine_82 rfl rfl ?_
    refine gw_aload_n C 1 d_Hands_doLine_83 rfl rfl ?_
    refine gw_iload_n C 3 d_Hands_doLine_84 rfl rfl ?_
    refine gw_iload C 4 d_Hands_doLine_85 rfl ?_
    obtain ⟨q87, hq87, hf0⟩ := mx_bd hf0
    refine gw_callI C (c_Hands_doSit _ hg k_o_0 k_o1_0 hq87) d_Hands_doLine_87 3 qw_866 qw_868 qs_28 qw_8 qw_869 k_o_0 (by decide) rfl hd_Hands_doSit rfl rfl (Nat.le_of_ble_eq_true rfl) ⟨rfl, rfl, Nat.le_of_ble_eq_true rfl, Nat.le_of_ble_eq_true rfl⟩ ⟨Nat.zero_le _, Nat.zero_le _⟩ ?_
    exact en_i hN hf0 d_Hands_doLine_90
  replace hf0 := mx_f hc8 hf0
  have hn8 := lv_neT hc8 (show ((8 : Int32)).toInt = 8 by decide)
  by_cases hc9 : p2 = (9 : Int32)
  · replace hf0 := mx_t hc9 hf0
    refine gw_tabEq (off := 90) C 91 hc9 d_Hands_doLine_1 (by decide) (by decide) (by decide) (by decide) ?_
    refine gw_aload_n C 0 d_Hands_doLine_91 rfl rfl ?_
    refine gw_aload_n C 1 d_Hands_doLine_92 rfl rfl ?_
    obtain ⟨q93, hq93, hf0⟩ := mx_bd hf0
    refine gw_callI C (c_Hands_tradeAll _ hg k_o_0 k_o1_0 hq93) d_Hands_doLine_93 1 qw_874 qw_822 qw_823 qw_8 qw_824 k_o_0 (by decide) rfl hd_Hands_tradeAll rfl rfl (Nat.le_of_ble_eq_true rfl) ⟨rfl, rfl, Nat.le_of_ble_eq_true rfl, Nat.le_of_ble_eq_true rfl⟩ ⟨Nat.zero_le _, Nat.zero_le _⟩ ?_
    refine gw_pop C d_Hands_doLine_96 rfl ?_
    refine gw_iconst C (0 : Int32) d_Hands_doLine_97 (by decide) ?_
    exact en_i hN hf0 d_Hands_doLine_98
  replace hf0 := mx_f hc9 hf0
  have hn9 := lv_neT hc9 (show ((9 : Int32)).toInt = 9 by decide)
  by_cases hc10 : p2 = (10 : Int32)
  · replace hf0 := mx_t hc10 hf0
    refine gw_tabEq (off := 90) C 91 hc10 d_Hands_doLine_1 (by decide) (by decide) (by decide) (by decide) ?_
    refine gw_aload_n C 0 d_Hands_doLine_91 rfl rfl ?_
    refine gw_aload_n C 1 d_Hands_doLine_92 rfl rfl ?_
    obtain ⟨q93, hq93, hf0⟩ := mx_bd hf0
    refine gw_callI C (c_Hands_tradeAll _ hg k_o_0 k_o1_0 hq93) d_Hands_doLine_93 1 qw_874 qw_822 qw_823 qw_8 qw_824 k_o_0 (by decide) rfl hd_Hands_tradeAll rfl rfl (Nat.le_of_ble_eq_true rfl) ⟨rfl, rfl, Nat.le_of_ble_eq_true rfl, Nat.le_of_ble_eq_true rfl⟩ ⟨Nat.zero_le _, Nat.zero_le _⟩ ?_
    refine gw_pop C d_Hands_doLine_96 rfl ?_
    refine gw_iconst C (0 : Int32) d_Hands_doLine_97 (by decide) ?_
    exact en_i hN hf0 d_Hands_doLine_98
  replace hf0 := mx_f hc10 hf0
  have hn10 := lv_neT hc10 (show ((10 : Int32)).toInt = 10 by decide)
  by_cases hc11 : p2 = (11 : Int32)
  · replace hf0 := mx_t hc11 hf0
    refine gw_tabEq (off := 90) C 91 hc11 d_Hands_doLine_1 (by decide) (by decide) (by decide) (by decide) ?_
    refine gw_aload_n C 0 d_Hands_doLine_91 rfl rfl ?_
    refine gw_aload_n C 1 d_Hands_doLine_92 rfl rfl ?_
    obtain ⟨q93, hq93, hf0⟩ := mx_bd hf0
    refine gw_callI C (c_Hands_tradeAll _ hg k_o_0 k_o1_0 hq93) d_Hands_doLine_93 1 qw_874 qw_822 qw_823 qw_8 qw_824 k_o_0 (by decide) rfl hd_Hands_tradeAll rfl rfl (Nat.le_of_ble_eq_true rfl) ⟨rfl, rfl, Nat.le_of_ble_eq_true rfl, Nat.le_of_ble_eq_true rfl⟩ ⟨Nat.zero_le _, Nat.zero_le _⟩ ?_
    refine gw_pop C d_Hands_doLine_96 rfl ?_
    refine gw_iconst C (0 : Int32) d_Hands_doLine_97 (by decide) ?_
    exact en_i hN hf0 d_Hands_doLine_98
  replace hf0 := mx_f hc11 hf0
  have hn11 := lv_neT hc11 (show ((11 : Int32)).toInt = 11 by decide)
  by_cases hc12 : p2 = (12 : Int32)
  · replace hf0 := mx_t hc12 hf0
    refine gw_tabEq (off := 47) C 48 hc12 d_Hands_doLine_1 (by decide) (by decide) (by decide) (by decide) ?_
    refine gw_aload_n C 0 d_Hands_doLine_48 rfl rfl ?_
    refine gw_aload_n C 1 d_Hands_doLine_49 rfl rfl ?_
    refine gw_iload_n C 3 d_Hands_doLine_50 rfl rfl ?_
    refine gw_iload C 4 d_Hands_doLine_51 rfl ?_
    obtain ⟨q53, hq53, hf0⟩ := mx_bd hf0
    refine gw_callI C (c_Hands_doSwap _ hg k_o_0 k_o1_0 hq53) d_Hands_doLine_53 3 qw_848 qw_850 qs_24 qw_8 qw_851 k_o_0 (by decide) rfl hd_Hands_doSwap rfl rfl (Nat.le_of_ble_eq_true rfl) ⟨rfl, rfl, Nat.le_of_ble_eq_true rfl, Nat.le_of_ble_eq_true rfl⟩ ⟨Nat.zero_le _, Nat.zero_le _⟩ ?_
    exact en_i hN hf0 d_Hands_doLine_56
  replace hf0 := mx_f hc12 hf0
  have hn12 := lv_neT hc12 (show ((12 : Int32)).toInt = 12 by decide)
  by_cases hc13 : p2 = (13 : Int32)
  · replace hf0 := mx_t hc13 hf0
    refine gw_tabEq (off := 56) C 57 hc13 d_Hands_doLine_1 (by decide) (by decide) (by decide) (by decide) ?_
    refine gw_aload_n C 0 d_Hands_doLine_57 rfl rfl ?_
    refine gw_aload_n C 1 d_Hands_doLine_58 rfl rfl ?_
    refine gw_iload_n C 3 d_Hands_doLine_59 rfl rfl ?_
    refine gw_iload C 4 d_Hands_doLine_60 rfl ?_
    obtain ⟨q62, hq62, hf0⟩ := mx_bd hf0
    refine gw_callI C (c_Hands_doGive _ hg k_o_0 k_o1_0 hq62) d_Hands_doLine_62 3 qw_853 qw_855 qs_25 qw_8 qw_856 k_o_0 (by decide) rfl hd_Hands_doGive rfl rfl (Nat.le_of_ble_eq_true rfl) ⟨rfl, rfl, Nat.le_of_ble_eq_true rfl, Nat.le_of_ble_eq_true rfl⟩ ⟨Nat.zero_le _, Nat.zero_le _⟩ ?_
    exact en_i hN hf0 d_Hands_doLine_65
  replace hf0 := mx_f hc13 hf0
  have hn13 := lv_neT hc13 (show ((13 : Int32)).toInt = 13 by decide)
  by_cases hc14 : p2 = (14 : Int32)
  · replace hf0 := mx_t hc14 hf0
    refine gw_tabEq (off := 65) C 66 hc14 d_Hands_doLine_1 (by decide) (by decide) (by decide) (by decide) ?_
    refine gw_aload_n C 0 d_Hands_doLine_66 rfl rfl ?_
    refine gw_aload_n C 1 d_Hands_doLine_67 rfl rfl ?_
    refine gw_iload_n C 3 d_Hands_doLine_68 rfl rfl ?_
    obtain ⟨q69, hq69, hf0⟩ := mx_bd hf0
    refine gw_callI C (c_Hands_doDrop _ hg k_o_0 k_o1_0 hq69) d_Hands_doLine_69 2 qw_857 qw_859 qs_26 qw_8 qw_860 k_o_0 (by decide) rfl hd_Hands_doDrop rfl rfl (Nat.le_of_ble_eq_true rfl) ⟨rfl, rfl, Nat.le_of_ble_eq_true rfl, Nat.le_of_ble_eq_true rfl⟩ ⟨Nat.zero_le _, Nat.zero_le _⟩ ?_
    exact en_i hN hf0 d_Hands_doLine_72
  replace hf0 := mx_f hc14 hf0
  have hn14 := lv_neT hc14 (show ((14 : Int32)).toInt = 14 by decide)
  by_cases hc15 : p2 = (15 : Int32)
  · replace hf0 := mx_t hc15 hf0
    refine gw_tabEq (off := 72) C 73 hc15 d_Hands_doLine_1 (by decide) (by decide) (by decide) (by decide) ?_
    refine gw_aload_n C 0 d_Hands_doLine_73 rfl rfl ?_
    refine gw_aload_n C 1 d_Hands_doLine_74 rfl rfl ?_
    refine gw_iload_n C 3 d_Hands_doLine_75 rfl rfl ?_
    refine gw_iload C 4 d_Hands_doLine_76 rfl ?_
    obtain ⟨q78, hq78, hf0⟩ := mx_bd hf0
    refine gw_callI C (c_Hands_doTake _ hg k_o_0 k_o1_0 hq78) d_Hands_doLine_78 3 qw_861 qw_863 qs_27 qw_8 qw_864 k_o_0 (by decide) rfl hd_Hands_doTake rfl rfl (Nat.le_of_ble_eq_true rfl) ⟨rfl, rfl, Nat.le_of_ble_eq_true rfl, Nat.le_of_ble_eq_true rfl⟩ ⟨Nat.zero_le _, Nat.zero_le _⟩ ?_
    exact en_i hN hf0 d_Hands_doLine_81
  replace hf0 := mx_f hc15 hf0
  have hn15 := lv_neT hc15 (show ((15 : Int32)).toInt = 15 by decide)
  refine gw_tabOut C 91 d_Hands_doLine_1 (by omega) (by decide) ?_
  refine gw_aload_n C 0 d_Hands_doLine_91 rfl rfl ?_
  refine gw_aload_n C 1 d_Hands_doLine_92 rfl rfl ?_
  obtain ⟨q93, hq93, hf0⟩ := mx_bd hf0
  refine gw_callI C (c_Hands_tradeAll _ hg k_o_0 k_o1_0 hq93) d_Hands_doLine_93 1 qw_874 qw_822 qw_823 qw_8 qw_824 k_o_0 (by decide) rfl hd_Hands_tradeAll rfl rfl (Nat.le_of_ble_eq_true rfl) ⟨rfl, rfl, Nat.le_of_ble_eq_true rfl, Nat.le_of_ble_eq_true rfl⟩ ⟨Nat.zero_le _, Nat.zero_le _⟩ ?_
  refine gw_pop C d_Hands_doLine_96 rfl ?_
  refine gw_iconst C (0 : Int32) d_Hands_doLine_97 (by decide) ?_
  exact en_i hN hf0 d_Hands_doLine_98

/-! NameHat.Hands.howManyHeld()I -/
abbrev b_Hands_howManyHeld : ByteArray := prog_3_method_5_code
def y_Hands_howManyHeld : MethodName := ⟨"NameHat$Hands", "howManyHeld", "()I"⟩
abbrev rm_Hands_howManyHeld : Room := { frames := 1, cells := 0, slots := 0, locals := 21 }
theorem hd_Hands_howManyHeld : y_Hands_howManyHeld.cls ≠ "java/lang/invoke/MethodHandle" ∧ y_Hands_howManyHeld.cls ≠ "java/lang/invoke/VarHandle" ∧ (parseMethodDescriptor y_Hands_howManyHeld.desc).map (fun d => d.parameters.length) = some 0 := by decide +kernel
theorem d_Hands_howManyHeld_0 : decode b_Hands_howManyHeld 0 = .ok (.iconst 0, 1) := by decide +kernel
theorem d_Hands_howManyHeld_1 : decode b_Hands_howManyHeld 1 = .ok (.istore_n 1, 1) := by decide +kernel
theorem d_Hands_howManyHeld_2 : decode b_Hands_howManyHeld 2 = .ok (.iconst 0, 1) := by decide +kernel
theorem d_Hands_howManyHeld_3 : decode b_Hands_howManyHeld 3 = .ok (.istore_n 2, 1) := by decide +kernel
theorem d_Hands_howManyHeld_4 : decode b_Hands_howManyHeld 4 = .ok (.iload_n 2, 1) := by decide +kernel
theorem d_Hands_howManyHeld_5 : decode b_Hands_howManyHeld 5 = .ok (.bipush 8, 2) := by decide +kernel
theorem d_Hands_howManyHeld_7 : decode b_Hands_howManyHeld 7 = .ok (.if_icmp .ge 24, 3) := by decide +kernel
theorem d_Hands_howManyHeld_10 : decode b_Hands_howManyHeld 10 = .ok (.aload_n 0, 1) := by decide +kernel
theorem d_Hands_howManyHeld_11 : decode b_Hands_howManyHeld 11 = .ok (.getfield 14, 3) := by decide +kernel
theorem d_Hands_howManyHeld_14 : decode b_Hands_howManyHeld 14 = .ok (.iload_n 2, 1) := by decide +kernel
theorem d_Hands_howManyHeld_15 : decode b_Hands_howManyHeld 15 = .ok (.invokevirtual 36, 3) := by decide +kernel
theorem d_Hands_howManyHeld_18 : decode b_Hands_howManyHeld 18 = .ok (.iconst (-1), 1) := by decide +kernel
theorem d_Hands_howManyHeld_19 : decode b_Hands_howManyHeld 19 = .ok (.if_icmp .eq 6, 3) := by decide +kernel
theorem d_Hands_howManyHeld_22 : decode b_Hands_howManyHeld 22 = .ok (.iinc 1 1, 3) := by decide +kernel
theorem d_Hands_howManyHeld_25 : decode b_Hands_howManyHeld 25 = .ok (.iinc 2 1, 3) := by decide +kernel
theorem d_Hands_howManyHeld_28 : decode b_Hands_howManyHeld 28 = .ok (.goto (-24), 3) := by decide +kernel
theorem d_Hands_howManyHeld_31 : decode b_Hands_howManyHeld 31 = .ok (.iload_n 1, 1) := by decide +kernel
theorem d_Hands_howManyHeld_32 : decode b_Hands_howManyHeld 32 = .ok (.ireturn, 1) := by decide +kernel
noncomputable def f_Hands_howManyHeld_L4 (z : Nat → Nat) (σ : Mm) (o : Nat) (s4 : Int32 × Int32) : Option ((Int32 × Int32) ⊕ (Int32)) :=
  if (8 : Int32) ≤ s4.2 then (
    some (.inr s4.1)
  ) else (
    (f_Row_at z σ (o + 1) s4.2).bind fun q15 =>
    if q15 = ((-1) : Int32) then (
      mm_lt (s4.2 + (1 : Int32)) fun x25 =>
      some (.inl (s4.1, x25))
    ) else (
      mm_lt (s4.1 + (1 : Int32)) fun x22 =>
      mm_lt (s4.2 + (1 : Int32)) fun x25 =>
      some (.inl (x22, x25))
    )
  )
noncomputable def f_Hands_howManyHeld (z : Nat → Nat) (σ : Mm) (o : Nat) : Option (Int32) :=
  (mm_lp (f_Hands_howManyHeld_L4 z σ o) ((0 : Int32), (0 : Int32))).bind (fun q4 =>
    some q4)
set_option maxHeartbeats 4000000 in
set_option maxRecDepth 100000 in
theorem c_Hands_howManyHeld (l : Launch) {L : Ly} (hg : gd_ok L) {σ : Mm} {o : Nat} (k_o_0 : ly_k L o = 3) {res : Int32} (hf0 : f_Hands_howManyHeld (ly_z L) σ o = some res) : CtI l y_Hands_howManyHeld b_Hands_howManyHeld 3 (some .int) rm_Hands_howManyHeld L [.ref (ly_a L o)] σ res σ := by
  refine ct_i hg (by decide) (Nat.le_of_ble_eq_true rfl) ?_
  intro E A Q hE C hN
  subst hE
  have k_o_1 : ly_k L (o + 1) = 0 := gd_Hands_held hg k_o_0
  unfold f_Hands_howManyHeld at hf0
  show GW E L A 3 0 0 Q σ 0 [(0, .ref (ly_a L o))] []
  refine gw_iconst C (0 : Int32) d_Hands_howManyHeld_0 (by decide) ?_
  refine gw_istore_n C [(1, .int (0 : Int32)), (0, .ref (ly_a L o))] d_Hands_howManyHeld_1 rfl (by decide) rfl ?_
  refine gw_iconst C (0 : Int32) d_Hands_howManyHeld_2 (by decide) ?_
  refine gw_istore_n C [(2, .int (0 : Int32)), (1, .int (0 : Int32)), (0, .ref (ly_a L o))] d_Hands_howManyHeld_3 rfl (by decide) rfl ?_
  obtain ⟨q4, hq4, hf0⟩ := mx_bd hf0
  have hk4 : ∀ x9, q4 = x9 → GW E L A 3 0 0 Q σ 31 [(1, .int x9)] [] := by
    intro x9 hx9
    subst hx9
    refine gw_iload_n C 0 d_Hands_howManyHeld_31 rfl rfl ?_
    exact en_ip hN hf0 d_Hands_howManyHeld_32
  refine gw_sub [2, 1, 0] (lv' := [(0, .ref (ly_a L o)), (1, .int (0 : Int32)), (2, .int (0 : Int32))]) rfl ?_
  refine mm_rule hq4 (P := fun (s4 : Int32 × Int32) => GW E L A 3 0 0 Q σ 4 [(0, .ref (ly_a L o)), (1, .int s4.1), (2, .int s4.2)] []) ?_
  intro s4 ih4 hx4 ⟨w4, hb4⟩
  have hf1 := hb4
  unfold f_Hands_howManyHeld_L4 at hf1
  refine gw_iload_n C 2 d_Hands_howManyHeld_4 rfl rfl ?_
  refine gw_bipush C (8 : Int32) d_Hands_howManyHeld_5 (by decide) ?_
  refine gw_icmp_ge C 31 d_Hands_howManyHeld_7 (by decide) (fun hc => ?_) (fun hc => ?_)
  · replace hf1 := mx_t hc hf1
    exact gw_go [1] (hk4 s4.1 (hx4 _ (hb4.trans hf1.symm)).symm) rfl
  · replace hf1 := mx_f hc hf1
    refine gw_aload_n C 0 d_Hands_howManyHeld_10 rfl rfl ?_
    refine gw_getA C 0 d_Hands_howManyHeld_11 k_o_0 (by decide) i_Hands rfl rfl (by decide) qw_186 rfl rfl (o + 1) rfl ?_
    refine gw_iload_n C 2 d_Hands_howManyHeld_14 rfl rfl ?_
    obtain ⟨q15, hq15, hf1⟩ := mx_bd hf1
    refine gw_callI C (c_Row_at _ hg k_o_1 hq15) d_Hands_howManyHeld_15 1 qw_609 qw_489 qw_490 qw_4 qw_491 k_o_1 (by decide) rfl hd_Row_at rfl rfl (Nat.le_of_ble_eq_true rfl) ⟨rfl, rfl, Nat.le_of_ble_eq_true rfl, Nat.le_of_ble_eq_true rfl⟩ ⟨Nat.zero_le _, Nat.zero_le _⟩ ?_
    refine gw_iconst C ((-1) : Int32) d_Hands_howManyHeld_18 (by decide) ?_
    refine gw_icmp_eq C 25 d_Hands_howManyHeld_19 (by decide) (fun hc => ?_) (fun hc => ?_)
    · replace hf1 := mx_t hc hf1
      obtain ⟨x25, ex25, hf1⟩ := mx_lt hf1
      refine gw_iinc C 2 [(2, .int x25), (0, .ref (ly_a L o)), (1, .int s4.1)] d_Hands_howManyHeld_25 rfl (by rw [ex25]; rfl) (by decide) rfl ?_
      refine gw_goto C 4 d_Hands_howManyHeld_28 (by decide) ?_
      exact gw_go [1, 2, 0] (ih4 (s4.1, x25) (hb4.trans hf1.symm)) rfl
    · replace hf1 := mx_f hc hf1
      obtain ⟨x22, ex22, hf1⟩ := mx_lt hf1
      refine gw_iinc C 1 [(1, .int x22), (0, .ref (ly_a L o)), (2, .int s4.2)] d_Hands_howManyHeld_22 rfl (by rw [ex22]; rfl) (by decide) rfl ?_
      obtain ⟨x25, ex25, hf1⟩ := mx_lt hf1
      refine gw_iinc C 2 [(2, .int x25), (1, .int x22), (0, .ref (ly_a L o))] d_Hands_howManyHeld_25 rfl (by rw [ex25]; rfl) (by decide) rfl ?_
      refine gw_goto C 4 d_Hands_howManyHeld_28 (by decide) ?_
      exact gw_go [2, 1, 0] (ih4 (x22, x25) (hb4.trans hf1.symm)) rfl

/-! NameHat.go(I)I -/
abbrev b_Hat_go : ByteArray := prog_1_method_22_code
def y_Hat_go : MethodName := ⟨"NameHat", "go", "(I)I"⟩
abbrev rm_Hat_go : Room := { frames := 6, cells := 0, slots := 0, locals := 144 }
theorem hd_Hat_go : y_Hat_go.cls ≠ "java/lang/invoke/MethodHandle" ∧ y_Hat_go.cls ≠ "java/lang/invoke/VarHandle" ∧ (parseMethodDescriptor y_Hat_go.desc).map (fun d => d.parameters.length) = some 1 := by decide +kernel
theorem d_Hat_go_0 : decode b_Hat_go 0 = .ok (.iload_n 1, 1) := by decide +kernel
theorem d_Hat_go_1 : decode b_Hat_go 1 = .ok (.ifCond .eq 11, 3) := by decide +kernel
theorem d_Hat_go_4 : decode b_Hat_go 4 = .ok (.iload_n 1, 1) := by decide +kernel
theorem d_Hat_go_5 : decode b_Hat_go 5 = .ok (.iconst 1, 1) := by decide +kernel
theorem d_Hat_go_6 : decode b_Hat_go 6 = .ok (.if_icmp .eq 6, 3) := by decide +kernel
theorem d_Hat_go_9 : decode b_Hat_go 9 = .ok (.bipush (-2), 2) := by decide +kernel
theorem d_Hat_go_11 : decode b_Hat_go 11 = .ok (.ireturn, 1) := by decide +kernel
theorem d_Hat_go_12 : decode b_Hat_go 12 = .ok (.aload_n 0, 1) := by decide +kernel
theorem d_Hat_go_13 : decode b_Hat_go 13 = .ok (.getfield 31, 3) := by decide +kernel
theorem d_Hat_go_16 : decode b_Hat_go 16 = .ok (.getfield 154, 3) := by decide +kernel
theorem d_Hat_go_19 : decode b_Hat_go 19 = .ok (.astore_n 2, 1) := by decide +kernel
theorem d_Hat_go_20 : decode b_Hat_go 20 = .ok (.aload_n 2, 1) := by decide +kernel
theorem d_Hat_go_21 : decode b_Hat_go 21 = .ok (.aload_n 0, 1) := by decide +kernel
theorem d_Hat_go_22 : decode b_Hat_go 22 = .ok (.getfield 57, 3) := by decide +kernel
theorem d_Hat_go_25 : decode b_Hat_go 25 = .ok (.getfield 154, 3) := by decide +kernel
theorem d_Hat_go_28 : decode b_Hat_go 28 = .ok (.invokevirtual 226, 3) := by decide +kernel
theorem d_Hat_go_31 : decode b_Hat_go 31 = .ok (.iconst 0, 1) := by decide +kernel
theorem d_Hat_go_32 : decode b_Hat_go 32 = .ok (.istore_n 3, 1) := by decide +kernel
theorem d_Hat_go_33 : decode b_Hat_go 33 = .ok (.iconst 0, 1) := by decide +kernel
theorem d_Hat_go_34 : decode b_Hat_go 34 = .ok (.istore 4, 2) := by decide +kernel
theorem d_Hat_go_36 : decode b_Hat_go 36 = .ok (.iload 4, 2) := by decide +kernel
theorem d_Hat_go_38 : decode b_Hat_go 38 = .ok (.aload_n 0, 1) := by decide +kernel
theorem d_Hat_go_39 : decode b_Hat_go 39 = .ok (.getfield 57, 3) := by decide +kernel
theorem d_Hat_go_42 : decode b_Hat_go 42 = .ok (.getfield 106, 3) := by decide +kernel
theorem d_Hat_go_45 : decode b_Hat_go 45 = .ok (.if_icmp .ge 64, 3) := by decide +kernel
theorem d_Hat_go_48 : decode b_Hat_go 48 = .ok (.aload_n 2, 1) := by decide +kernel
theorem d_Hat_go_49 : decode b_Hat_go 49 = .ok (.aload_n 0, 1) := by decide +kernel
theorem d_Hat_go_50 : decode b_Hat_go 50 = .ok (.getfield 57, 3) := by decide +kernel
theorem d_Hat_go_53 : decode b_Hat_go 53 = .ok (.getfield 121, 3) := by decide +kernel
theorem d_Hat_go_56 : decode b_Hat_go 56 = .ok (.aload_n 0, 1) := by decide +kernel
theorem d_Hat_go_57 : decode b_Hat_go 57 = .ok (.getfield 57, 3) := by decide +kernel
theorem d_Hat_go_60 : decode b_Hat_go 60 = .ok (.getfield 229, 3) := by decide +kernel
theorem d_Hat_go_63 : decode b_Hat_go 63 = .ok (.iload 4, 2) := by decide +kernel
theorem d_Hat_go_65 : decode b_Hat_go 65 = .ok (.invokevirtual 147, 3) := by decide +kernel
theorem d_Hat_go_68 : decode b_Hat_go 68 = .ok (.aload_n 0, 1) := by decide +kernel
theorem d_Hat_go_69 : decode b_Hat_go 69 = .ok (.getfield 57, 3) := by decide +kernel
theorem d_Hat_go_72 : decode b_Hat_go 72 = .ok (.getfield 232, 3) := by decide +kernel
theorem d_Hat_go_75 : decode b_Hat_go 75 = .ok (.iload 4, 2) := by decide +kernel
theorem d_Hat_go_77 : decode b_Hat_go 77 = .ok (.invokevirtual 147, 3) := by decide +kernel
theorem d_Hat_go_80 : decode b_Hat_go 80 = .ok (.aload_n 0, 1) := by decide +kernel
theorem d_Hat_go_81 : decode b_Hat_go 81 = .ok (.getfield 57, 3) := by decide +kernel
theorem d_Hat_go_84 : decode b_Hat_go 84 = .ok (.getfield 235, 3) := by decide +kernel
theorem d_Hat_go_87 : decode b_Hat_go 87 = .ok (.iload 4, 2) := by decide +kernel
theorem d_Hat_go_89 : decode b_Hat_go 89 = .ok (.invokevirtual 147, 3) := by decide +kernel
theorem d_Hat_go_92 : decode b_Hat_go 92 = .ok (.invokevirtual 238, 3) := by decide +kernel
theorem d_Hat_go_95 : decode b_Hat_go 95 = .ok (.istore_n 3, 1) := by decide +kernel
theorem d_Hat_go_96 : decode b_Hat_go 96 = .ok (.iload_n 3, 1) := by decide +kernel
theorem d_Hat_go_97 : decode b_Hat_go 97 = .ok (.ifCond .eq 6, 3) := by decide +kernel
theorem d_Hat_go_100 : decode b_Hat_go 100 = .ok (.goto 9, 3) := by decide +kernel
theorem d_Hat_go_103 : decode b_Hat_go 103 = .ok (.iinc 4 1, 3) := by decide +kernel
theorem d_Hat_go_106 : decode b_Hat_go 106 = .ok (.goto (-70), 3) := by decide +kernel
theorem d_Hat_go_109 : decode b_Hat_go 109 = .ok (.aload_n 0, 1) := by decide +kernel
theorem d_Hat_go_110 : decode b_Hat_go 110 = .ok (.iconst 1, 1) := by decide +kernel
theorem d_Hat_go_111 : decode b_Hat_go 111 = .ok (.putfield 242, 3) := by decide +kernel
theorem d_Hat_go_114 : decode b_Hat_go 114 = .ok (.aload_n 0, 1) := by decide +kernel
theorem d_Hat_go_115 : decode b_Hat_go 115 = .ok (.getfield 51, 3) := by decide +kernel
theorem d_Hat_go_118 : decode b_Hat_go 118 = .ok (.iconst 0, 1) := by decide +kernel
theorem d_Hat_go_119 : decode b_Hat_go 119 = .ok (.iload_n 3, 1) := by decide +kernel
theorem d_Hat_go_120 : decode b_Hat_go 120 = .ok (.invokevirtual 84, 3) := by decide +kernel
theorem d_Hat_go_123 : decode b_Hat_go 123 = .ok (.aload_n 0, 1) := by decide +kernel
theorem d_Hat_go_124 : decode b_Hat_go 124 = .ok (.getfield 51, 3) := by decide +kernel
theorem d_Hat_go_127 : decode b_Hat_go 127 = .ok (.iconst 1, 1) := by decide +kernel
theorem d_Hat_go_128 : decode b_Hat_go 128 = .ok (.iload 4, 2) := by decide +kernel
theorem d_Hat_go_130 : decode b_Hat_go 130 = .ok (.invokevirtual 84, 3) := by decide +kernel
theorem d_Hat_go_133 : decode b_Hat_go 133 = .ok (.aload_n 0, 1) := by decide +kernel
theorem d_Hat_go_134 : decode b_Hat_go 134 = .ok (.getfield 51, 3) := by decide +kernel
theorem d_Hat_go_137 : decode b_Hat_go 137 = .ok (.iconst 2, 1) := by decide +kernel
theorem d_Hat_go_138 : decode b_Hat_go 138 = .ok (.aload_n 2, 1) := by decide +kernel
theorem d_Hat_go_139 : decode b_Hat_go 139 = .ok (.aload_n 0, 1) := by decide +kernel
theorem d_Hat_go_140 : decode b_Hat_go 140 = .ok (.getfield 57, 3) := by decide +kernel
theorem d_Hat_go_143 : decode b_Hat_go 143 = .ok (.getfield 121, 3) := by decide +kernel
theorem d_Hat_go_146 : decode b_Hat_go 146 = .ok (.invokevirtual 202, 3) := by decide +kernel
theorem d_Hat_go_149 : decode b_Hat_go 149 = .ok (.invokevirtual 84, 3) := by decide +kernel
theorem d_Hat_go_152 : decode b_Hat_go 152 = .ok (.aload_n 0, 1) := by decide +kernel
theorem d_Hat_go_153 : decode b_Hat_go 153 = .ok (.getfield 51, 3) := by decide +kernel
theorem d_Hat_go_156 : decode b_Hat_go 156 = .ok (.iconst 3, 1) := by decide +kernel
theorem d_Hat_go_157 : decode b_Hat_go 157 = .ok (.aload_n 2, 1) := by decide +kernel
theorem d_Hat_go_158 : decode b_Hat_go 158 = .ok (.invokevirtual 246, 3) := by decide +kernel
theorem d_Hat_go_161 : decode b_Hat_go 161 = .ok (.invokevirtual 84, 3) := by decide +kernel
theorem d_Hat_go_164 : decode b_Hat_go 164 = .ok (.iload_n 1, 1) := by decide +kernel
theorem d_Hat_go_165 : decode b_Hat_go 165 = .ok (.iconst 1, 1) := by decide +kernel
theorem d_Hat_go_166 : decode b_Hat_go 166 = .ok (.if_icmp .ne 14, 3) := by decide +kernel
theorem d_Hat_go_169 : decode b_Hat_go 169 = .ok (.aload_n 0, 1) := by decide +kernel
theorem d_Hat_go_170 : decode b_Hat_go 170 = .ok (.getfield 57, 3) := by decide +kernel
theorem d_Hat_go_173 : decode b_Hat_go 173 = .ok (.getfield 154, 3) := by decide +kernel
theorem d_Hat_go_176 : decode b_Hat_go 176 = .ok (.aload_n 2, 1) := by decide +kernel
theorem d_Hat_go_177 : decode b_Hat_go 177 = .ok (.invokevirtual 226, 3) := by decide +kernel
theorem d_Hat_go_180 : decode b_Hat_go 180 = .ok (.iload_n 3, 1) := by decide +kernel
theorem d_Hat_go_181 : decode b_Hat_go 181 = .ok (.ifCond .ne 7, 3) := by decide +kernel
theorem d_Hat_go_184 : decode b_Hat_go 184 = .ok (.iconst (-1), 1) := by decide +kernel
theorem d_Hat_go_185 : decode b_Hat_go 185 = .ok (.goto 5, 3) := by decide +kernel
theorem d_Hat_go_188 : decode b_Hat_go 188 = .ok (.iload 4, 2) := by decide +kernel
theorem d_Hat_go_190 : decode b_Hat_go 190 = .ok (.ireturn, 1) := by decide +kernel
noncomputable def f_Hat_go_J109 (z : Nat → Nat) (o : Nat) (v1 : Int32) (v3 : Int32) (v4 : Int32) (m109 : Mm) : Option (Int32 × Mm) :=
  mm_lt (kI m109 o 6 (1 : Int32)) fun m111 =>
  (f_Row_put z m111 (o + 58) (0 : Int32) v3).bind fun q120 =>
  (f_Row_put z q120 (o + 58) (1 : Int32) v4).bind fun q130 =>
  (f_Hands_allValues z q130 (o + 19) (o + 61)).bind fun q146 =>
  (f_Row_put z q130 (o + 58) (2 : Int32) q146).bind fun q149 =>
  (f_Hands_howManyHeld z q149 (o + 19)).bind fun q158 =>
  (f_Row_put z q149 (o + 58) (3 : Int32) q158).bind fun q161 =>
  if v1 = (1 : Int32) then (
    (f_Hands_copyFrom z q161 (o + 74) (o + 19)).bind fun q177 =>
    if v3 = 0 then (
      some (((-1) : Int32), q177)
    ) else (
      some (v4, q177)
    )
  ) else (
    if v3 = 0 then (
      some (((-1) : Int32), q161)
    ) else (
      some (v4, q161)
    )
  )
noncomputable def f_Hat_go_L36 (z : Nat → Nat) (o : Nat) (v1 : Int32) (s36 : Int32 × Int32 × Mm) : Option ((Int32 × Int32 × Mm) ⊕ (Int32 × Int32 × Mm)) :=
  if (s36.2.2.1 (o + 60) 7) ≤ s36.2.1 then (
    some (.inr (s36.1, s36.2.1, s36.2.2))
  ) else (
    (f_Row_at z s36.2.2 (o + 89) s36.2.1).bind fun q65 =>
    (f_Row_at z s36.2.2 (o + 91) s36.2.1).bind fun q77 =>
    (f_Row_at z s36.2.2 (o + 93) s36.2.1).bind fun q89 =>
    (f_Hands_doLine z s36.2.2 (o + 19) (o + 61) q65 q77 q89).bind fun q92 =>
    if q92.1 = 0 then (
      mm_lt (s36.2.1 + (1 : Int32)) fun x103 =>
      some (.inl (q92.1, x103, q92.2))
    ) else (
      some (.inr (q92.1, s36.2.1, q92.2))
    )
  )
noncomputable def f_Hat_go_J12 (z : Nat → Nat) (o : Nat) (v1 : Int32) (m12 : Mm) : Option (Int32 × Mm) :=
  (f_Hands_copyFrom z m12 (o + 19) (o + 74)).bind fun q28 =>
  (mm_lp (f_Hat_go_L36 z o v1) ((0 : Int32), (0 : Int32), q28)).bind (fun q36 =>
    f_Hat_go_J109 z o v1 q36.1 q36.2.1 q36.2.2)
noncomputable def f_Hat_go (z : Nat → Nat) (σ : Mm) (o : Nat) (p1 : Int32) : Option (Int32 × Mm) :=
  if p1 = 0 then (
    f_Hat_go_J12 z o p1 σ
  ) else (
    if p1 = (1 : Int32) then (
      f_Hat_go_J12 z o p1 σ
    ) else (
      some (((-2) : Int32), σ)
    )
  )
set_option maxHeartbeats 4000000 in
set_option maxRecDepth 100000 in
theorem c_Hat_go (l : Launch) {L : Ly} (hg : gd_ok L) {σ : Mm} {o : Nat} {p1 : Int32} (k_o_0 : ly_k L o = 10) {res : Int32 × Mm} (hf0 : f_Hat_go (ly_z L) σ o p1 = some res) : CtI l y_Hat_go b_Hat_go 5 (some .int) rm_Hat_go L [.ref (ly_a L o), .int p1] σ res.1 res.2 := by
  refine ct_i hg (by decide) (Nat.le_of_ble_eq_true rfl) ?_
  intro E A Q hE C hN
  subst hE
  have k_o_58 : ly_k L (o + 58) = 0 := gd_Hat_went hg k_o_0
  have k_o_60 : ly_k L (o + 60) = 4 := gd_Hat_now hg k_o_0
  have k_o_5 : ly_k L (o + 5) = 4 := gd_Hat_draft hg k_o_0
  have k_o_19 : ly_k L (o + 19) = 3 := gd_State_hands hg k_o_5
  have k_o_61 : ly_k L (o + 61) = 2 := gd_State_island hg k_o_60
  have k_o_74 : ly_k L (o + 74) = 3 := gd_State_hands hg k_o_60
  have k_o_89 : ly_k L (o + 89) = 0 := gd_State_bookWords hg k_o_60
  have k_o_91 : ly_k L (o + 91) = 0 := gd_State_bookFirsts hg k_o_60
  have k_o_93 : ly_k L (o + 93) = 0 := gd_State_bookSeconds hg k_o_60
  unfold f_Hat_go at hf0
  show GW E L A 5 0 0 Q σ 0 [(0, .ref (ly_a L o)), (1, .int p1)] []
  have hj109 : ∀ (v1 : Int32) (v3 : Int32) (v4 : Int32) (m109 : Mm), f_Hat_go_J109 (ly_z L) o v1 v3 v4 m109 = some res → GW E L A 5 0 0 Q m109 109 [(0, .ref (ly_a L o)), (1, .int v1), (2, .ref (ly_a L (o + 19))), (3, .int v3), (4, .int v4)] [] := by
    intro v1 v3 v4 m109 hf0
    unfold f_Hat_go_J109 at hf0
    refine gw_aload_n C 0 d_Hat_go_109 rfl rfl ?_
    refine gw_iconst C (1 : Int32) d_Hat_go_110 (by decide) ?_
    obtain ⟨m111, em111, hf0⟩ := mx_lt hf0
    refine gw_putI t_Hat C 6 d_Hat_go_111 k_o_0 (by decide) i_Hat rfl rfl (by decide) qw_409 rfl rfl t_Hat_ok n_Hat rfl (t_Hat_ok 6 (by decide)) rfl rfl em111 ?_
    refine gw_aload_n C 0 d_Hat_go_114 rfl rfl ?_
    refine gw_getA C 5 d_Hat_go_115 k_o_0 (by decide) i_Hat rfl rfl (by decide) qw_408 rfl rfl (o + 58) rfl ?_
    refine gw_iconst C (0 : Int32) d_Hat_go_118 (by decide) ?_
    refine gw_iload_n C 3 d_Hat_go_119 rfl rfl ?_
    obtain ⟨q120, hq120, hf0⟩ := mx_bd hf0
    refine gw_callV C (c_Row_put _ hg k_o_58 hq120) d_Hat_go_120 2 qw_460 qw_461 qw_462 qw_4 qw_463 k_o_58 (by decide) rfl hd_Row_put rfl rfl (Nat.le_of_ble_eq_true rfl) ⟨rfl, rfl, Nat.le_of_ble_eq_true rfl, Nat.le_of_ble_eq_true rfl⟩ ⟨Nat.zero_le _, Nat.zero_le _⟩ ?_
    refine gw_aload_n C 0 d_Hat_go_123 rfl rfl ?_
    refine gw_getA C 5 d_Hat_go_124 k_o_0 (by decide) i_Hat rfl rfl (by decide) qw_408 rfl rfl (o + 58) rfl ?_
    refine gw_iconst C (1 : Int32) d_Hat_go_127 (by decide) ?_
    refine gw_iload C 4 d_Hat_go_128 rfl ?_
    obtain ⟨q130, hq130, hf0⟩ := mx_bd hf0
    refine gw_callV C (c_Row_put _ hg k_o_58 hq130) d_Hat_go_130 2 qw_460 qw_461 qw_462 qw_4 qw_463 k_o_58 (by decide) rfl hd_Row_put rfl rfl (Nat.le_of_ble_eq_true rfl) ⟨rfl, rfl, Nat.le_of_ble_eq_true rfl, Nat.le_of_ble_eq_true rfl⟩ ⟨Nat.zero_le _, Nat.zero_le _⟩ ?_
    refine gw_aload_n C 0 d_Hat_go_133 rfl rfl ?_
    refine gw_getA C 5 d_Hat_go_134 k_o_0 (by decide) i_Hat rfl rfl (by decide) qw_408 rfl rfl (o + 58) rfl ?_
    refine gw_iconst C (2 : Int32) d_Hat_go_137 (by decide) ?_
    refine gw_aload_n C 2 d_Hat_go_138 rfl rfl ?_
    refine gw_aload_n C 0 d_Hat_go_139 rfl rfl ?_
    refine gw_getA C 7 d_Hat_go_140 k_o_0 (by decide) i_Hat rfl rfl (by decide) qw_410 rfl rfl (o + 60) rfl ?_
    refine gw_getAN C 0 d_Hat_go_143 k_o_60 (by decide) i_State rfl rfl (by decide) qw_237 rfl rfl (o + 61) rfl ?_
    obtain ⟨q146, hq146, hf0⟩ := mx_bd hf0
    refine gw_callI C (c_Hands_allValues _ hg k_o_19 k_o_61 hq146) d_Hat_go_146 1 qw_770 qw_771 qw_772 qw_8 qw_773 k_o_19 (by decide) rfl hd_Hands_allValues rfl rfl (Nat.le_of_ble_eq_true rfl) ⟨rfl, rfl, Nat.le_of_ble_eq_true rfl, Nat.le_of_ble_eq_true rfl⟩ ⟨Nat.zero_le _, Nat.zero_le _⟩ ?_
    obtain ⟨q149, hq149, hf0⟩ := mx_bd hf0
    refine gw_callV C (c_Row_put _ hg k_o_58 hq149) d_Hat_go_149 2 qw_460 qw_461 qw_462 qw_4 qw_463 k_o_58 (by decide) rfl hd_Row_put rfl rfl (Nat.le_of_ble_eq_true rfl) ⟨rfl, rfl, Nat.le_of_ble_eq_true rfl, Nat.le_of_ble_eq_true rfl⟩ ⟨Nat.zero_le _, Nat.zero_le _⟩ ?_
    refine gw_aload_n C 0 d_Hat_go_152 rfl rfl ?_
    refine gw_getA C 5 d_Hat_go_153 k_o_0 (by decide) i_Hat rfl rfl (by decide) qw_408 rfl rfl (o + 58) rfl ?_
    refine gw_iconst C (3 : Int32) d_Hat_go_156 (by decide) ?_
    refine gw_aload_n C 2 d_Hat_go_157 rfl rfl ?_
    obtain ⟨q158, hq158, hf0⟩ := mx_bd hf0
    refine gw_callI C (c_Hands_howManyHeld _ hg k_o_19 hq158) d_Hat_go_158 0 qw_875 qw_876 qw_877 qw_8 qw_878 k_o_19 (by decide) rfl hd_Hands_howManyHeld rfl rfl (Nat.le_of_ble_eq_true rfl) ⟨rfl, rfl, Nat.le_of_ble_eq_true rfl, Nat.le_of_ble_eq_true rfl⟩ ⟨Nat.zero_le _, Nat.zero_le _⟩ ?_
    obtain ⟨q161, hq161, hf0⟩ := mx_bd hf0
    refine gw_callV C (c_Row_put _ hg k_o_58 hq161) d_Hat_go_161 2 qw_460 qw_461 qw_462 qw_4 qw_463 k_o_58 (by decide) rfl hd_Row_put rfl rfl (Nat.le_of_ble_eq_true rfl) ⟨rfl, rfl, Nat.le_of_ble_eq_true rfl, Nat.le_of_ble_eq_true rfl⟩ ⟨Nat.zero_le _, Nat.zero_le _⟩ ?_
    refine gw_iload_n C 1 d_Hat_go_164 rfl rfl ?_
    refine gw_iconst C (1 : Int32) d_Hat_go_165 (by decide) ?_
    refine gw_icmp_ne C 180 d_Hat_go_166 (by decide) (fun hc => ?_) (fun hc => ?_)
    · replace hf0 := mx_f hc hf0
      refine gw_iload_n C 3 d_Hat_go_180 rfl rfl ?_
      refine gw_if_ne C 188 d_Hat_go_181 (by decide) (fun hc => ?_) (fun hc => ?_)
      · replace hf0 := mx_f hc hf0
        refine gw_iload C 4 d_Hat_go_188 rfl ?_
        exact en_i hN hf0 d_Hat_go_190
      · replace hf0 := mx_t hc hf0
        refine gw_iconst C ((-1) : Int32) d_Hat_go_184 (by decide) ?_
        refine gw_goto C 190 d_Hat_go_185 (by decide) ?_
        exact en_i hN hf0 d_Hat_go_190
    · replace hf0 := mx_t hc hf0
      refine gw_aload_n C 0 d_Hat_go_169 rfl rfl ?_
      refine gw_getA C 7 d_Hat_go_170 k_o_0 (by decide) i_Hat rfl rfl (by decide) qw_410 rfl rfl (o + 60) rfl ?_
      refine gw_getAN C 1 d_Hat_go_173 k_o_60 (by decide) i_State rfl rfl (by decide) qw_239 rfl rfl (o + 74) rfl ?_
      refine gw_aload_n C 2 d_Hat_go_176 rfl rfl ?_
      obtain ⟨q177, hq177, hf0⟩ := mx_bd hf0
      refine gw_callV C (c_Hands_copyFrom _ hg k_o_74 k_o_19 hq177) d_Hat_go_177 1 qw_843 qw_686 qw_687 qw_8 qw_688 k_o_74 (by decide) rfl hd_Hands_copyFrom rfl rfl (Nat.le_of_ble_eq_true rfl) ⟨rfl, rfl, Nat.le_of_ble_eq_true rfl, Nat.le_of_ble_eq_true rfl⟩ ⟨Nat.zero_le _, Nat.zero_le _⟩ ?_
      refine gw_iload_n C 3 d_Hat_go_180 rfl rfl ?_
      refine gw_if_ne C 188 d_Hat_go_181 (by decide) (fun hc => ?_) (fun hc => ?_)
      · replace hf0 := mx_f hc hf0
        refine gw_iload C 4 d_Hat_go_188 rfl ?_
        exact en_i hN hf0 d_Hat_go_190
      · replace hf0 := mx_t hc hf0
        refine gw_iconst C ((-1) : Int32) d_Hat_go_184 (by decide) ?_
        refine gw_goto C 190 d_Hat_go_185 (by decide) ?_
        exact en_i hN hf0 d_Hat_go_190
  have hj12 : ∀ (v1 : Int32) (m12 : Mm), f_Hat_go_J12 (ly_z L) o v1 m12 = some res → GW E L A 5 0 0 Q m12 12 [(0, .ref (ly_a L o)), (1, .int v1)] [] := by
    intro v1 m12 hf0
    unfold f_Hat_go_J12 at hf0
    refine gw_aload_n C 0 d_Hat_go_12 rfl rfl ?_
    refine gw_getA C 8 d_Hat_go_13 k_o_0 (by decide) i_Hat rfl rfl (by decide) qw_411 rfl rfl (o + 5) rfl ?_
    refine gw_getAN C 1 d_Hat_go_16 k_o_5 (by decide) i_State rfl rfl (by decide) qw_239 rfl rfl (o + 19) rfl ?_
    refine gw_astore_n C [(2, .ref (ly_a L (o + 19))), (0, .ref (ly_a L o)), (1, .int v1)] d_Hat_go_19 rfl (by decide) rfl ?_
    refine gw_aload_n C 0 d_Hat_go_20 rfl rfl ?_
    refine gw_aload_n C 1 d_Hat_go_21 rfl rfl ?_
    refine gw_getA C 7 d_Hat_go_22 k_o_0 (by decide) i_Hat rfl rfl (by decide) qw_410 rfl rfl (o + 60) rfl ?_
    refine gw_getAN C 1 d_Hat_go_25 k_o_60 (by decide) i_State rfl rfl (by decide) qw_239 rfl rfl (o + 74) rfl ?_
    obtain ⟨q28, hq28, hf0⟩ := mx_bd hf0
    refine gw_callV C (c_Hands_copyFrom _ hg k_o_19 k_o_74 hq28) d_Hat_go_28 1 qw_843 qw_686 qw_687 qw_8 qw_688 k_o_19 (by decide) rfl hd_Hands_copyFrom rfl rfl (Nat.le_of_ble_eq_true rfl) ⟨rfl, rfl, Nat.le_of_ble_eq_true rfl, Nat.le_of_ble_eq_true rfl⟩ ⟨Nat.zero_le _, Nat.zero_le _⟩ ?_
    refine gw_iconst C (0 : Int32) d_Hat_go_31 (by decide) ?_
    refine gw_istore_n C [(3, .int (0 : Int32)), (2, .ref (ly_a L (o + 19))), (0, .ref (ly_a L o)), (1, .int v1)] d_Hat_go_32 rfl (by decide) rfl ?_
    refine gw_iconst C (0 : Int32) d_Hat_go_33 (by decide) ?_
    refine gw_istore C [(4, .int (0 : Int32)), (3, .int (0 : Int32)), (2, .ref (ly_a L (o + 19))), (0, .ref (ly_a L o)), (1, .int v1)] d_Hat_go_34 (by decide) rfl ?_
    obtain ⟨q36, hq36, hf0⟩ := mx_bd hf0
    have hk36 : ∀ x9, q36 = x9 → GW E L A 5 0 0 Q x9.2.2 109 [(0, .ref (ly_a L o)), (1, .int v1), (2, .ref (ly_a L (o + 19))), (3, .int x9.1), (4, .int x9.2.1)] [] := by
      intro x9 hx9
      subst hx9
      exact gw_go [0, 1, 2, 3, 4] (hj109 _ _ _ _ hf0) rfl
    refine gw_sub [3, 4, 2, 1, 0] (lv' := [(0, .ref (ly_a L o)), (1, .int v1), (2, .ref (ly_a L (o + 19))), (3, .int (0 : Int32)), (4, .int (0 : Int32))]) rfl ?_
    refine mm_rule hq36 (P := fun (s36 : Int32 × Int32 × Mm) => GW E L A 5 0 0 Q s36.2.2 36 [(0, .ref (ly_a L o)), (1, .int v1), (2, .ref (ly_a L (o + 19))), (3, .int s36.1), (4, .int s36.2.1)] []) ?_
    intro s36 ih36 hx36 ⟨w36, hb36⟩
    have hf1 := hb36
    unfold f_Hat_go_L36 at hf1
    refine gw_iload C 4 d_Hat_go_36 rfl ?_
    refine gw_aload_n C 0 d_Hat_go_38 rfl rfl ?_
    refine gw_getA C 7 d_Hat_go_39 k_o_0 (by decide) i_Hat rfl rfl (by decide) qw_410 rfl rfl (o + 60) rfl ?_
    refine gw_getIN C 7 d_Hat_go_42 k_o_60 (by decide) i_State rfl rfl (by decide) qw_253 rfl rfl ?_
    refine gw_icmp_ge C 109 d_Hat_go_45 (by decide) (fun hc => ?_) (fun hc => ?_)
    · replace hf1 := mx_t hc hf1
      exact gw_go [0, 1, 2, 3, 4] (hk36 (s36.1, s36.2.1, s36.2.2) (hx36 _ (hb36.trans hf1.symm)).symm) rfl
    · replace hf1 := mx_f hc hf1
      refine gw_aload_n C 2 d_Hat_go_48 rfl rfl ?_
      refine gw_aload_n C 0 d_Hat_go_49 rfl rfl ?_
      refine gw_getA C 7 d_Hat_go_50 k_o_0 (by decide) i_Hat rfl rfl (by decide) qw_410 rfl rfl (o + 60) rfl ?_
      refine gw_getAN C 0 d_Hat_go_53 k_o_60 (by decide) i_State rfl rfl (by decide) qw_237 rfl rfl (o + 61) rfl ?_
      refine gw_aload_n C 0 d_Hat_go_56 rfl rfl ?_
      refine gw_getA C 7 d_Hat_go_57 k_o_0 (by decide) i_Hat rfl rfl (by decide) qw_410 rfl rfl (o + 60) rfl ?_
      refine gw_getAN C 8 d_Hat_go_60 k_o_60 (by decide) i_State rfl rfl (by decide) qw_257 rfl rfl (o + 89) rfl ?_
      refine gw_iload C 4 d_Hat_go_63 rfl ?_
      obtain ⟨q65, hq65, hf1⟩ := mx_bd hf1
      refine gw_callI C (c_Row_at _ hg k_o_89 hq65) d_Hat_go_65 1 qw_755 qw_489 qw_490 qw_4 qw_491 k_o_89 (by decide) rfl hd_Row_at rfl rfl (Nat.le_of_ble_eq_true rfl) ⟨rfl, rfl, Nat.le_of_ble_eq_true rfl, Nat.le_of_ble_eq_true rfl⟩ ⟨Nat.zero_le _, Nat.zero_le _⟩ ?_
      refine gw_aload_n C 0 d_Hat_go_68 rfl rfl ?_
      refine gw_getA C 7 d_Hat_go_69 k_o_0 (by decide) i_Hat rfl rfl (by decide) qw_410 rfl rfl (o + 60) rfl ?_
      refine gw_getAN C 9 d_Hat_go_72 k_o_60 (by decide) i_State rfl rfl (by decide) qw_260 rfl rfl (o + 91) rfl ?_
      refine gw_iload C 4 d_Hat_go_75 rfl ?_
      obtain ⟨q77, hq77, hf1⟩ := mx_bd hf1
      refine gw_callI C (c_Row_at _ hg k_o_91 hq77) d_Hat_go_77 1 qw_755 qw_489 qw_490 qw_4 qw_491 k_o_91 (by decide) rfl hd_Row_at rfl rfl (Nat.le_of_ble_eq_true rfl) ⟨rfl, rfl, Nat.le_of_ble_eq_true rfl, Nat.le_of_ble_eq_true rfl⟩ ⟨Nat.zero_le _, Nat.zero_le _⟩ ?_
      refine gw_aload_n C 0 d_Hat_go_80 rfl rfl ?_
      refine gw_getA C 7 d_Hat_go_81 k_o_0 (by decide) i_Hat rfl rfl (by decide) qw_410 rfl rfl (o + 60) rfl ?_
      refine gw_getAN C 10 d_Hat_go_84 k_o_60 (by decide) i_State rfl rfl (by decide) qw_263 rfl rfl (o + 93) rfl ?_
      refine gw_iload C 4 d_Hat_go_87 rfl ?_
      obtain ⟨q89, hq89, hf1⟩ := mx_bd hf1
      refine gw_callI C (c_Row_at _ hg k_o_93 hq89) d_Hat_go_89 1 qw_755 qw_489 qw_490 qw_4 qw_491 k_o_93 (by decide) rfl hd_Row_at rfl rfl (Nat.le_of_ble_eq_true rfl) ⟨rfl, rfl, Nat.le_of_ble_eq_true rfl, Nat.le_of_ble_eq_true rfl⟩ ⟨Nat.zero_le _, Nat.zero_le _⟩ ?_
      obtain ⟨q92, hq92, hf1⟩ := mx_bd hf1
      refine gw_callI C (c_Hands_doLine _ hg k_o_19 k_o_61 hq92) d_Hat_go_92 4 qw_844 qw_845 qw_846 qw_8 qw_847 k_o_19 (by decide) rfl hd_Hands_doLine rfl rfl (Nat.le_of_ble_eq_true rfl) ⟨rfl, rfl, Nat.le_of_ble_eq_true rfl, Nat.le_of_ble_eq_true rfl⟩ ⟨Nat.zero_le _, Nat.zero_le _⟩ ?_
      refine gw_istore_n C [(3, .int q92.1), (0, .ref (ly_a L o)), (1, .int v1), (2, .ref (ly_a L (o + 19))), (4, .int s36.2.1)] d_Hat_go_95 rfl (by decide) rfl ?_
      refine gw_iload_n C 0 d_Hat_go_96 rfl rfl ?_
      refine gw_if_eq C 103 d_Hat_go_97 (by decide) (fun hc => ?_) (fun hc => ?_)
      · replace hf1 := mx_t hc hf1
        obtain ⟨x103, ex103, hf1⟩ := mx_lt hf1
        refine gw_iinc C 4 [(4, .int x103), (3, .int q92.1), (0, .ref (ly_a L o)), (1, .int v1), (2, .ref (ly_a L (o + 19)))] d_Hat_go_103 rfl (by rw [ex103]; rfl) (by decide) rfl ?_
        refine gw_goto C 36 d_Hat_go_106 (by decide) ?_
        exact gw_go [2, 3, 4, 1, 0] (ih36 (q92.1, x103, q92.2) (hb36.trans hf1.symm)) rfl
      · replace hf1 := mx_f hc hf1
        refine gw_goto C 109 d_Hat_go_100 (by decide) ?_
        exact gw_go [1, 2, 3, 0, 4] (hk36 (q92.1, s36.2.1, q92.2) (hx36 _ (hb36.trans hf1.symm)).symm) rfl
  refine gw_iload_n C 1 d_Hat_go_0 rfl rfl ?_
  refine gw_if_eq C 12 d_Hat_go_1 (by decide) (fun hc => ?_) (fun hc => ?_)
  · replace hf0 := mx_t hc hf0
    exact gw_go [0, 1] (hj12 _ _ hf0) rfl
  · replace hf0 := mx_f hc hf0
    refine gw_iload_n C 1 d_Hat_go_4 rfl rfl ?_
    refine gw_iconst C (1 : Int32) d_Hat_go_5 (by decide) ?_
    refine gw_icmp_eq C 12 d_Hat_go_6 (by decide) (fun hc => ?_) (fun hc => ?_)
    · replace hf0 := mx_t hc hf0
      exact gw_go [0, 1] (hj12 _ _ hf0) rfl
    · replace hf0 := mx_f hc hf0
      refine gw_bipush C ((-2) : Int32) d_Hat_go_9 (by decide) ?_
      exact en_i hN hf0 d_Hat_go_11

/-! NameHat.went(I)I -/
abbrev b_Hat_went : ByteArray := prog_1_method_23_code
def y_Hat_went : MethodName := ⟨"NameHat", "went", "(I)I"⟩
abbrev rm_Hat_went : Room := { frames := 1, cells := 0, slots := 0, locals := 21 }
theorem hd_Hat_went : y_Hat_went.cls ≠ "java/lang/invoke/MethodHandle" ∧ y_Hat_went.cls ≠ "java/lang/invoke/VarHandle" ∧ (parseMethodDescriptor y_Hat_went.desc).map (fun d => d.parameters.length) = some 1 := by decide +kernel
theorem d_Hat_went_0 : decode b_Hat_went 0 = .ok (.aload_n 0, 1) := by decide +kernel
theorem d_Hat_went_1 : decode b_Hat_went 1 = .ok (.getfield 242, 3) := by decide +kernel
theorem d_Hat_went_4 : decode b_Hat_went 4 = .ok (.ifCond .eq 14, 3) := by decide +kernel
theorem d_Hat_went_7 : decode b_Hat_went 7 = .ok (.aload_n 0, 1) := by decide +kernel
theorem d_Hat_went_8 : decode b_Hat_went 8 = .ok (.getfield 51, 3) := by decide +kernel
theorem d_Hat_went_11 : decode b_Hat_went 11 = .ok (.iload_n 1, 1) := by decide +kernel
theorem d_Hat_went_12 : decode b_Hat_went 12 = .ok (.invokevirtual 147, 3) := by decide +kernel
theorem d_Hat_went_15 : decode b_Hat_went 15 = .ok (.goto 4, 3) := by decide +kernel
theorem d_Hat_went_18 : decode b_Hat_went 18 = .ok (.iconst (-1), 1) := by decide +kernel
theorem d_Hat_went_19 : decode b_Hat_went 19 = .ok (.ireturn, 1) := by decide +kernel
noncomputable def f_Hat_went (z : Nat → Nat) (σ : Mm) (o : Nat) (p1 : Int32) : Option (Int32) :=
  if (σ.1 o 6) = 0 then (
    some ((-1) : Int32)
  ) else (
    (f_Row_at z σ (o + 58) p1).bind fun q12 =>
    some q12
  )
set_option maxHeartbeats 4000000 in
set_option maxRecDepth 100000 in
theorem c_Hat_went (l : Launch) {L : Ly} (hg : gd_ok L) {σ : Mm} {o : Nat} {p1 : Int32} (k_o_0 : ly_k L o = 10) {res : Int32} (hf0 : f_Hat_went (ly_z L) σ o p1 = some res) : CtI l y_Hat_went b_Hat_went 2 (some .int) rm_Hat_went L [.ref (ly_a L o), .int p1] σ res σ := by
  refine ct_i hg (by decide) (Nat.le_of_ble_eq_true rfl) ?_
  intro E A Q hE C hN
  subst hE
  have k_o_58 : ly_k L (o + 58) = 0 := gd_Hat_went hg k_o_0
  unfold f_Hat_went at hf0
  show GW E L A 2 0 0 Q σ 0 [(0, .ref (ly_a L o)), (1, .int p1)] []
  refine gw_aload_n C 0 d_Hat_went_0 rfl rfl ?_
  refine gw_getI C 6 d_Hat_went_1 k_o_0 (by decide) i_Hat rfl rfl (by decide) qw_409 rfl rfl ?_
  refine gw_if_eq C 18 d_Hat_went_4 (by decide) (fun hc => ?_) (fun hc => ?_)
  · replace hf0 := mx_t hc hf0
    refine gw_iconst C ((-1) : Int32) d_Hat_went_18 (by decide) ?_
    exact en_ip hN hf0 d_Hat_went_19
  · replace hf0 := mx_f hc hf0
    refine gw_aload_n C 0 d_Hat_went_7 rfl rfl ?_
    refine gw_getA C 5 d_Hat_went_8 k_o_0 (by decide) i_Hat rfl rfl (by decide) qw_408 rfl rfl (o + 58) rfl ?_
    refine gw_iload_n C 1 d_Hat_went_11 rfl rfl ?_
    obtain ⟨q12, hq12, hf0⟩ := mx_bd hf0
    refine gw_callI C (c_Row_at _ hg k_o_58 hq12) d_Hat_went_12 1 qw_755 qw_489 qw_490 qw_4 qw_491 k_o_58 (by decide) rfl hd_Row_at rfl rfl (Nat.le_of_ble_eq_true rfl) ⟨rfl, rfl, Nat.le_of_ble_eq_true rfl, Nat.le_of_ble_eq_true rfl⟩ ⟨Nat.zero_le _, Nat.zero_le _⟩ ?_
    refine gw_goto C 19 d_Hat_went_15 (by decide) ?_
    exact en_ip hN hf0 d_Hat_went_19

/-! NameHat.greatestDivisor(JJ)J -/
abbrev b_Hat_greatestDivisor : ByteArray := prog_1_method_29_code
def y_Hat_greatestDivisor : MethodName := ⟨"NameHat", "greatestDivisor", "(JJ)J"⟩
abbrev rm_Hat_greatestDivisor : Room := { frames := 0, cells := 0, slots := 0, locals := 0 }
theorem hd_Hat_greatestDivisor : y_Hat_greatestDivisor.cls ≠ "java/lang/invoke/MethodHandle" ∧ y_Hat_greatestDivisor.cls ≠ "java/lang/invoke/VarHandle" ∧ (parseMethodDescriptor y_Hat_greatestDivisor.desc).map (fun d => d.parameters.length) = some 2 := by decide +kernel
theorem d_Hat_greatestDivisor_0 : decode b_Hat_greatestDivisor 0 = .ok (.lload_n 0, 1) := by decide +kernel
theorem d_Hat_greatestDivisor_1 : decode b_Hat_greatestDivisor 1 = .ok (.lstore 4, 2) := by decide +kernel
theorem d_Hat_greatestDivisor_3 : decode b_Hat_greatestDivisor 3 = .ok (.lload_n 2, 1) := by decide +kernel
theorem d_Hat_greatestDivisor_4 : decode b_Hat_greatestDivisor 4 = .ok (.lstore 6, 2) := by decide +kernel
theorem d_Hat_greatestDivisor_6 : decode b_Hat_greatestDivisor 6 = .ok (.iconst 0, 1) := by decide +kernel
theorem d_Hat_greatestDivisor_7 : decode b_Hat_greatestDivisor 7 = .ok (.istore 8, 2) := by decide +kernel
theorem d_Hat_greatestDivisor_9 : decode b_Hat_greatestDivisor 9 = .ok (.iload 8, 2) := by decide +kernel
theorem d_Hat_greatestDivisor_11 : decode b_Hat_greatestDivisor 11 = .ok (.sipush 200, 3) := by decide +kernel
theorem d_Hat_greatestDivisor_14 : decode b_Hat_greatestDivisor 14 = .ok (.if_icmp .ge 31, 3) := by decide +kernel
theorem d_Hat_greatestDivisor_17 : decode b_Hat_greatestDivisor 17 = .ok (.lload 6, 2) := by decide +kernel
theorem d_Hat_greatestDivisor_19 : decode b_Hat_greatestDivisor 19 = .ok (.lconst 0, 1) := by decide +kernel
theorem d_Hat_greatestDivisor_20 : decode b_Hat_greatestDivisor 20 = .ok (.lcmp, 1) := by decide +kernel
theorem d_Hat_greatestDivisor_21 : decode b_Hat_greatestDivisor 21 = .ok (.ifCond .eq 24, 3) := by decide +kernel
theorem d_Hat_greatestDivisor_24 : decode b_Hat_greatestDivisor 24 = .ok (.lload 4, 2) := by decide +kernel
theorem d_Hat_greatestDivisor_26 : decode b_Hat_greatestDivisor 26 = .ok (.lload 6, 2) := by decide +kernel
theorem d_Hat_greatestDivisor_28 : decode b_Hat_greatestDivisor 28 = .ok (.lrem, 1) := by decide +kernel
theorem d_Hat_greatestDivisor_29 : decode b_Hat_greatestDivisor 29 = .ok (.lstore 9, 2) := by decide +kernel
theorem d_Hat_greatestDivisor_31 : decode b_Hat_greatestDivisor 31 = .ok (.lload 6, 2) := by decide +kernel
theorem d_Hat_greatestDivisor_33 : decode b_Hat_greatestDivisor 33 = .ok (.lstore 4, 2) := by decide +kernel
theorem d_Hat_greatestDivisor_35 : decode b_Hat_greatestDivisor 35 = .ok (.lload 9, 2) := by decide +kernel
theorem d_Hat_greatestDivisor_37 : decode b_Hat_greatestDivisor 37 = .ok (.lstore 6, 2) := by decide +kernel
theorem d_Hat_greatestDivisor_39 : decode b_Hat_greatestDivisor 39 = .ok (.iinc 8 1, 3) := by decide +kernel
theorem d_Hat_greatestDivisor_42 : decode b_Hat_greatestDivisor 42 = .ok (.goto (-33), 3) := by decide +kernel
theorem d_Hat_greatestDivisor_45 : decode b_Hat_greatestDivisor 45 = .ok (.lload 4, 2) := by decide +kernel
theorem d_Hat_greatestDivisor_47 : decode b_Hat_greatestDivisor 47 = .ok (.lreturn, 1) := by decide +kernel
noncomputable def f_Hat_greatestDivisor_L9 (z : Nat → Nat) (σ : Mm) (s9 : Int64 × Int64 × Int32) : Option ((Int64 × Int64 × Int32) ⊕ (Int64)) :=
  if (200 : Int32) ≤ s9.2.2 then (
    some (.inr s9.1)
  ) else (
    if (lg_cmp s9.2.1 (0 : Int64)) = 0 then (
      some (.inr s9.1)
    ) else (
      (mm_lrem s9.1 s9.2.1).bind fun x28 =>
      mm_lt (s9.2.2 + (1 : Int32)) fun x39 =>
      some (.inl (s9.2.1, x28, x39))
    )
  )
noncomputable def f_Hat_greatestDivisor (z : Nat → Nat) (σ : Mm) (p1 : Int64) (p2 : Int64) : Option (Int64) :=
  (mm_lp (f_Hat_greatestDivisor_L9 z σ) (p1, p2, (0 : Int32))).bind (fun q9 =>
    some q9)
set_option maxHeartbeats 4000000 in
set_option maxRecDepth 100000 in
theorem c_Hat_greatestDivisor (l : Launch) {L : Ly} (hg : gd_ok L) {σ : Mm} {p1 : Int64} {p2 : Int64} {res : Int64} (hf0 : f_Hat_greatestDivisor (ly_z L) σ p1 p2 = some res) : CtL l y_Hat_greatestDivisor b_Hat_greatestDivisor 11 (some .long) rm_Hat_greatestDivisor L [.long p1, .long p2] σ res σ := by
  refine ct_l hg (by decide) (Nat.le_of_ble_eq_true rfl) ?_
  intro E A Q hE C hN
  subst hE
  unfold f_Hat_greatestDivisor at hf0
  show GW E L A 11 0 0 Q σ 0 [(0, .long p1), (2, .long p2)] []
  refine gw_lload_n C 0 d_Hat_greatestDivisor_0 rfl rfl ?_
  refine gw_lstore C [(4, .long p1), (0, .long p1), (2, .long p2)] d_Hat_greatestDivisor_1 (by decide) rfl ?_
  refine gw_lload_n C 2 d_Hat_greatestDivisor_3 rfl rfl ?_
  refine gw_lstore C [(6, .long p2), (4, .long p1), (0, .long p1), (2, .long p2)] d_Hat_greatestDivisor_4 (by decide) rfl ?_
  refine gw_iconst C (0 : Int32) d_Hat_greatestDivisor_6 (by decide) ?_
  refine gw_istore C [(8, .int (0 : Int32)), (6, .long p2), (4, .long p1), (0, .long p1), (2, .long p2)] d_Hat_greatestDivisor_7 (by decide) rfl ?_
  obtain ⟨q9, hq9, hf0⟩ := mx_bd hf0
  have hk9 : ∀ x9, q9 = x9 → GW E L A 11 0 0 Q σ 45 [(4, .long x9)] [] := by
    intro x9 hx9
    subst hx9
    refine gw_lload C 0 d_Hat_greatestDivisor_45 rfl ?_
    exact en_lp hN hf0 d_Hat_greatestDivisor_47
  refine gw_sub [2, 1, 0] (lv' := [(4, .long p1), (6, .long p2), (8, .int (0 : Int32))]) rfl ?_
  refine mm_rule hq9 (P := fun (s9 : Int64 × Int64 × Int32) => GW E L A 11 0 0 Q σ 9 [(4, .long s9.1), (6, .long s9.2.1), (8, .int s9.2.2)] []) ?_
  intro s9 ih9 hx9 ⟨w9, hb9⟩
  have hf1 := hb9
  unfold f_Hat_greatestDivisor_L9 at hf1
  refine gw_iload C 2 d_Hat_greatestDivisor_9 rfl ?_
  refine gw_sipush C (200 : Int32) d_Hat_greatestDivisor_11 (by decide) ?_
  refine gw_icmp_ge C 45 d_Hat_greatestDivisor_14 (by decide) (fun hc => ?_) (fun hc => ?_)
  · replace hf1 := mx_t hc hf1
    exact gw_go [0] (hk9 s9.1 (hx9 _ (hb9.trans hf1.symm)).symm) rfl
  · replace hf1 := mx_f hc hf1
    refine gw_lload C 1 d_Hat_greatestDivisor_17 rfl ?_
    refine gw_lconst C (0 : Int64) d_Hat_greatestDivisor_19 (by decide) ?_
    refine gw_lcmp C d_Hat_greatestDivisor_20 ?_
    refine gw_if_eq C 45 d_Hat_greatestDivisor_21 (by decide) (fun hc => ?_) (fun hc => ?_)
    · replace hf1 := mx_t hc hf1
      exact gw_go [0] (hk9 s9.1 (hx9 _ (hb9.trans hf1.symm)).symm) rfl
    · replace hf1 := mx_f hc hf1
      refine gw_lload C 0 d_Hat_greatestDivisor_24 rfl ?_
      refine gw_lload C 1 d_Hat_greatestDivisor_26 rfl ?_
      obtain ⟨x28, hx28, hf1⟩ := mx_bd hf1
      obtain ⟨nx28, ex28⟩ := mx_lrem hx28
      refine gw_lrem C d_Hat_greatestDivisor_28 nx28 ?_
      refine gw_topl ex28 ?_
      refine gw_lstore C [(9, .long x28), (4, .long s9.1), (6, .long s9.2.1), (8, .int s9.2.2)] d_Hat_greatestDivisor_29 (by decide) rfl ?_
      refine gw_lload C 2 d_Hat_greatestDivisor_31 rfl ?_
      refine gw_lstore C [(4, .long s9.2.1), (9, .long x28), (6, .long s9.2.1), (8, .int s9.2.2)] d_Hat_greatestDivisor_33 (by decide) rfl ?_
      refine gw_lload C 1 d_Hat_greatestDivisor_35 rfl ?_
      refine gw_lstore C [(6, .long x28), (4, .long s9.2.1), (9, .long x28), (8, .int s9.2.2)] d_Hat_greatestDivisor_37 (by decide) rfl ?_
      obtain ⟨x39, ex39, hf1⟩ := mx_lt hf1
      refine gw_iinc C 3 [(8, .int x39), (6, .long x28), (4, .long s9.2.1), (9, .long x28)] d_Hat_greatestDivisor_39 rfl (by rw [ex39]; rfl) (by decide) rfl ?_
      refine gw_goto C 9 d_Hat_greatestDivisor_42 (by decide) ?_
      exact gw_go [2, 1, 0] (ih9 (s9.2.1, x28, x39) (hb9.trans hf1.symm)) rfl

/-! NameHat.inLeastNumbers(JJJ)J -/
abbrev b_Hat_inLeastNumbers : ByteArray := prog_1_method_28_code
def y_Hat_inLeastNumbers : MethodName := ⟨"NameHat", "inLeastNumbers", "(JJJ)J"⟩
abbrev rm_Hat_inLeastNumbers : Room := { frames := 1, cells := 0, slots := 0, locals := 30 }
theorem hd_Hat_inLeastNumbers : y_Hat_inLeastNumbers.cls ≠ "java/lang/invoke/MethodHandle" ∧ y_Hat_inLeastNumbers.cls ≠ "java/lang/invoke/VarHandle" ∧ (parseMethodDescriptor y_Hat_inLeastNumbers.desc).map (fun d => d.parameters.length) = some 3 := by decide +kernel
theorem d_Hat_inLeastNumbers_0 : decode b_Hat_inLeastNumbers 0 = .ok (.lload_n 2, 1) := by decide +kernel
theorem d_Hat_inLeastNumbers_1 : decode b_Hat_inLeastNumbers 1 = .ok (.lconst 0, 1) := by decide +kernel
theorem d_Hat_inLeastNumbers_2 : decode b_Hat_inLeastNumbers 2 = .ok (.lcmp, 1) := by decide +kernel
theorem d_Hat_inLeastNumbers_3 : decode b_Hat_inLeastNumbers 3 = .ok (.ifCond .ge 8, 3) := by decide +kernel
theorem d_Hat_inLeastNumbers_6 : decode b_Hat_inLeastNumbers 6 = .ok (.lload_n 2, 1) := by decide +kernel
theorem d_Hat_inLeastNumbers_7 : decode b_Hat_inLeastNumbers 7 = .ok (.lneg, 1) := by decide +kernel
theorem d_Hat_inLeastNumbers_8 : decode b_Hat_inLeastNumbers 8 = .ok (.goto 4, 3) := by decide +kernel
theorem d_Hat_inLeastNumbers_11 : decode b_Hat_inLeastNumbers 11 = .ok (.lload_n 2, 1) := by decide +kernel
theorem d_Hat_inLeastNumbers_12 : decode b_Hat_inLeastNumbers 12 = .ok (.lload 4, 2) := by decide +kernel
theorem d_Hat_inLeastNumbers_14 : decode b_Hat_inLeastNumbers 14 = .ok (.invokestatic 274, 3) := by decide +kernel
theorem d_Hat_inLeastNumbers_17 : decode b_Hat_inLeastNumbers 17 = .ok (.lstore 6, 2) := by decide +kernel
theorem d_Hat_inLeastNumbers_19 : decode b_Hat_inLeastNumbers 19 = .ok (.lload 6, 2) := by decide +kernel
theorem d_Hat_inLeastNumbers_21 : decode b_Hat_inLeastNumbers 21 = .ok (.lconst 1, 1) := by decide +kernel
theorem d_Hat_inLeastNumbers_22 : decode b_Hat_inLeastNumbers 22 = .ok (.lcmp, 1) := by decide +kernel
theorem d_Hat_inLeastNumbers_23 : decode b_Hat_inLeastNumbers 23 = .ok (.ifCond .le 10, 3) := by decide +kernel
theorem d_Hat_inLeastNumbers_26 : decode b_Hat_inLeastNumbers 26 = .ok (.lload_n 0, 1) := by decide +kernel
theorem d_Hat_inLeastNumbers_27 : decode b_Hat_inLeastNumbers 27 = .ok (.lload 6, 2) := by decide +kernel
theorem d_Hat_inLeastNumbers_29 : decode b_Hat_inLeastNumbers 29 = .ok (.ldiv, 1) := by decide +kernel
theorem d_Hat_inLeastNumbers_30 : decode b_Hat_inLeastNumbers 30 = .ok (.goto 4, 3) := by decide +kernel
theorem d_Hat_inLeastNumbers_33 : decode b_Hat_inLeastNumbers 33 = .ok (.lload_n 0, 1) := by decide +kernel
theorem d_Hat_inLeastNumbers_34 : decode b_Hat_inLeastNumbers 34 = .ok (.lreturn, 1) := by decide +kernel
noncomputable def f_Hat_inLeastNumbers_J12 (z : Nat → Nat) (σ : Mm) (v0 : Int64) (v4 : Int64) (t12_0 : Int64) : Option (Int64) :=
  (f_Hat_greatestDivisor z σ t12_0 v4).bind fun q14 =>
  if (lg_cmp q14 (1 : Int64)) ≤ 0 then (
    some v0
  ) else (
    (mm_ldiv v0 q14).bind fun x29 =>
    some x29
  )
noncomputable def f_Hat_inLeastNumbers (z : Nat → Nat) (σ : Mm) (p1 : Int64) (p2 : Int64) (p3 : Int64) : Option (Int64) :=
  if 0 ≤ (lg_cmp p2 (0 : Int64)) then (
    f_Hat_inLeastNumbers_J12 z σ p1 p3 p2
  ) else (
    f_Hat_inLeastNumbers_J12 z σ p1 p3 (-p2)
  )
set_option maxHeartbeats 4000000 in
set_option maxRecDepth 100000 in
theorem c_Hat_inLeastNumbers (l : Launch) {L : Ly} (hg : gd_ok L) {σ : Mm} {p1 : Int64} {p2 : Int64} {p3 : Int64} {res : Int64} (hf0 : f_Hat_inLeastNumbers (ly_z L) σ p1 p2 p3 = some res) : CtL l y_Hat_inLeastNumbers b_Hat_inLeastNumbers 8 (some .long) rm_Hat_inLeastNumbers L [.long p1, .long p2, .long p3] σ res σ := by
  refine ct_l hg (by decide) (Nat.le_of_ble_eq_true rfl) ?_
  intro E A Q hE C hN
  subst hE
  unfold f_Hat_inLeastNumbers at hf0
  show GW E L A 8 0 0 Q σ 0 [(0, .long p1), (2, .long p2), (4, .long p3)] []
  have hj12 : ∀ (v0 : Int64) (v4 : Int64) (t12_0 : Int64), f_Hat_inLeastNumbers_J12 (ly_z L) σ v0 v4 t12_0 = some res → GW E L A 8 0 0 Q σ 12 [(0, .long v0), (4, .long v4)] [.long t12_0] := by
    intro v0 v4 t12_0 hf0
    unfold f_Hat_inLeastNumbers_J12 at hf0
    refine gw_lload C 1 d_Hat_inLeastNumbers_12 rfl ?_
    obtain ⟨q14, hq14, hf0⟩ := mx_bd hf0
    refine gw_callLS C (c_Hat_greatestDivisor _ hg hq14) d_Hat_inLeastNumbers_14 2 qw_1090 qw_1091 qw_1 qw_1092 hd_Hat_greatestDivisor rfl rfl (Nat.le_of_ble_eq_true rfl) ⟨rfl, rfl, Nat.le_of_ble_eq_true rfl, Nat.le_of_ble_eq_true rfl⟩ ⟨Nat.zero_le _, Nat.zero_le _⟩ ?_
    refine gw_lstore C [(6, .long q14), (0, .long v0), (4, .long v4)] d_Hat_inLeastNumbers_17 (by decide) rfl ?_
    refine gw_lload C 0 d_Hat_inLeastNumbers_19 rfl ?_
    refine gw_lconst C (1 : Int64) d_Hat_inLeastNumbers_21 (by decide) ?_
    refine gw_lcmp C d_Hat_inLeastNumbers_22 ?_
    refine gw_if_le C 33 d_Hat_inLeastNumbers_23 (by decide) (fun hc => ?_) (fun hc => ?_)
    · replace hf0 := mx_t hc hf0
      refine gw_lload_n C 1 d_Hat_inLeastNumbers_33 rfl rfl ?_
      exact en_lp hN hf0 d_Hat_inLeastNumbers_34
    · replace hf0 := mx_f hc hf0
      refine gw_lload_n C 1 d_Hat_inLeastNumbers_26 rfl rfl ?_
      refine gw_lload C 0 d_Hat_inLeastNumbers_27 rfl ?_
      obtain ⟨x29, hx29, hf0⟩ := mx_bd hf0
      obtain ⟨nx29, ex29⟩ := mx_ldiv hx29
      refine gw_ldiv C d_Hat_inLeastNumbers_29 nx29 ?_
      refine gw_topl ex29 ?_
      refine gw_goto C 34 d_Hat_inLeastNumbers_30 (by decide) ?_
      exact en_lp hN hf0 d_Hat_inLeastNumbers_34
  refine gw_lload_n C 1 d_Hat_inLeastNumbers_0 rfl rfl ?_
  refine gw_lconst C (0 : Int64) d_Hat_inLeastNumbers_1 (by decide) ?_
  refine gw_lcmp C d_Hat_inLeastNumbers_2 ?_
  refine gw_if_ge C 11 d_Hat_inLeastNumbers_3 (by decide) (fun hc => ?_) (fun hc => ?_)
  · replace hf0 := mx_t hc hf0
    refine gw_lload_n C 1 d_Hat_inLeastNumbers_11 rfl rfl ?_
    exact gw_go [0, 2] (hj12 _ _ _ hf0) rfl
  · replace hf0 := mx_f hc hf0
    refine gw_lload_n C 1 d_Hat_inLeastNumbers_6 rfl rfl ?_
    refine gw_lneg C d_Hat_inLeastNumbers_7 ?_
    refine gw_goto C 12 d_Hat_inLeastNumbers_8 (by decide) ?_
    exact gw_go [0, 2] (hj12 _ _ _ hf0) rfl

/-! NameHat.Island.valueForBoth(III)I -/
abbrev b_Island_valueForBoth : ByteArray := prog_4_method_7_code
def y_Island_valueForBoth : MethodName := ⟨"NameHat$Island", "valueForBoth", "(III)I"⟩
abbrev rm_Island_valueForBoth : Room := { frames := 3, cells := 0, slots := 0, locals := 67 }
theorem hd_Island_valueForBoth : y_Island_valueForBoth.cls ≠ "java/lang/invoke/MethodHandle" ∧ y_Island_valueForBoth.cls ≠ "java/lang/invoke/VarHandle" ∧ (parseMethodDescriptor y_Island_valueForBoth.desc).map (fun d => d.parameters.length) = some 3 := by decide +kernel
theorem d_Island_valueForBoth_0 : decode b_Island_valueForBoth 0 = .ok (.aload_n 0, 1) := by decide +kernel
theorem d_Island_valueForBoth_1 : decode b_Island_valueForBoth 1 = .ok (.iload_n 1, 1) := by decide +kernel
theorem d_Island_valueForBoth_2 : decode b_Island_valueForBoth 2 = .ok (.iload_n 3, 1) := by decide +kernel
theorem d_Island_valueForBoth_3 : decode b_Island_valueForBoth 3 = .ok (.invokevirtual 74, 3) := by decide +kernel
theorem d_Island_valueForBoth_6 : decode b_Island_valueForBoth 6 = .ok (.aload_n 0, 1) := by decide +kernel
theorem d_Island_valueForBoth_7 : decode b_Island_valueForBoth 7 = .ok (.iload_n 2, 1) := by decide +kernel
theorem d_Island_valueForBoth_8 : decode b_Island_valueForBoth 8 = .ok (.iload_n 3, 1) := by decide +kernel
theorem d_Island_valueForBoth_9 : decode b_Island_valueForBoth 9 = .ok (.invokevirtual 74, 3) := by decide +kernel
theorem d_Island_valueForBoth_12 : decode b_Island_valueForBoth 12 = .ok (.iadd, 1) := by decide +kernel
theorem d_Island_valueForBoth_13 : decode b_Island_valueForBoth 13 = .ok (.ireturn, 1) := by decide +kernel
noncomputable def f_Island_valueForBoth (z : Nat → Nat) (σ : Mm) (o : Nat) (p1 : Int32) (p2 : Int32) (p3 : Int32) : Option (Int32) :=
  (f_Island_valueFor z σ o p1 p3).bind fun q3 =>
  (f_Island_valueFor z σ o p2 p3).bind fun q9 =>
  some (q3 + q9)
set_option maxHeartbeats 4000000 in
set_option maxRecDepth 100000 in
theorem c_Island_valueForBoth (l : Launch) {L : Ly} (hg : gd_ok L) {σ : Mm} {o : Nat} {p1 : Int32} {p2 : Int32} {p3 : Int32} (k_o_0 : ly_k L o = 2) {res : Int32} (hf0 : f_Island_valueForBoth (ly_z L) σ o p1 p2 p3 = some res) : CtI l y_Island_valueForBoth b_Island_valueForBoth 4 (some .int) rm_Island_valueForBoth L [.ref (ly_a L o), .int p1, .int p2, .int p3] σ res σ := by
  refine ct_i hg (by decide) (Nat.le_of_ble_eq_true rfl) ?_
  intro E A Q hE C hN
  subst hE
  unfold f_Island_valueForBoth at hf0
  show GW E L A 4 0 0 Q σ 0 [(0, .ref (ly_a L o)), (1, .int p1), (2, .int p2), (3, .int p3)] []
  refine gw_aload_n C 0 d_Island_valueForBoth_0 rfl rfl ?_
  refine gw_iload_n C 1 d_Island_valueForBoth_1 rfl rfl ?_
  refine gw_iload_n C 3 d_Island_valueForBoth_2 rfl rfl ?_
  obtain ⟨q3, hq3, hf0⟩ := mx_bd hf0
  refine gw_callI C (c_Island_valueFor _ hg k_o_0 hq3) d_Island_valueForBoth_3 2 qw_1110 qw_757 qw_758 qw_6 qw_759 k_o_0 (by decide) rfl hd_Island_valueFor rfl rfl (Nat.le_of_ble_eq_true rfl) ⟨rfl, rfl, Nat.le_of_ble_eq_true rfl, Nat.le_of_ble_eq_true rfl⟩ ⟨Nat.zero_le _, Nat.zero_le _⟩ ?_
  refine gw_aload_n C 0 d_Island_valueForBoth_6 rfl rfl ?_
  refine gw_iload_n C 2 d_Island_valueForBoth_7 rfl rfl ?_
  refine gw_iload_n C 3 d_Island_valueForBoth_8 rfl rfl ?_
  obtain ⟨q9, hq9, hf0⟩ := mx_bd hf0
  refine gw_callI C (c_Island_valueFor _ hg k_o_0 hq9) d_Island_valueForBoth_9 2 qw_1110 qw_757 qw_758 qw_6 qw_759 k_o_0 (by decide) rfl hd_Island_valueFor rfl rfl (Nat.le_of_ble_eq_true rfl) ⟨rfl, rfl, Nat.le_of_ble_eq_true rfl, Nat.le_of_ble_eq_true rfl⟩ ⟨Nat.zero_le _, Nat.zero_le _⟩ ?_
  refine gw_iadd C d_Island_valueForBoth_12 ?_
  exact en_ip hN hf0 d_Island_valueForBoth_13

/-! NameHat.bothOfOne(II)I -/
abbrev b_Hat_bothOfOne : ByteArray := prog_1_method_26_code
def y_Hat_bothOfOne : MethodName := ⟨"NameHat", "bothOfOne", "(II)I"⟩
abbrev rm_Hat_bothOfOne : Room := { frames := 4, cells := 0, slots := 0, locals := 90 }
theorem hd_Hat_bothOfOne : y_Hat_bothOfOne.cls ≠ "java/lang/invoke/MethodHandle" ∧ y_Hat_bothOfOne.cls ≠ "java/lang/invoke/VarHandle" ∧ (parseMethodDescriptor y_Hat_bothOfOne.desc).map (fun d => d.parameters.length) = some 2 := by decide +kernel
theorem d_Hat_bothOfOne_0 : decode b_Hat_bothOfOne 0 = .ok (.iconst 0, 1) := by decide +kernel
theorem d_Hat_bothOfOne_1 : decode b_Hat_bothOfOne 1 = .ok (.istore_n 3, 1) := by decide +kernel
theorem d_Hat_bothOfOne_2 : decode b_Hat_bothOfOne 2 = .ok (.iconst 0, 1) := by decide +kernel
theorem d_Hat_bothOfOne_3 : decode b_Hat_bothOfOne 3 = .ok (.istore 4, 2) := by decide +kernel
theorem d_Hat_bothOfOne_5 : decode b_Hat_bothOfOne 5 = .ok (.iload 4, 2) := by decide +kernel
theorem d_Hat_bothOfOne_7 : decode b_Hat_bothOfOne 7 = .ok (.aload_n 0, 1) := by decide +kernel
theorem d_Hat_bothOfOne_8 : decode b_Hat_bothOfOne 8 = .ok (.getfield 57, 3) := by decide +kernel
theorem d_Hat_bothOfOne_11 : decode b_Hat_bothOfOne 11 = .ok (.getfield 121, 3) := by decide +kernel
theorem d_Hat_bothOfOne_14 : decode b_Hat_bothOfOne 14 = .ok (.getfield 125, 3) := by decide +kernel
theorem d_Hat_bothOfOne_17 : decode b_Hat_bothOfOne 17 = .ok (.getfield 186, 3) := by decide +kernel
theorem d_Hat_bothOfOne_20 : decode b_Hat_bothOfOne 20 = .ok (.if_icmp .ge 26, 3) := by decide +kernel
theorem d_Hat_bothOfOne_23 : decode b_Hat_bothOfOne 23 = .ok (.iload_n 3, 1) := by decide +kernel
theorem d_Hat_bothOfOne_24 : decode b_Hat_bothOfOne 24 = .ok (.aload_n 0, 1) := by decide +kernel
theorem d_Hat_bothOfOne_25 : decode b_Hat_bothOfOne 25 = .ok (.getfield 57, 3) := by decide +kernel
theorem d_Hat_bothOfOne_28 : decode b_Hat_bothOfOne 28 = .ok (.getfield 121, 3) := by decide +kernel
theorem d_Hat_bothOfOne_31 : decode b_Hat_bothOfOne 31 = .ok (.iload_n 1, 1) := by decide +kernel
theorem d_Hat_bothOfOne_32 : decode b_Hat_bothOfOne 32 = .ok (.iload_n 2, 1) := by decide +kernel
theorem d_Hat_bothOfOne_33 : decode b_Hat_bothOfOne 33 = .ok (.iload 4, 2) := by decide +kernel
theorem d_Hat_bothOfOne_35 : decode b_Hat_bothOfOne 35 = .ok (.invokevirtual 265, 3) := by decide +kernel
theorem d_Hat_bothOfOne_38 : decode b_Hat_bothOfOne 38 = .ok (.iadd, 1) := by decide +kernel
theorem d_Hat_bothOfOne_39 : decode b_Hat_bothOfOne 39 = .ok (.istore_n 3, 1) := by decide +kernel
theorem d_Hat_bothOfOne_40 : decode b_Hat_bothOfOne 40 = .ok (.iinc 4 1, 3) := by decide +kernel
theorem d_Hat_bothOfOne_43 : decode b_Hat_bothOfOne 43 = .ok (.goto (-38), 3) := by decide +kernel
theorem d_Hat_bothOfOne_46 : decode b_Hat_bothOfOne 46 = .ok (.iload_n 3, 1) := by decide +kernel
theorem d_Hat_bothOfOne_47 : decode b_Hat_bothOfOne 47 = .ok (.ireturn, 1) := by decide +kernel
noncomputable def f_Hat_bothOfOne_L5 (z : Nat → Nat) (σ : Mm) (o : Nat) (v1 : Int32) (v2 : Int32) (s5 : Int32 × Int32) : Option ((Int32 × Int32) ⊕ (Int32)) :=
  if (σ.1 (o + 62) 1) ≤ s5.2 then (
    some (.inr s5.1)
  ) else (
    (f_Island_valueForBoth z σ (o + 61) v1 v2 s5.2).bind fun q35 =>
    mm_lt ((s5.1 + q35)) fun x39 =>
    mm_lt (s5.2 + (1 : Int32)) fun x40 =>
    some (.inl (x39, x40))
  )
noncomputable def f_Hat_bothOfOne (z : Nat → Nat) (σ : Mm) (o : Nat) (p1 : Int32) (p2 : Int32) : Option (Int32) :=
  (mm_lp (f_Hat_bothOfOne_L5 z σ o p1 p2) ((0 : Int32), (0 : Int32))).bind (fun q5 =>
    some q5)
set_option maxHeartbeats 4000000 in
set_option maxRecDepth 100000 in
theorem c_Hat_bothOfOne (l : Launch) {L : Ly} (hg : gd_ok L) {σ : Mm} {o : Nat} {p1 : Int32} {p2 : Int32} (k_o_0 : ly_k L o = 10) {res : Int32} (hf0 : f_Hat_bothOfOne (ly_z L) σ o p1 p2 = some res) : CtI l y_Hat_bothOfOne b_Hat_bothOfOne 5 (some .int) rm_Hat_bothOfOne L [.ref (ly_a L o), .int p1, .int p2] σ res σ := by
  refine ct_i hg (by decide) (Nat.le_of_ble_eq_true rfl) ?_
  intro E A Q hE C hN
  subst hE
  have k_o_60 : ly_k L (o + 60) = 4 := gd_Hat_now hg k_o_0
  have k_o_61 : ly_k L (o + 61) = 2 := gd_State_island hg k_o_60
  have k_o_62 : ly_k L (o + 62) = 1 := gd_Island_surnames hg k_o_61
  unfold f_Hat_bothOfOne at hf0
  show GW E L A 5 0 0 Q σ 0 [(0, .ref (ly_a L o)), (1, .int p1), (2, .int p2)] []
  refine gw_iconst C (0 : Int32) d_Hat_bothOfOne_0 (by decide) ?_
  refine gw_istore_n C [(3, .int (0 : Int32)), (0, .ref (ly_a L o)), (1, .int p1), (2, .int p2)] d_Hat_bothOfOne_1 rfl (by decide) rfl ?_
  refine gw_iconst C (0 : Int32) d_Hat_bothOfOne_2 (by decide) ?_
  refine gw_istore C [(4, .int (0 : Int32)), (3, .int (0 : Int32)), (0, .ref (ly_a L o)), (1, .int p1), (2, .int p2)] d_Hat_bothOfOne_3 (by decide) rfl ?_
  obtain ⟨q5, hq5, hf0⟩ := mx_bd hf0
  have hk5 : ∀ x9, q5 = x9 → GW E L A 5 0 0 Q σ 46 [(3, .int x9)] [] := by
    intro x9 hx9
    subst hx9
    refine gw_iload_n C 0 d_Hat_bothOfOne_46 rfl rfl ?_
    exact en_ip hN hf0 d_Hat_bothOfOne_47
  refine gw_sub [2, 3, 4, 1, 0] (lv' := [(0, .ref (ly_a L o)), (1, .int p1), (2, .int p2), (3, .int (0 : Int32)), (4, .int (0 : Int32))]) rfl ?_
  refine mm_rule hq5 (P := fun (s5 : Int32 × Int32) => GW E L A 5 0 0 Q σ 5 [(0, .ref (ly_a L o)), (1, .int p1), (2, .int p2), (3, .int s5.1), (4, .int s5.2)] []) ?_
  intro s5 ih5 hx5 ⟨w5, hb5⟩
  have hf1 := hb5
  unfold f_Hat_bothOfOne_L5 at hf1
  refine gw_iload C 4 d_Hat_bothOfOne_5 rfl ?_
  refine gw_aload_n C 0 d_Hat_bothOfOne_7 rfl rfl ?_
  refine gw_getA C 7 d_Hat_bothOfOne_8 k_o_0 (by decide) i_Hat rfl rfl (by decide) qw_410 rfl rfl (o + 60) rfl ?_
  refine gw_getAN C 0 d_Hat_bothOfOne_11 k_o_60 (by decide) i_State rfl rfl (by decide) qw_237 rfl rfl (o + 61) rfl ?_
  refine gw_getAN C 0 d_Hat_bothOfOne_14 k_o_61 (by decide) i_Island rfl rfl (by decide) qw_128 rfl rfl (o + 62) rfl ?_
  refine gw_getIN C 1 d_Hat_bothOfOne_17 k_o_62 (by decide) i_Names rfl rfl (by decide) qw_115 rfl rfl ?_
  refine gw_icmp_ge C 46 d_Hat_bothOfOne_20 (by decide) (fun hc => ?_) (fun hc => ?_)
  · replace hf1 := mx_t hc hf1
    exact gw_go [3] (hk5 s5.1 (hx5 _ (hb5.trans hf1.symm)).symm) rfl
  · replace hf1 := mx_f hc hf1
    refine gw_iload_n C 3 d_Hat_bothOfOne_23 rfl rfl ?_
    refine gw_aload_n C 0 d_Hat_bothOfOne_24 rfl rfl ?_
    refine gw_getA C 7 d_Hat_bothOfOne_25 k_o_0 (by decide) i_Hat rfl rfl (by decide) qw_410 rfl rfl (o + 60) rfl ?_
    refine gw_getAN C 0 d_Hat_bothOfOne_28 k_o_60 (by decide) i_State rfl rfl (by decide) qw_237 rfl rfl (o + 61) rfl ?_
    refine gw_iload_n C 1 d_Hat_bothOfOne_31 rfl rfl ?_
    refine gw_iload_n C 2 d_Hat_bothOfOne_32 rfl rfl ?_
    refine gw_iload C 4 d_Hat_bothOfOne_33 rfl ?_
    obtain ⟨q35, hq35, hf1⟩ := mx_bd hf1
    refine gw_callI C (c_Island_valueForBoth _ hg k_o_61 hq35) d_Hat_bothOfOne_35 3 qw_1106 qw_1107 qw_1108 qw_6 qw_1109 k_o_61 (by decide) rfl hd_Island_valueForBoth rfl rfl (Nat.le_of_ble_eq_true rfl) ⟨rfl, rfl, Nat.le_of_ble_eq_true rfl, Nat.le_of_ble_eq_true rfl⟩ ⟨Nat.zero_le _, Nat.zero_le _⟩ ?_
    refine gw_iadd C d_Hat_bothOfOne_38 ?_
    obtain ⟨x39, ex39, hf1⟩ := mx_lt hf1
    refine gw_topi ex39 ?_
    refine gw_istore_n C [(3, .int x39), (0, .ref (ly_a L o)), (1, .int p1), (2, .int p2), (4, .int s5.2)] d_Hat_bothOfOne_39 rfl (by decide) rfl ?_
    obtain ⟨x40, ex40, hf1⟩ := mx_lt hf1
    refine gw_iinc C 4 [(4, .int x40), (3, .int x39), (0, .ref (ly_a L o)), (1, .int p1), (2, .int p2)] d_Hat_bothOfOne_40 rfl (by rw [ex40]; rfl) (by decide) rfl ?_
    refine gw_goto C 5 d_Hat_bothOfOne_43 (by decide) ?_
    exact gw_go [2, 3, 4, 1, 0] (ih5 (x39, x40) (hb5.trans hf1.symm)) rfl

/-! NameHat.bothOfTheBetter(II)I -/
abbrev b_Hat_bothOfTheBetter : ByteArray := prog_1_method_27_code
def y_Hat_bothOfTheBetter : MethodName := ⟨"NameHat", "bothOfTheBetter", "(II)I"⟩
abbrev rm_Hat_bothOfTheBetter : Room := { frames := 4, cells := 0, slots := 0, locals := 90 }
theorem hd_Hat_bothOfTheBetter : y_Hat_bothOfTheBetter.cls ≠ "java/lang/invoke/MethodHandle" ∧ y_Hat_bothOfTheBetter.cls ≠ "java/lang/invoke/VarHandle" ∧ (parseMethodDescriptor y_Hat_bothOfTheBetter.desc).map (fun d => d.parameters.length) = some 2 := by decide +kernel
theorem d_Hat_bothOfTheBetter_0 : decode b_Hat_bothOfTheBetter 0 = .ok (.iconst 0, 1) := by decide +kernel
theorem d_Hat_bothOfTheBetter_1 : decode b_Hat_bothOfTheBetter 1 = .ok (.istore_n 3, 1) := by decide +kernel
theorem d_Hat_bothOfTheBetter_2 : decode b_Hat_bothOfTheBetter 2 = .ok (.iconst 0, 1) := by decide +kernel
theorem d_Hat_bothOfTheBetter_3 : decode b_Hat_bothOfTheBetter 3 = .ok (.istore 4, 2) := by decide +kernel
theorem d_Hat_bothOfTheBetter_5 : decode b_Hat_bothOfTheBetter 5 = .ok (.iload 4, 2) := by decide +kernel
theorem d_Hat_bothOfTheBetter_7 : decode b_Hat_bothOfTheBetter 7 = .ok (.aload_n 0, 1) := by decide +kernel
theorem d_Hat_bothOfTheBetter_8 : decode b_Hat_bothOfTheBetter 8 = .ok (.getfield 57, 3) := by decide +kernel
theorem d_Hat_bothOfTheBetter_11 : decode b_Hat_bothOfTheBetter 11 = .ok (.getfield 121, 3) := by decide +kernel
theorem d_Hat_bothOfTheBetter_14 : decode b_Hat_bothOfTheBetter 14 = .ok (.getfield 125, 3) := by decide +kernel
theorem d_Hat_bothOfTheBetter_17 : decode b_Hat_bothOfTheBetter 17 = .ok (.getfield 186, 3) := by decide +kernel
theorem d_Hat_bothOfTheBetter_20 : decode b_Hat_bothOfTheBetter 20 = .ok (.if_icmp .ge 77, 3) := by decide +kernel
theorem d_Hat_bothOfTheBetter_23 : decode b_Hat_bothOfTheBetter 23 = .ok (.aload_n 0, 1) := by decide +kernel
theorem d_Hat_bothOfTheBetter_24 : decode b_Hat_bothOfTheBetter 24 = .ok (.getfield 57, 3) := by decide +kernel
theorem d_Hat_bothOfTheBetter_27 : decode b_Hat_bothOfTheBetter 27 = .ok (.getfield 121, 3) := by decide +kernel
theorem d_Hat_bothOfTheBetter_30 : decode b_Hat_bothOfTheBetter 30 = .ok (.iload_n 1, 1) := by decide +kernel
theorem d_Hat_bothOfTheBetter_31 : decode b_Hat_bothOfTheBetter 31 = .ok (.iload_n 2, 1) := by decide +kernel
theorem d_Hat_bothOfTheBetter_32 : decode b_Hat_bothOfTheBetter 32 = .ok (.iload 4, 2) := by decide +kernel
theorem d_Hat_bothOfTheBetter_34 : decode b_Hat_bothOfTheBetter 34 = .ok (.invokevirtual 265, 3) := by decide +kernel
theorem d_Hat_bothOfTheBetter_37 : decode b_Hat_bothOfTheBetter 37 = .ok (.istore 5, 2) := by decide +kernel
theorem d_Hat_bothOfTheBetter_39 : decode b_Hat_bothOfTheBetter 39 = .ok (.iload 4, 2) := by decide +kernel
theorem d_Hat_bothOfTheBetter_41 : decode b_Hat_bothOfTheBetter 41 = .ok (.iconst 1, 1) := by decide +kernel
theorem d_Hat_bothOfTheBetter_42 : decode b_Hat_bothOfTheBetter 42 = .ok (.iadd, 1) := by decide +kernel
theorem d_Hat_bothOfTheBetter_43 : decode b_Hat_bothOfTheBetter 43 = .ok (.istore 6, 2) := by decide +kernel
theorem d_Hat_bothOfTheBetter_45 : decode b_Hat_bothOfTheBetter 45 = .ok (.iload 6, 2) := by decide +kernel
theorem d_Hat_bothOfTheBetter_47 : decode b_Hat_bothOfTheBetter 47 = .ok (.aload_n 0, 1) := by decide +kernel
theorem d_Hat_bothOfTheBetter_48 : decode b_Hat_bothOfTheBetter 48 = .ok (.getfield 57, 3) := by decide +kernel
theorem d_Hat_bothOfTheBetter_51 : decode b_Hat_bothOfTheBetter 51 = .ok (.getfield 121, 3) := by decide +kernel
theorem d_Hat_bothOfTheBetter_54 : decode b_Hat_bothOfTheBetter 54 = .ok (.getfield 125, 3) := by decide +kernel
theorem d_Hat_bothOfTheBetter_57 : decode b_Hat_bothOfTheBetter 57 = .ok (.getfield 186, 3) := by decide +kernel
theorem d_Hat_bothOfTheBetter_60 : decode b_Hat_bothOfTheBetter 60 = .ok (.if_icmp .ge 31, 3) := by decide +kernel
theorem d_Hat_bothOfTheBetter_63 : decode b_Hat_bothOfTheBetter 63 = .ok (.iload_n 3, 1) := by decide +kernel
theorem d_Hat_bothOfTheBetter_64 : decode b_Hat_bothOfTheBetter 64 = .ok (.iload 5, 2) := by decide +kernel
theorem d_Hat_bothOfTheBetter_66 : decode b_Hat_bothOfTheBetter 66 = .ok (.aload_n 0, 1) := by decide +kernel
theorem d_Hat_bothOfTheBetter_67 : decode b_Hat_bothOfTheBetter 67 = .ok (.getfield 57, 3) := by decide +kernel
theorem d_Hat_bothOfTheBetter_70 : decode b_Hat_bothOfTheBetter 70 = .ok (.getfield 121, 3) := by decide +kernel
theorem d_Hat_bothOfTheBetter_73 : decode b_Hat_bothOfTheBetter 73 = .ok (.iload_n 1, 1) := by decide +kernel
theorem d_Hat_bothOfTheBetter_74 : decode b_Hat_bothOfTheBetter 74 = .ok (.iload_n 2, 1) := by decide +kernel
theorem d_Hat_bothOfTheBetter_75 : decode b_Hat_bothOfTheBetter 75 = .ok (.iload 6, 2) := by decide +kernel
theorem d_Hat_bothOfTheBetter_77 : decode b_Hat_bothOfTheBetter 77 = .ok (.invokevirtual 265, 3) := by decide +kernel
theorem d_Hat_bothOfTheBetter_80 : decode b_Hat_bothOfTheBetter 80 = .ok (.invokestatic 269, 3) := by decide +kernel
theorem d_Hat_bothOfTheBetter_83 : decode b_Hat_bothOfTheBetter 83 = .ok (.iadd, 1) := by decide +kernel
theorem d_Hat_bothOfTheBetter_84 : decode b_Hat_bothOfTheBetter 84 = .ok (.istore_n 3, 1) := by decide +kernel
theorem d_Hat_bothOfTheBetter_85 : decode b_Hat_bothOfTheBetter 85 = .ok (.iinc 6 1, 3) := by decide +kernel
theorem d_Hat_bothOfTheBetter_88 : decode b_Hat_bothOfTheBetter 88 = .ok (.goto (-43), 3) := by decide +kernel
theorem d_Hat_bothOfTheBetter_91 : decode b_Hat_bothOfTheBetter 91 = .ok (.iinc 4 1, 3) := by decide +kernel
theorem d_Hat_bothOfTheBetter_94 : decode b_Hat_bothOfTheBetter 94 = .ok (.goto (-89), 3) := by decide +kernel
theorem d_Hat_bothOfTheBetter_97 : decode b_Hat_bothOfTheBetter 97 = .ok (.iload_n 3, 1) := by decide +kernel
theorem d_Hat_bothOfTheBetter_98 : decode b_Hat_bothOfTheBetter 98 = .ok (.ireturn, 1) := by decide +kernel
noncomputable def f_Hat_bothOfTheBetter_L45 (z : Nat → Nat) (σ : Mm) (o : Nat) (v1 : Int32) (v2 : Int32) (v4 : Int32) (v5 : Int32) (s45 : Int32 × Int32) : Option ((Int32 × Int32) ⊕ (Int32)) :=
  if (σ.1 (o + 62) 1) ≤ s45.2 then (
    some (.inr s45.1)
  ) else (
    (f_Island_valueForBoth z σ (o + 61) v1 v2 s45.2).bind fun q77 =>
    mm_lt ((s45.1 + (if v5 < q77 then q77 else v5))) fun x84 =>
    mm_lt (s45.2 + (1 : Int32)) fun x85 =>
    some (.inl (x84, x85))
  )
noncomputable def f_Hat_bothOfTheBetter_L5 (z : Nat → Nat) (σ : Mm) (o : Nat) (v1 : Int32) (v2 : Int32) (s5 : Int32 × Int32) : Option ((Int32 × Int32) ⊕ (Int32)) :=
  if (σ.1 (o + 62) 1) ≤ s5.2 then (
    some (.inr s5.1)
  ) else (
    (f_Island_valueForBoth z σ (o + 61) v1 v2 s5.2).bind fun q34 =>
    mm_lt ((s5.2 + (1 : Int32))) fun x43 =>
    (mm_lp (f_Hat_bothOfTheBetter_L45 z σ o v1 v2 s5.2 q34) (s5.1, x43)).bind (fun q45 =>
      mm_lt (s5.2 + (1 : Int32)) fun x91 =>
      some (.inl (q45, x91)))
  )
noncomputable def f_Hat_bothOfTheBetter (z : Nat → Nat) (σ : Mm) (o : Nat) (p1 : Int32) (p2 : Int32) : Option (Int32) :=
  (mm_lp (f_Hat_bothOfTheBetter_L5 z σ o p1 p2) ((0 : Int32), (0 : Int32))).bind (fun q5 =>
    some q5)
set_option maxHeartbeats 4000000 in
set_option maxRecDepth 100000 in
theorem c_Hat_bothOfTheBetter (l : Launch) {L : Ly} (hg : gd_ok L) {σ : Mm} {o : Nat} {p1 : Int32} {p2 : Int32} (k_o_0 : ly_k L o = 10) {res : Int32} (hf0 : f_Hat_bothOfTheBetter (ly_z L) σ o p1 p2 = some res) : CtI l y_Hat_bothOfTheBetter b_Hat_bothOfTheBetter 7 (some .int) rm_Hat_bothOfTheBetter L [.ref (ly_a L o), .int p1, .int p2] σ res σ := by
  refine ct_i hg (by decide) (Nat.le_of_ble_eq_true rfl) ?_
  intro E A Q hE C hN
  subst hE
  have k_o_60 : ly_k L (o + 60) = 4 := gd_Hat_now hg k_o_0
  have k_o_61 : ly_k L (o + 61) = 2 := gd_State_island hg k_o_60
  have k_o_62 : ly_k L (o + 62) = 1 := gd_Island_surnames hg k_o_61
  unfold f_Hat_bothOfTheBetter at hf0
  show GW E L A 7 0 0 Q σ 0 [(0, .ref (ly_a L o)), (1, .int p1), (2, .int p2)] []
  refine gw_iconst C (0 : Int32) d_Hat_bothOfTheBetter_0 (by decide) ?_
  refine gw_istore_n C [(3, .int (0 : Int32)), (0, .ref (ly_a L o)), (1, .int p1), (2, .int p2)] d_Hat_bothOfTheBetter_1 rfl (by decide) rfl ?_
  refine gw_iconst C (0 : Int32) d_Hat_bothOfTheBetter_2 (by decide) ?_
  refine gw_istore C [(4, .int (0 : Int32)), (3, .int (0 : Int32)), (0, .ref (ly_a L o)), (1, .int p1), (2, .int p2)] d_Hat_bothOfTheBetter_3 (by decide) rfl ?_
  obtain ⟨q5, hq5, hf0⟩ := mx_bd hf0
  have hk5 : ∀ x9, q5 = x9 → GW E L A 7 0 0 Q σ 97 [(3, .int x9)] [] := by
    intro x9 hx9
    subst hx9
    refine gw_iload_n C 0 d_Hat_bothOfTheBetter_97 rfl rfl ?_
    exact en_ip hN hf0 d_Hat_bothOfTheBetter_98
  refine gw_sub [2, 3, 4, 1, 0] (lv' := [(0, .ref (ly_a L o)), (1, .int p1), (2, .int p2), (3, .int (0 : Int32)), (4, .int (0 : Int32))]) rfl ?_
  refine mm_rule hq5 (P := fun (s5 : Int32 × Int32) => GW E L A 7 0 0 Q σ 5 [(0, .ref (ly_a L o)), (1, .int p1), (2, .int p2), (3, .int s5.1), (4, .int s5.2)] []) ?_
  intro s5 ih5 hx5 ⟨w5, hb5⟩
  have hf1 := hb5
  unfold f_Hat_bothOfTheBetter_L5 at hf1
  refine gw_iload C 4 d_Hat_bothOfTheBetter_5 rfl ?_
  refine gw_aload_n C 0 d_Hat_bothOfTheBetter_7 rfl rfl ?_
  refine gw_getA C 7 d_Hat_bothOfTheBetter_8 k_o_0 (by decide) i_Hat rfl rfl (by decide) qw_410 rfl rfl (o + 60) rfl ?_
  refine gw_getAN C 0 d_Hat_bothOfTheBetter_11 k_o_60 (by decide) i_State rfl rfl (by decide) qw_237 rfl rfl (o + 61) rfl ?_
  refine gw_getAN C 0 d_Hat_bothOfTheBetter_14 k_o_61 (by decide) i_Island rfl rfl (by decide) qw_128 rfl rfl (o + 62) rfl ?_
  refine gw_getIN C 1 d_Hat_bothOfTheBetter_17 k_o_62 (by decide) i_Names rfl rfl (by decide) qw_115 rfl rfl ?_
  refine gw_icmp_ge C 97 d_Hat_bothOfTheBetter_20 (by decide) (fun hc => ?_) (fun hc => ?_)
  · replace hf1 := mx_t hc hf1
    exact gw_go [3] (hk5 s5.1 (hx5 _ (hb5.trans hf1.symm)).symm) rfl
  · replace hf1 := mx_f hc hf1
    refine gw_aload_n C 0 d_Hat_bothOfTheBetter_23 rfl rfl ?_
    refine gw_getA C 7 d_Hat_bothOfTheBetter_24 k_o_0 (by decide) i_Hat rfl rfl (by decide) qw_410 rfl rfl (o + 60) rfl ?_
    refine gw_getAN C 0 d_Hat_bothOfTheBetter_27 k_o_60 (by decide) i_State rfl rfl (by decide) qw_237 rfl rfl (o + 61) rfl ?_
    refine gw_iload_n C 1 d_Hat_bothOfTheBetter_30 rfl rfl ?_
    refine gw_iload_n C 2 d_Hat_bothOfTheBetter_31 rfl rfl ?_
    refine gw_iload C 4 d_Hat_bothOfTheBetter_32 rfl ?_
    obtain ⟨q34, hq34, hf1⟩ := mx_bd hf1
    refine gw_callI C (c_Island_valueForBoth _ hg k_o_61 hq34) d_Hat_bothOfTheBetter_34 3 qw_1106 qw_1107 qw_1108 qw_6 qw_1109 k_o_61 (by decide) rfl hd_Island_valueForBoth rfl rfl (Nat.le_of_ble_eq_true rfl) ⟨rfl, rfl, Nat.le_of_ble_eq_true rfl, Nat.le_of_ble_eq_true rfl⟩ ⟨Nat.zero_le _, Nat.zero_le _⟩ ?_
    refine gw_istore C [(5, .int q34), (0, .ref (ly_a L o)), (1, .int p1), (2, .int p2), (3, .int s5.1), (4, .int s5.2)] d_Hat_bothOfTheBetter_37 (by decide) rfl ?_
    refine gw_iload C 5 d_Hat_bothOfTheBetter_39 rfl ?_
    refine gw_iconst C (1 : Int32) d_Hat_bothOfTheBetter_41 (by decide) ?_
    refine gw_iadd C d_Hat_bothOfTheBetter_42 ?_
    obtain ⟨x43, ex43, hf1⟩ := mx_lt hf1
    refine gw_topi ex43 ?_
    refine gw_istore C [(6, .int x43), (5, .int q34), (0, .ref (ly_a L o)), (1, .int p1), (2, .int p2), (3, .int s5.1), (4, .int s5.2)] d_Hat_bothOfTheBetter_43 (by decide) rfl ?_
    obtain ⟨q45, hq45, hf1⟩ := mx_bd hf1
    have hk45 : ∀ x9, q45 = x9 → GW E L A 7 0 0 Q σ 91 [(0, .ref (ly_a L o)), (1, .int p1), (2, .int p2), (3, .int x9), (4, .int s5.2)] [] := by
      intro x9 hx9
      subst hx9
      obtain ⟨x91, ex91, hf1⟩ := mx_lt hf1
      refine gw_iinc C 4 [(4, .int x91), (0, .ref (ly_a L o)), (1, .int p1), (2, .int p2), (3, .int q45)] d_Hat_bothOfTheBetter_91 rfl (by rw [ex91]; rfl) (by decide) rfl ?_
      refine gw_goto C 5 d_Hat_bothOfTheBetter_94 (by decide) ?_
      exact gw_go [1, 2, 3, 4, 0] (ih5 (q45, x91) (hb5.trans hf1.symm)) rfl
    refine gw_sub [2, 3, 4, 5, 6, 1, 0] (lv' := [(0, .ref (ly_a L o)), (1, .int p1), (2, .int p2), (3, .int s5.1), (4, .int s5.2), (5, .int q34), (6, .int x43)]) rfl ?_
    refine mm_rule hq45 (P := fun (s45 : Int32 × Int32) => GW E L A 7 0 0 Q σ 45 [(0, .ref (ly_a L o)), (1, .int p1), (2, .int p2), (3, .int s45.1), (4, .int s5.2), (5, .int q34), (6, .int s45.2)] []) ?_
    intro s45 ih45 hx45 ⟨w45, hb45⟩
    have hf2 := hb45
    unfold f_Hat_bothOfTheBetter_L45 at hf2
    refine gw_iload C 6 d_Hat_bothOfTheBetter_45 rfl ?_
    refine gw_aload_n C 0 d_Hat_bothOfTheBetter_47 rfl rfl ?_
    refine gw_getA C 7 d_Hat_bothOfTheBetter_48 k_o_0 (by decide) i_Hat rfl rfl (by decide) qw_410 rfl rfl (o + 60) rfl ?_
    refine gw_getAN C 0 d_Hat_bothOfTheBetter_51 k_o_60 (by decide) i_State rfl rfl (by decide) qw_237 rfl rfl (o + 61) rfl ?_
    refine gw_getAN C 0 d_Hat_bothOfTheBetter_54 k_o_61 (by decide) i_Island rfl rfl (by decide) qw_128 rfl rfl (o + 62) rfl ?_
    refine gw_getIN C 1 d_Hat_bothOfTheBetter_57 k_o_62 (by decide) i_Names rfl rfl (by decide) qw_115 rfl rfl ?_
    refine gw_icmp_ge C 91 d_Hat_bothOfTheBetter_60 (by decide) (fun hc => ?_) (fun hc => ?_)
    · replace hf2 := mx_t hc hf2
      exact gw_go [0, 1, 2, 3, 4] (hk45 s45.1 (hx45 _ (hb45.trans hf2.symm)).symm) rfl
    · replace hf2 := mx_f hc hf2
      refine gw_iload_n C 3 d_Hat_bothOfTheBetter_63 rfl rfl ?_
      refine gw_iload C 5 d_Hat_bothOfTheBetter_64 rfl ?_
      refine gw_aload_n C 0 d_Hat_bothOfTheBetter_66 rfl rfl ?_
      refine gw_getA C 7 d_Hat_bothOfTheBetter_67 k_o_0 (by decide) i_Hat rfl rfl (by decide) qw_410 rfl rfl (o + 60) rfl ?_
      refine gw_getAN C 0 d_Hat_bothOfTheBetter_70 k_o_60 (by decide) i_State rfl rfl (by decide) qw_237 rfl rfl (o + 61) rfl ?_
      refine gw_iload_n C 1 d_Hat_bothOfTheBetter_73 rfl rfl ?_
      refine gw_iload_n C 2 d_Hat_bothOfTheBetter_74 rfl rfl ?_
      refine gw_iload C 6 d_Hat_bothOfTheBetter_75 rfl ?_
      obtain ⟨q77, hq77, hf2⟩ := mx_bd hf2
      refine gw_callI C (c_Island_valueForBoth _ hg k_o_61 hq77) d_Hat_bothOfTheBetter_77 3 qw_1106 qw_1107 qw_1108 qw_6 qw_1109 k_o_61 (by decide) rfl hd_Island_valueForBoth rfl rfl (Nat.le_of_ble_eq_true rfl) ⟨rfl, rfl, Nat.le_of_ble_eq_true rfl, Nat.le_of_ble_eq_true rfl⟩ ⟨Nat.zero_le _, Nat.zero_le _⟩ ?_
      refine gw_mmax C d_Hat_bothOfTheBetter_80 qw_1115 qw_1116 qw_13 qw_1117 (Nat.le_of_ble_eq_true rfl) ⟨Nat.le_of_ble_eq_true rfl, Nat.le_of_ble_eq_true rfl⟩ ⟨Nat.zero_le _, Nat.zero_le _⟩ ?_
      refine gw_iadd C d_Hat_bothOfTheBetter_83 ?_
      obtain ⟨x84, ex84, hf2⟩ := mx_lt hf2
      refine gw_topi ex84 ?_
      refine gw_istore_n C [(3, .int x84), (0, .ref (ly_a L o)), (1, .int p1), (2, .int p2), (4, .int s5.2), (5, .int q34), (6, .int s45.2)] d_Hat_bothOfTheBetter_84 rfl (by decide) rfl ?_
      obtain ⟨x85, ex85, hf2⟩ := mx_lt hf2
      refine gw_iinc C 6 [(6, .int x85), (3, .int x84), (0, .ref (ly_a L o)), (1, .int p1), (2, .int p2), (4, .int s5.2), (5, .int q34)] d_Hat_bothOfTheBetter_85 rfl (by rw [ex85]; rfl) (by decide) rfl ?_
      refine gw_goto C 45 d_Hat_bothOfTheBetter_88 (by decide) ?_
      exact gw_go [2, 3, 4, 1, 5, 6, 0] (ih45 (x84, x85) (hb45.trans hf2.symm)) rfl

/-! NameHat.Hands.feudingWith(LNameHat.Island;I)I -/
abbrev b_Hands_feudingWith : ByteArray := prog_3_method_9_code
def y_Hands_feudingWith : MethodName := ⟨"NameHat$Hands", "feudingWith", "(LNameHat$Island;I)I"⟩
abbrev rm_Hands_feudingWith : Room := { frames := 2, cells := 0, slots := 0, locals := 43 }
theorem hd_Hands_feudingWith : y_Hands_feudingWith.cls ≠ "java/lang/invoke/MethodHandle" ∧ y_Hands_feudingWith.cls ≠ "java/lang/invoke/VarHandle" ∧ (parseMethodDescriptor y_Hands_feudingWith.desc).map (fun d => d.parameters.length) = some 2 := by decide +kernel
theorem d_Hands_feudingWith_0 : decode b_Hands_feudingWith 0 = .ok (.iconst 0, 1) := by decide +kernel
theorem d_Hands_feudingWith_1 : decode b_Hands_feudingWith 1 = .ok (.istore_n 3, 1) := by decide +kernel
theorem d_Hands_feudingWith_2 : decode b_Hands_feudingWith 2 = .ok (.iconst 0, 1) := by decide +kernel
theorem d_Hands_feudingWith_3 : decode b_Hands_feudingWith 3 = .ok (.istore 4, 2) := by decide +kernel
theorem d_Hands_feudingWith_5 : decode b_Hands_feudingWith 5 = .ok (.iload 4, 2) := by decide +kernel
theorem d_Hands_feudingWith_7 : decode b_Hands_feudingWith 7 = .ok (.aload_n 1, 1) := by decide +kernel
theorem d_Hands_feudingWith_8 : decode b_Hands_feudingWith 8 = .ok (.getfield 46, 3) := by decide +kernel
theorem d_Hands_feudingWith_11 : decode b_Hands_feudingWith 11 = .ok (.getfield 50, 3) := by decide +kernel
theorem d_Hands_feudingWith_14 : decode b_Hands_feudingWith 14 = .ok (.if_icmp .ge 40, 3) := by decide +kernel
theorem d_Hands_feudingWith_17 : decode b_Hands_feudingWith 17 = .ok (.aload_n 1, 1) := by decide +kernel
theorem d_Hands_feudingWith_18 : decode b_Hands_feudingWith 18 = .ok (.aload_n 0, 1) := by decide +kernel
theorem d_Hands_feudingWith_19 : decode b_Hands_feudingWith 19 = .ok (.getfield 14, 3) := by decide +kernel
theorem d_Hands_feudingWith_22 : decode b_Hands_feudingWith 22 = .ok (.iload_n 2, 1) := by decide +kernel
theorem d_Hands_feudingWith_23 : decode b_Hands_feudingWith 23 = .ok (.invokevirtual 36, 3) := by decide +kernel
theorem d_Hands_feudingWith_26 : decode b_Hands_feudingWith 26 = .ok (.aload_n 0, 1) := by decide +kernel
theorem d_Hands_feudingWith_27 : decode b_Hands_feudingWith 27 = .ok (.getfield 14, 3) := by decide +kernel
theorem d_Hands_feudingWith_30 : decode b_Hands_feudingWith 30 = .ok (.iload 4, 2) := by decide +kernel
theorem d_Hands_feudingWith_32 : decode b_Hands_feudingWith 32 = .ok (.invokevirtual 36, 3) := by decide +kernel
theorem d_Hands_feudingWith_35 : decode b_Hands_feudingWith 35 = .ok (.invokevirtual 60, 3) := by decide +kernel
theorem d_Hands_feudingWith_38 : decode b_Hands_feudingWith 38 = .ok (.ifCond .eq 10, 3) := by decide +kernel
theorem d_Hands_feudingWith_41 : decode b_Hands_feudingWith 41 = .ok (.iload_n 3, 1) := by decide +kernel
theorem d_Hands_feudingWith_42 : decode b_Hands_feudingWith 42 = .ok (.iconst 1, 1) := by decide +kernel
theorem d_Hands_feudingWith_43 : decode b_Hands_feudingWith 43 = .ok (.iload 4, 2) := by decide +kernel
theorem d_Hands_feudingWith_45 : decode b_Hands_feudingWith 45 = .ok (.ishl, 1) := by decide +kernel
theorem d_Hands_feudingWith_46 : decode b_Hands_feudingWith 46 = .ok (.ior, 1) := by decide +kernel
theorem d_Hands_feudingWith_47 : decode b_Hands_feudingWith 47 = .ok (.istore_n 3, 1) := by decide +kernel
theorem d_Hands_feudingWith_48 : decode b_Hands_feudingWith 48 = .ok (.iinc 4 1, 3) := by decide +kernel
theorem d_Hands_feudingWith_51 : decode b_Hands_feudingWith 51 = .ok (.goto (-46), 3) := by decide +kernel
theorem d_Hands_feudingWith_54 : decode b_Hands_feudingWith 54 = .ok (.iload_n 3, 1) := by decide +kernel
theorem d_Hands_feudingWith_55 : decode b_Hands_feudingWith 55 = .ok (.ireturn, 1) := by decide +kernel
noncomputable def f_Hands_feudingWith_L5 (z : Nat → Nat) (σ : Mm) (o : Nat) (o1 : Nat) (v2 : Int32) (s5 : Int32 × Int32) : Option ((Int32 × Int32) ⊕ (Int32)) :=
  if (σ.1 (o1 + 3) 1) ≤ s5.2 then (
    some (.inr s5.1)
  ) else (
    (f_Row_at z σ (o + 1) v2).bind fun q23 =>
    (f_Row_at z σ (o + 1) s5.2).bind fun q32 =>
    (f_Island_feud z σ o1 q23 q32).bind fun q35 =>
    if q35 = 0 then (
      mm_lt (s5.2 + (1 : Int32)) fun x48 =>
      some (.inl (s5.1, x48))
    ) else (
      mm_lt ((s5.1 ||| ((1 : Int32) <<< (s5.2 &&& 31)))) fun x47 =>
      mm_lt (s5.2 + (1 : Int32)) fun x48 =>
      some (.inl (x47, x48))
    )
  )
noncomputable def f_Hands_feudingWith (z : Nat → Nat) (σ : Mm) (o : Nat) (o1 : Nat) (p2 : Int32) : Option (Int32) :=
  (mm_lp (f_Hands_feudingWith_L5 z σ o o1 p2) ((0 : Int32), (0 : Int32))).bind (fun q5 =>
    some q5)
set_option maxHeartbeats 4000000 in
set_option maxRecDepth 100000 in
theorem c_Hands_feudingWith (l : Launch) {L : Ly} (hg : gd_ok L) {σ : Mm} {o : Nat} {o1 : Nat} {p2 : Int32} (k_o_0 : ly_k L o = 3) (k_o1_0 : ly_k L o1 = 2) {res : Int32} (hf0 : f_Hands_feudingWith (ly_z L) σ o o1 p2 = some res) : CtI l y_Hands_feudingWith b_Hands_feudingWith 5 (some .int) rm_Hands_feudingWith L [.ref (ly_a L o), .ref (ly_a L o1), .int p2] σ res σ := by
  refine ct_i hg (by decide) (Nat.le_of_ble_eq_true rfl) ?_
  intro E A Q hE C hN
  subst hE
  have k_o1_3 : ly_k L (o1 + 3) = 1 := gd_Island_houses hg k_o1_0
  have k_o_1 : ly_k L (o + 1) = 0 := gd_Hands_held hg k_o_0
  unfold f_Hands_feudingWith at hf0
  show GW E L A 5 0 0 Q σ 0 [(0, .ref (ly_a L o)), (1, .ref (ly_a L o1)), (2, .int p2)] []
  refine gw_iconst C (0 : Int32) d_Hands_feudingWith_0 (by decide) ?_
  refine gw_istore_n C [(3, .int (0 : Int32)), (0, .ref (ly_a L o)), (1, .ref (ly_a L o1)), (2, .int p2)] d_Hands_feudingWith_1 rfl (by decide) rfl ?_
  refine gw_iconst C (0 : Int32) d_Hands_feudingWith_2 (by decide) ?_
  refine gw_istore C [(4, .int (0 : Int32)), (3, .int (0 : Int32)), (0, .ref (ly_a L o)), (1, .ref (ly_a L o1)), (2, .int p2)] d_Hands_feudingWith_3 (by decide) rfl ?_
  obtain ⟨q5, hq5, hf0⟩ := mx_bd hf0
  have hk5 : ∀ x9, q5 = x9 → GW E L A 5 0 0 Q σ 54 [(3, .int x9)] [] := by
    intro x9 hx9
    subst hx9
    refine gw_iload_n C 0 d_Hands_feudingWith_54 rfl rfl ?_
    exact en_ip hN hf0 d_Hands_feudingWith_55
  refine gw_sub [2, 3, 4, 1, 0] (lv' := [(0, .ref (ly_a L o)), (1, .ref (ly_a L o1)), (2, .int p2), (3, .int (0 : Int32)), (4, .int (0 : Int32))]) rfl ?_
  refine mm_rule hq5 (P := fun (s5 : Int32 × Int32) => GW E L A 5 0 0 Q σ 5 [(0, .ref (ly_a L o)), (1, .ref (ly_a L o1)), (2, .int p2), (3, .int s5.1), (4, .int s5.2)] []) ?_
  intro s5 ih5 hx5 ⟨w5, hb5⟩
  have hf1 := hb5
  unfold f_Hands_feudingWith_L5 at hf1
  refine gw_iload C 4 d_Hands_feudingWith_5 rfl ?_
  refine gw_aload_n C 1 d_Hands_feudingWith_7 rfl rfl ?_
  refine gw_getAN C 1 d_Hands_feudingWith_8 k_o1_0 (by decide) i_Island rfl rfl (by decide) qw_134 rfl rfl (o1 + 3) rfl ?_
  refine gw_getIN C 1 d_Hands_feudingWith_11 k_o1_3 (by decide) i_Names rfl rfl (by decide) qw_113 rfl rfl ?_
  refine gw_icmp_ge C 54 d_Hands_feudingWith_14 (by decide) (fun hc => ?_) (fun hc => ?_)
  · replace hf1 := mx_t hc hf1
    exact gw_go [3] (hk5 s5.1 (hx5 _ (hb5.trans hf1.symm)).symm) rfl
  · replace hf1 := mx_f hc hf1
    refine gw_aload_n C 1 d_Hands_feudingWith_17 rfl rfl ?_
    refine gw_aload_n C 0 d_Hands_feudingWith_18 rfl rfl ?_
    refine gw_getA C 0 d_Hands_feudingWith_19 k_o_0 (by decide) i_Hands rfl rfl (by decide) qw_186 rfl rfl (o + 1) rfl ?_
    refine gw_iload_n C 2 d_Hands_feudingWith_22 rfl rfl ?_
    obtain ⟨q23, hq23, hf1⟩ := mx_bd hf1
    refine gw_callI C (c_Row_at _ hg k_o_1 hq23) d_Hands_feudingWith_23 1 qw_609 qw_489 qw_490 qw_4 qw_491 k_o_1 (by decide) rfl hd_Row_at rfl rfl (Nat.le_of_ble_eq_true rfl) ⟨rfl, rfl, Nat.le_of_ble_eq_true rfl, Nat.le_of_ble_eq_true rfl⟩ ⟨Nat.zero_le _, Nat.zero_le _⟩ ?_
    refine gw_aload_n C 0 d_Hands_feudingWith_26 rfl rfl ?_
    refine gw_getA C 0 d_Hands_feudingWith_27 k_o_0 (by decide) i_Hands rfl rfl (by decide) qw_186 rfl rfl (o + 1) rfl ?_
    refine gw_iload C 4 d_Hands_feudingWith_30 rfl ?_
    obtain ⟨q32, hq32, hf1⟩ := mx_bd hf1
    refine gw_callI C (c_Row_at _ hg k_o_1 hq32) d_Hands_feudingWith_32 1 qw_609 qw_489 qw_490 qw_4 qw_491 k_o_1 (by decide) rfl hd_Row_at rfl rfl (Nat.le_of_ble_eq_true rfl) ⟨rfl, rfl, Nat.le_of_ble_eq_true rfl, Nat.le_of_ble_eq_true rfl⟩ ⟨Nat.zero_le _, Nat.zero_le _⟩ ?_
    obtain ⟨q35, hq35, hf1⟩ := mx_bd hf1
    refine gw_callI C (c_Island_feud _ hg k_o1_0 hq35) d_Hands_feudingWith_35 2 qw_891 qw_629 qw_630 qw_6 qw_631 k_o1_0 (by decide) rfl hd_Island_feud rfl rfl (Nat.le_of_ble_eq_true rfl) ⟨rfl, rfl, Nat.le_of_ble_eq_true rfl, Nat.le_of_ble_eq_true rfl⟩ ⟨Nat.zero_le _, Nat.zero_le _⟩ ?_
    refine gw_if_eq C 48 d_Hands_feudingWith_38 (by decide) (fun hc => ?_) (fun hc => ?_)
    · replace hf1 := mx_t hc hf1
      obtain ⟨x48, ex48, hf1⟩ := mx_lt hf1
      refine gw_iinc C 4 [(4, .int x48), (0, .ref (ly_a L o)), (1, .ref (ly_a L o1)), (2, .int p2), (3, .int s5.1)] d_Hands_feudingWith_48 rfl (by rw [ex48]; rfl) (by decide) rfl ?_
      refine gw_goto C 5 d_Hands_feudingWith_51 (by decide) ?_
      exact gw_go [1, 2, 3, 4, 0] (ih5 (s5.1, x48) (hb5.trans hf1.symm)) rfl
    · replace hf1 := mx_f hc hf1
      refine gw_iload_n C 3 d_Hands_feudingWith_41 rfl rfl ?_
      refine gw_iconst C (1 : Int32) d_Hands_feudingWith_42 (by decide) ?_
      refine gw_iload C 4 d_Hands_feudingWith_43 rfl ?_
      refine gw_ishl C d_Hands_feudingWith_45 ?_
      refine gw_ior C d_Hands_feudingWith_46 ?_
      obtain ⟨x47, ex47, hf1⟩ := mx_lt hf1
      refine gw_topi ex47 ?_
      refine gw_istore_n C [(3, .int x47), (0, .ref (ly_a L o)), (1, .ref (ly_a L o1)), (2, .int p2), (4, .int s5.2)] d_Hands_feudingWith_47 rfl (by decide) rfl ?_
      obtain ⟨x48, ex48, hf1⟩ := mx_lt hf1
      refine gw_iinc C 4 [(4, .int x48), (3, .int x47), (0, .ref (ly_a L o)), (1, .ref (ly_a L o1)), (2, .int p2)] d_Hands_feudingWith_48 rfl (by rw [ex48]; rfl) (by decide) rfl ?_
      refine gw_goto C 5 d_Hands_feudingWith_51 (by decide) ?_
      exact gw_go [2, 3, 4, 1, 0] (ih5 (x47, x48) (hb5.trans hf1.symm)) rfl

/-! NameHat.broken()I -/
abbrev b_Hat_broken : ByteArray := prog_1_method_30_code
def y_Hat_broken : MethodName := ⟨"NameHat", "broken", "()I"⟩
abbrev rm_Hat_broken : Room := { frames := 3, cells := 0, slots := 0, locals := 67 }
theorem hd_Hat_broken : y_Hat_broken.cls ≠ "java/lang/invoke/MethodHandle" ∧ y_Hat_broken.cls ≠ "java/lang/invoke/VarHandle" ∧ (parseMethodDescriptor y_Hat_broken.desc).map (fun d => d.parameters.length) = some 0 := by decide +kernel
theorem d_Hat_broken_0 : decode b_Hat_broken 0 = .ok (.iconst 0, 1) := by decide +kernel
theorem d_Hat_broken_1 : decode b_Hat_broken 1 = .ok (.istore_n 1, 1) := by decide +kernel
theorem d_Hat_broken_2 : decode b_Hat_broken 2 = .ok (.iconst 0, 1) := by decide +kernel
theorem d_Hat_broken_3 : decode b_Hat_broken 3 = .ok (.istore_n 2, 1) := by decide +kernel
theorem d_Hat_broken_4 : decode b_Hat_broken 4 = .ok (.iload_n 2, 1) := by decide +kernel
theorem d_Hat_broken_5 : decode b_Hat_broken 5 = .ok (.aload_n 0, 1) := by decide +kernel
theorem d_Hat_broken_6 : decode b_Hat_broken 6 = .ok (.getfield 57, 3) := by decide +kernel
theorem d_Hat_broken_9 : decode b_Hat_broken 9 = .ok (.getfield 121, 3) := by decide +kernel
theorem d_Hat_broken_12 : decode b_Hat_broken 12 = .ok (.getfield 166, 3) := by decide +kernel
theorem d_Hat_broken_15 : decode b_Hat_broken 15 = .ok (.getfield 186, 3) := by decide +kernel
theorem d_Hat_broken_18 : decode b_Hat_broken 18 = .ok (.if_icmp .ge 102, 3) := by decide +kernel
theorem d_Hat_broken_21 : decode b_Hat_broken 21 = .ok (.aload_n 0, 1) := by decide +kernel
theorem d_Hat_broken_22 : decode b_Hat_broken 22 = .ok (.getfield 57, 3) := by decide +kernel
theorem d_Hat_broken_25 : decode b_Hat_broken 25 = .ok (.getfield 154, 3) := by decide +kernel
theorem d_Hat_broken_28 : decode b_Hat_broken 28 = .ok (.aload_n 0, 1) := by decide +kernel
theorem d_Hat_broken_29 : decode b_Hat_broken 29 = .ok (.getfield 57, 3) := by decide +kernel
theorem d_Hat_broken_32 : decode b_Hat_broken 32 = .ok (.getfield 121, 3) := by decide +kernel
theorem d_Hat_broken_35 : decode b_Hat_broken 35 = .ok (.iload_n 2, 1) := by decide +kernel
theorem d_Hat_broken_36 : decode b_Hat_broken 36 = .ok (.invokevirtual 278, 3) := by decide +kernel
theorem d_Hat_broken_39 : decode b_Hat_broken 39 = .ok (.istore_n 3, 1) := by decide +kernel
theorem d_Hat_broken_40 : decode b_Hat_broken 40 = .ok (.iload_n 2, 1) := by decide +kernel
theorem d_Hat_broken_41 : decode b_Hat_broken 41 = .ok (.iconst 1, 1) := by decide +kernel
theorem d_Hat_broken_42 : decode b_Hat_broken 42 = .ok (.iadd, 1) := by decide +kernel
theorem d_Hat_broken_43 : decode b_Hat_broken 43 = .ok (.istore 4, 2) := by decide +kernel
theorem d_Hat_broken_45 : decode b_Hat_broken 45 = .ok (.iload 4, 2) := by decide +kernel
theorem d_Hat_broken_47 : decode b_Hat_broken 47 = .ok (.aload_n 0, 1) := by decide +kernel
theorem d_Hat_broken_48 : decode b_Hat_broken 48 = .ok (.getfield 57, 3) := by decide +kernel
theorem d_Hat_broken_51 : decode b_Hat_broken 51 = .ok (.getfield 121, 3) := by decide +kernel
theorem d_Hat_broken_54 : decode b_Hat_broken 54 = .ok (.getfield 166, 3) := by decide +kernel
theorem d_Hat_broken_57 : decode b_Hat_broken 57 = .ok (.getfield 186, 3) := by decide +kernel
theorem d_Hat_broken_60 : decode b_Hat_broken 60 = .ok (.if_icmp .ge 54, 3) := by decide +kernel
theorem d_Hat_broken_63 : decode b_Hat_broken 63 = .ok (.iload_n 3, 1) := by decide +kernel
theorem d_Hat_broken_64 : decode b_Hat_broken 64 = .ok (.iload 4, 2) := by decide +kernel
theorem d_Hat_broken_66 : decode b_Hat_broken 66 = .ok (.ishr, 1) := by decide +kernel
theorem d_Hat_broken_67 : decode b_Hat_broken 67 = .ok (.iconst 1, 1) := by decide +kernel
theorem d_Hat_broken_68 : decode b_Hat_broken 68 = .ok (.iand, 1) := by decide +kernel
theorem d_Hat_broken_69 : decode b_Hat_broken 69 = .ok (.iconst 1, 1) := by decide +kernel
theorem d_Hat_broken_70 : decode b_Hat_broken 70 = .ok (.if_icmp .ne 38, 3) := by decide +kernel
theorem d_Hat_broken_73 : decode b_Hat_broken 73 = .ok (.aload_n 0, 1) := by decide +kernel
theorem d_Hat_broken_74 : decode b_Hat_broken 74 = .ok (.getfield 57, 3) := by decide +kernel
theorem d_Hat_broken_77 : decode b_Hat_broken 77 = .ok (.getfield 154, 3) := by decide +kernel
theorem d_Hat_broken_80 : decode b_Hat_broken 80 = .ok (.getfield 174, 3) := by decide +kernel
theorem d_Hat_broken_83 : decode b_Hat_broken 83 = .ok (.iload_n 2, 1) := by decide +kernel
theorem d_Hat_broken_84 : decode b_Hat_broken 84 = .ok (.invokevirtual 147, 3) := by decide +kernel
theorem d_Hat_broken_87 : decode b_Hat_broken 87 = .ok (.aload_n 0, 1) := by decide +kernel
theorem d_Hat_broken_88 : decode b_Hat_broken 88 = .ok (.getfield 57, 3) := by decide +kernel
theorem d_Hat_broken_91 : decode b_Hat_broken 91 = .ok (.getfield 154, 3) := by decide +kernel
theorem d_Hat_broken_94 : decode b_Hat_broken 94 = .ok (.getfield 174, 3) := by decide +kernel
theorem d_Hat_broken_97 : decode b_Hat_broken 97 = .ok (.iload 4, 2) := by decide +kernel
theorem d_Hat_broken_99 : decode b_Hat_broken 99 = .ok (.invokevirtual 147, 3) := by decide +kernel
theorem d_Hat_broken_102 : decode b_Hat_broken 102 = .ok (.if_icmp .ne 6, 3) := by decide +kernel
theorem d_Hat_broken_105 : decode b_Hat_broken 105 = .ok (.iinc 1 1, 3) := by decide +kernel
theorem d_Hat_broken_108 : decode b_Hat_broken 108 = .ok (.iinc 4 1, 3) := by decide +kernel
theorem d_Hat_broken_111 : decode b_Hat_broken 111 = .ok (.goto (-66), 3) := by decide +kernel
theorem d_Hat_broken_114 : decode b_Hat_broken 114 = .ok (.iinc 2 1, 3) := by decide +kernel
theorem d_Hat_broken_117 : decode b_Hat_broken 117 = .ok (.goto (-113), 3) := by decide +kernel
theorem d_Hat_broken_120 : decode b_Hat_broken 120 = .ok (.iload_n 1, 1) := by decide +kernel
theorem d_Hat_broken_121 : decode b_Hat_broken 121 = .ok (.ireturn, 1) := by decide +kernel
noncomputable def f_Hat_broken_L45 (z : Nat → Nat) (σ : Mm) (o : Nat) (v2 : Int32) (v3 : Int32) (s45 : Int32 × Int32) : Option ((Int32 × Int32) ⊕ (Int32)) :=
  if (σ.1 (o + 64) 1) ≤ s45.2 then (
    some (.inr s45.1)
  ) else (
    if ((v3 >>> (s45.2 &&& 31)) &&& (1 : Int32)) = (1 : Int32) then (
      (f_Row_at z σ (o + 77) v2).bind fun q84 =>
      (f_Row_at z σ (o + 77) s45.2).bind fun q99 =>
      if q84 = q99 then (
        mm_lt (s45.1 + (1 : Int32)) fun x105 =>
        mm_lt (s45.2 + (1 : Int32)) fun x108 =>
        some (.inl (x105, x108))
      ) else (
        mm_lt (s45.2 + (1 : Int32)) fun x108 =>
        some (.inl (s45.1, x108))
      )
    ) else (
      mm_lt (s45.2 + (1 : Int32)) fun x108 =>
      some (.inl (s45.1, x108))
    )
  )
noncomputable def f_Hat_broken_L4 (z : Nat → Nat) (σ : Mm) (o : Nat) (s4 : Int32 × Int32) : Option ((Int32 × Int32) ⊕ (Int32)) :=
  if (σ.1 (o + 64) 1) ≤ s4.2 then (
    some (.inr s4.1)
  ) else (
    (f_Hands_feudingWith z σ (o + 74) (o + 61) s4.2).bind fun q36 =>
    mm_lt ((s4.2 + (1 : Int32))) fun x43 =>
    (mm_lp (f_Hat_broken_L45 z σ o s4.2 q36) (s4.1, x43)).bind (fun q45 =>
      mm_lt (s4.2 + (1 : Int32)) fun x114 =>
      some (.inl (q45, x114)))
  )
noncomputable def f_Hat_broken (z : Nat → Nat) (σ : Mm) (o : Nat) : Option (Int32) :=
  (mm_lp (f_Hat_broken_L4 z σ o) ((0 : Int32), (0 : Int32))).bind (fun q4 =>
    some q4)
set_option maxHeartbeats 4000000 in
set_option maxRecDepth 100000 in
theorem c_Hat_broken (l : Launch) {L : Ly} (hg : gd_ok L) {σ : Mm} {o : Nat} (k_o_0 : ly_k L o = 10) {res : Int32} (hf0 : f_Hat_broken (ly_z L) σ o = some res) : CtI l y_Hat_broken b_Hat_broken 5 (some .int) rm_Hat_broken L [.ref (ly_a L o)] σ res σ := by
  refine ct_i hg (by decide) (Nat.le_of_ble_eq_true rfl) ?_
  intro E A Q hE C hN
  subst hE
  have k_o_60 : ly_k L (o + 60) = 4 := gd_Hat_now hg k_o_0
  have k_o_61 : ly_k L (o + 61) = 2 := gd_State_island hg k_o_60
  have k_o_64 : ly_k L (o + 64) = 1 := gd_Island_houses hg k_o_61
  have k_o_74 : ly_k L (o + 74) = 3 := gd_State_hands hg k_o_60
  have k_o_77 : ly_k L (o + 77) = 0 := gd_Hands_sits hg k_o_74
  unfold f_Hat_broken at hf0
  show GW E L A 5 0 0 Q σ 0 [(0, .ref (ly_a L o))] []
  refine gw_iconst C (0 : Int32) d_Hat_broken_0 (by decide) ?_
  refine gw_istore_n C [(1, .int (0 : Int32)), (0, .ref (ly_a L o))] d_Hat_broken_1 rfl (by decide) rfl ?_
  refine gw_iconst C (0 : Int32) d_Hat_broken_2 (by decide) ?_
  refine gw_istore_n C [(2, .int (0 : Int32)), (1, .int (0 : Int32)), (0, .ref (ly_a L o))] d_Hat_broken_3 rfl (by decide) rfl ?_
  obtain ⟨q4, hq4, hf0⟩ := mx_bd hf0
  have hk4 : ∀ x9, q4 = x9 → GW E L A 5 0 0 Q σ 120 [(1, .int x9)] [] := by
    intro x9 hx9
    subst hx9
    refine gw_iload_n C 0 d_Hat_broken_120 rfl rfl ?_
    exact en_ip hN hf0 d_Hat_broken_121
  refine gw_sub [2, 1, 0] (lv' := [(0, .ref (ly_a L o)), (1, .int (0 : Int32)), (2, .int (0 : Int32))]) rfl ?_
  refine mm_rule hq4 (P := fun (s4 : Int32 × Int32) => GW E L A 5 0 0 Q σ 4 [(0, .ref (ly_a L o)), (1, .int s4.1), (2, .int s4.2)] []) ?_
  intro s4 ih4 hx4 ⟨w4, hb4⟩
  have hf1 := hb4
  unfold f_Hat_broken_L4 at hf1
  refine gw_iload_n C 2 d_Hat_broken_4 rfl rfl ?_
  refine gw_aload_n C 0 d_Hat_broken_5 rfl rfl ?_
  refine gw_getA C 7 d_Hat_broken_6 k_o_0 (by decide) i_Hat rfl rfl (by decide) qw_410 rfl rfl (o + 60) rfl ?_
  refine gw_getAN C 0 d_Hat_broken_9 k_o_60 (by decide) i_State rfl rfl (by decide) qw_237 rfl rfl (o + 61) rfl ?_
  refine gw_getAN C 1 d_Hat_broken_12 k_o_61 (by decide) i_Island rfl rfl (by decide) qw_136 rfl rfl (o + 64) rfl ?_
  refine gw_getIN C 1 d_Hat_broken_15 k_o_64 (by decide) i_Names rfl rfl (by decide) qw_115 rfl rfl ?_
  refine gw_icmp_ge C 120 d_Hat_broken_18 (by decide) (fun hc => ?_) (fun hc => ?_)
  · replace hf1 := mx_t hc hf1
    exact gw_go [1] (hk4 s4.1 (hx4 _ (hb4.trans hf1.symm)).symm) rfl
  · replace hf1 := mx_f hc hf1
    refine gw_aload_n C 0 d_Hat_broken_21 rfl rfl ?_
    refine gw_getA C 7 d_Hat_broken_22 k_o_0 (by decide) i_Hat rfl rfl (by decide) qw_410 rfl rfl (o + 60) rfl ?_
    refine gw_getAN C 1 d_Hat_broken_25 k_o_60 (by decide) i_State rfl rfl (by decide) qw_239 rfl rfl (o + 74) rfl ?_
    refine gw_aload_n C 0 d_Hat_broken_28 rfl rfl ?_
    refine gw_getA C 7 d_Hat_broken_29 k_o_0 (by decide) i_Hat rfl rfl (by decide) qw_410 rfl rfl (o + 60) rfl ?_
    refine gw_getAN C 0 d_Hat_broken_32 k_o_60 (by decide) i_State rfl rfl (by decide) qw_237 rfl rfl (o + 61) rfl ?_
    refine gw_iload_n C 2 d_Hat_broken_35 rfl rfl ?_
    obtain ⟨q36, hq36, hf1⟩ := mx_bd hf1
    refine gw_callI C (c_Hands_feudingWith _ hg k_o_74 k_o_61 hq36) d_Hat_broken_36 2 qw_887 qw_888 qw_889 qw_8 qw_890 k_o_74 (by decide) rfl hd_Hands_feudingWith rfl rfl (Nat.le_of_ble_eq_true rfl) ⟨rfl, rfl, Nat.le_of_ble_eq_true rfl, Nat.le_of_ble_eq_true rfl⟩ ⟨Nat.zero_le _, Nat.zero_le _⟩ ?_
    refine gw_istore_n C [(3, .int q36), (0, .ref (ly_a L o)), (1, .int s4.1), (2, .int s4.2)] d_Hat_broken_39 rfl (by decide) rfl ?_
    refine gw_iload_n C 3 d_Hat_broken_40 rfl rfl ?_
    refine gw_iconst C (1 : Int32) d_Hat_broken_41 (by decide) ?_
    refine gw_iadd C d_Hat_broken_42 ?_
    obtain ⟨x43, ex43, hf1⟩ := mx_lt hf1
    refine gw_topi ex43 ?_
    refine gw_istore C [(4, .int x43), (3, .int q36), (0, .ref (ly_a L o)), (1, .int s4.1), (2, .int s4.2)] d_Hat_broken_43 (by decide) rfl ?_
    obtain ⟨q45, hq45, hf1⟩ := mx_bd hf1
    have hk45 : ∀ x9, q45 = x9 → GW E L A 5 0 0 Q σ 114 [(0, .ref (ly_a L o)), (1, .int x9), (2, .int s4.2)] [] := by
      intro x9 hx9
      subst hx9
      obtain ⟨x114, ex114, hf1⟩ := mx_lt hf1
      refine gw_iinc C 2 [(2, .int x114), (0, .ref (ly_a L o)), (1, .int q45)] d_Hat_broken_114 rfl (by rw [ex114]; rfl) (by decide) rfl ?_
      refine gw_goto C 4 d_Hat_broken_117 (by decide) ?_
      exact gw_go [1, 2, 0] (ih4 (q45, x114) (hb4.trans hf1.symm)) rfl
    refine gw_sub [2, 3, 4, 1, 0] (lv' := [(0, .ref (ly_a L o)), (1, .int s4.1), (2, .int s4.2), (3, .int q36), (4, .int x43)]) rfl ?_
    refine mm_rule hq45 (P := fun (s45 : Int32 × Int32) => GW E L A 5 0 0 Q σ 45 [(0, .ref (ly_a L o)), (1, .int s45.1), (2, .int s4.2), (3, .int q36), (4, .int s45.2)] []) ?_
    intro s45 ih45 hx45 ⟨w45, hb45⟩
    have hf2 := hb45
    unfold f_Hat_broken_L45 at hf2
    refine gw_iload C 4 d_Hat_broken_45 rfl ?_
    refine gw_aload_n C 0 d_Hat_broken_47 rfl rfl ?_
    refine gw_getA C 7 d_Hat_broken_48 k_o_0 (by decide) i_Hat rfl rfl (by decide) qw_410 rfl rfl (o + 60) rfl ?_
    refine gw_getAN C 0 d_Hat_broken_51 k_o_60 (by decide) i_State rfl rfl (by decide) qw_237 rfl rfl (o + 61) rfl ?_
    refine gw_getAN C 1 d_Hat_broken_54 k_o_61 (by decide) i_Island rfl rfl (by decide) qw_136 rfl rfl (o + 64) rfl ?_
    refine gw_getIN C 1 d_Hat_broken_57 k_o_64 (by decide) i_Names rfl rfl (by decide) qw_115 rfl rfl ?_
    refine gw_icmp_ge C 114 d_Hat_broken_60 (by decide) (fun hc => ?_) (fun hc => ?_)
    · replace hf2 := mx_t hc hf2
      exact gw_go [0, 1, 2] (hk45 s45.1 (hx45 _ (hb45.trans hf2.symm)).symm) rfl
    · replace hf2 := mx_f hc hf2
      refine gw_iload_n C 3 d_Hat_broken_63 rfl rfl ?_
      refine gw_iload C 4 d_Hat_broken_64 rfl ?_
      refine gw_ishr C d_Hat_broken_66 ?_
      refine gw_iconst C (1 : Int32) d_Hat_broken_67 (by decide) ?_
      refine gw_iand C d_Hat_broken_68 ?_
      refine gw_iconst C (1 : Int32) d_Hat_broken_69 (by decide) ?_
      refine gw_icmp_ne C 108 d_Hat_broken_70 (by decide) (fun hc => ?_) (fun hc => ?_)
      · replace hf2 := mx_f hc hf2
        obtain ⟨x108, ex108, hf2⟩ := mx_lt hf2
        refine gw_iinc C 4 [(4, .int x108), (0, .ref (ly_a L o)), (1, .int s45.1), (2, .int s4.2), (3, .int q36)] d_Hat_broken_108 rfl (by rw [ex108]; rfl) (by decide) rfl ?_
        refine gw_goto C 45 d_Hat_broken_111 (by decide) ?_
        exact gw_go [1, 2, 3, 4, 0] (ih45 (s45.1, x108) (hb45.trans hf2.symm)) rfl
      · replace hf2 := mx_t hc hf2
        refine gw_aload_n C 0 d_Hat_broken_73 rfl rfl ?_
        refine gw_getA C 7 d_Hat_broken_74 k_o_0 (by decide) i_Hat rfl rfl (by decide) qw_410 rfl rfl (o + 60) rfl ?_
        refine gw_getAN C 1 d_Hat_broken_77 k_o_60 (by decide) i_State rfl rfl (by decide) qw_239 rfl rfl (o + 74) rfl ?_
        refine gw_getAN C 1 d_Hat_broken_80 k_o_74 (by decide) i_Hands rfl rfl (by decide) qw_193 rfl rfl (o + 77) rfl ?_
        refine gw_iload_n C 2 d_Hat_broken_83 rfl rfl ?_
        obtain ⟨q84, hq84, hf2⟩ := mx_bd hf2
        refine gw_callI C (c_Row_at _ hg k_o_77 hq84) d_Hat_broken_84 1 qw_755 qw_489 qw_490 qw_4 qw_491 k_o_77 (by decide) rfl hd_Row_at rfl rfl (Nat.le_of_ble_eq_true rfl) ⟨rfl, rfl, Nat.le_of_ble_eq_true rfl, Nat.le_of_ble_eq_true rfl⟩ ⟨Nat.zero_le _, Nat.zero_le _⟩ ?_
        refine gw_aload_n C 0 d_Hat_broken_87 rfl rfl ?_
        refine gw_getA C 7 d_Hat_broken_88 k_o_0 (by decide) i_Hat rfl rfl (by decide) qw_410 rfl rfl (o + 60) rfl ?_
        refine gw_getAN C 1 d_Hat_broken_91 k_o_60 (by decide) i_State rfl rfl (by decide) qw_239 rfl rfl (o + 74) rfl ?_
        refine gw_getAN C 1 d_Hat_broken_94 k_o_74 (by decide) i_Hands rfl rfl (by decide) qw_193 rfl rfl (o + 77) rfl ?_
        refine gw_iload C 4 d_Hat_broken_97 rfl ?_
        obtain ⟨q99, hq99, hf2⟩ := mx_bd hf2
        refine gw_callI C (c_Row_at _ hg k_o_77 hq99) d_Hat_broken_99 1 qw_755 qw_489 qw_490 qw_4 qw_491 k_o_77 (by decide) rfl hd_Row_at rfl rfl (Nat.le_of_ble_eq_true rfl) ⟨rfl, rfl, Nat.le_of_ble_eq_true rfl, Nat.le_of_ble_eq_true rfl⟩ ⟨Nat.zero_le _, Nat.zero_le _⟩ ?_
        refine gw_icmp_ne C 108 d_Hat_broken_102 (by decide) (fun hc => ?_) (fun hc => ?_)
        · replace hf2 := mx_f hc hf2
          obtain ⟨x108, ex108, hf2⟩ := mx_lt hf2
          refine gw_iinc C 4 [(4, .int x108), (0, .ref (ly_a L o)), (1, .int s45.1), (2, .int s4.2), (3, .int q36)] d_Hat_broken_108 rfl (by rw [ex108]; rfl) (by decide) rfl ?_
          refine gw_goto C 45 d_Hat_broken_111 (by decide) ?_
          exact gw_go [1, 2, 3, 4, 0] (ih45 (s45.1, x108) (hb45.trans hf2.symm)) rfl
        · replace hf2 := mx_t hc hf2
          obtain ⟨x105, ex105, hf2⟩ := mx_lt hf2
          refine gw_iinc C 1 [(1, .int x105), (0, .ref (ly_a L o)), (2, .int s4.2), (3, .int q36), (4, .int s45.2)] d_Hat_broken_105 rfl (by rw [ex105]; rfl) (by decide) rfl ?_
          obtain ⟨x108, ex108, hf2⟩ := mx_lt hf2
          refine gw_iinc C 4 [(4, .int x108), (1, .int x105), (0, .ref (ly_a L o)), (2, .int s4.2), (3, .int q36)] d_Hat_broken_108 rfl (by rw [ex108]; rfl) (by decide) rfl ?_
          refine gw_goto C 45 d_Hat_broken_111 (by decide) ?_
          exact gw_go [2, 1, 3, 4, 0] (ih45 (x105, x108) (hb45.trans hf2.symm)) rfl

/-! NameHat.Seating.seatFrom(LNameHat.Seating;II)Z -/
abbrev b_Seating_seatFrom : ByteArray := prog_9_method_3_code
def y_Seating_seatFrom : MethodName := ⟨"NameHat$Seating", "seatFrom", "(LNameHat$Seating;II)Z"⟩
abbrev rm_Seating_seatFrom (d : Nat) : Room := { frames := d + 1, cells := 0, slots := 0, locals := 60 * (d + 1) }
theorem hd_Seating_seatFrom : y_Seating_seatFrom.cls ≠ "java/lang/invoke/MethodHandle" ∧ y_Seating_seatFrom.cls ≠ "java/lang/invoke/VarHandle" ∧ (parseMethodDescriptor y_Seating_seatFrom.desc).map (fun d => d.parameters.length) = some 3 := by decide +kernel
theorem d_Seating_seatFrom_0 : decode b_Seating_seatFrom 0 = .ok (.iload_n 1, 1) := by decide +kernel
theorem d_Seating_seatFrom_1 : decode b_Seating_seatFrom 1 = .ok (.aload_n 0, 1) := by decide +kernel
theorem d_Seating_seatFrom_2 : decode b_Seating_seatFrom 2 = .ok (.getfield 47, 3) := by decide +kernel
theorem d_Seating_seatFrom_5 : decode b_Seating_seatFrom 5 = .ok (.if_icmp .ge 9, 3) := by decide +kernel
theorem d_Seating_seatFrom_8 : decode b_Seating_seatFrom 8 = .ok (.iload_n 1, 1) := by decide +kernel
theorem d_Seating_seatFrom_9 : decode b_Seating_seatFrom 9 = .ok (.bipush 8, 2) := by decide +kernel
theorem d_Seating_seatFrom_11 : decode b_Seating_seatFrom 11 = .ok (.if_icmp .lt 5, 3) := by decide +kernel
theorem d_Seating_seatFrom_14 : decode b_Seating_seatFrom 14 = .ok (.iconst 1, 1) := by decide +kernel
theorem d_Seating_seatFrom_15 : decode b_Seating_seatFrom 15 = .ok (.ireturn, 1) := by decide +kernel
theorem d_Seating_seatFrom_16 : decode b_Seating_seatFrom 16 = .ok (.iconst 0, 1) := by decide +kernel
theorem d_Seating_seatFrom_17 : decode b_Seating_seatFrom 17 = .ok (.istore_n 3, 1) := by decide +kernel
theorem d_Seating_seatFrom_18 : decode b_Seating_seatFrom 18 = .ok (.iload_n 3, 1) := by decide +kernel
theorem d_Seating_seatFrom_19 : decode b_Seating_seatFrom 19 = .ok (.aload_n 0, 1) := by decide +kernel
theorem d_Seating_seatFrom_20 : decode b_Seating_seatFrom 20 = .ok (.getfield 52, 3) := by decide +kernel
theorem d_Seating_seatFrom_23 : decode b_Seating_seatFrom 23 = .ok (.if_icmp .ge 125, 3) := by decide +kernel
theorem d_Seating_seatFrom_26 : decode b_Seating_seatFrom 26 = .ok (.aload_n 0, 1) := by decide +kernel
theorem d_Seating_seatFrom_27 : decode b_Seating_seatFrom 27 = .ok (.getfield 30, 3) := by decide +kernel
theorem d_Seating_seatFrom_30 : decode b_Seating_seatFrom 30 = .ok (.iload_n 3, 1) := by decide +kernel
theorem d_Seating_seatFrom_31 : decode b_Seating_seatFrom 31 = .ok (.invokevirtual 81, 3) := by decide +kernel
theorem d_Seating_seatFrom_34 : decode b_Seating_seatFrom 34 = .ok (.istore 4, 2) := by decide +kernel
theorem d_Seating_seatFrom_36 : decode b_Seating_seatFrom 36 = .ok (.aload_n 0, 1) := by decide +kernel
theorem d_Seating_seatFrom_37 : decode b_Seating_seatFrom 37 = .ok (.getfield 33, 3) := by decide +kernel
theorem d_Seating_seatFrom_40 : decode b_Seating_seatFrom 40 = .ok (.iload_n 1, 1) := by decide +kernel
theorem d_Seating_seatFrom_41 : decode b_Seating_seatFrom 41 = .ok (.invokevirtual 81, 3) := by decide +kernel
theorem d_Seating_seatFrom_44 : decode b_Seating_seatFrom 44 = .ok (.iload_n 3, 1) := by decide +kernel
theorem d_Seating_seatFrom_45 : decode b_Seating_seatFrom 45 = .ok (.if_icmp .ne 7, 3) := by decide +kernel
theorem d_Seating_seatFrom_48 : decode b_Seating_seatFrom 48 = .ok (.iload_n 2, 1) := by decide +kernel
theorem d_Seating_seatFrom_49 : decode b_Seating_seatFrom 49 = .ok (.goto 6, 3) := by decide +kernel
theorem d_Seating_seatFrom_52 : decode b_Seating_seatFrom 52 = .ok (.iload_n 2, 1) := by decide +kernel
theorem d_Seating_seatFrom_53 : decode b_Seating_seatFrom 53 = .ok (.iconst 1, 1) := by decide +kernel
theorem d_Seating_seatFrom_54 : decode b_Seating_seatFrom 54 = .ok (.isub, 1) := by decide +kernel
theorem d_Seating_seatFrom_55 : decode b_Seating_seatFrom 55 = .ok (.istore 5, 2) := by decide +kernel
theorem d_Seating_seatFrom_57 : decode b_Seating_seatFrom 57 = .ok (.iload 5, 2) := by decide +kernel
theorem d_Seating_seatFrom_59 : decode b_Seating_seatFrom 59 = .ok (.ifCond .lt 83, 3) := by decide +kernel
theorem d_Seating_seatFrom_62 : decode b_Seating_seatFrom 62 = .ok (.iload 4, 2) := by decide +kernel
theorem d_Seating_seatFrom_64 : decode b_Seating_seatFrom 64 = .ok (.invokestatic 85, 3) := by decide +kernel
theorem d_Seating_seatFrom_67 : decode b_Seating_seatFrom 67 = .ok (.aload_n 0, 1) := by decide +kernel
theorem d_Seating_seatFrom_68 : decode b_Seating_seatFrom 68 = .ok (.getfield 56, 3) := by decide +kernel
theorem d_Seating_seatFrom_71 : decode b_Seating_seatFrom 71 = .ok (.if_icmp .ge 71, 3) := by decide +kernel
theorem d_Seating_seatFrom_74 : decode b_Seating_seatFrom 74 = .ok (.iload 4, 2) := by decide +kernel
theorem d_Seating_seatFrom_76 : decode b_Seating_seatFrom 76 = .ok (.aload_n 0, 1) := by decide +kernel
theorem d_Seating_seatFrom_77 : decode b_Seating_seatFrom 77 = .ok (.getfield 27, 3) := by decide +kernel
theorem d_Seating_seatFrom_80 : decode b_Seating_seatFrom 80 = .ok (.iload_n 1, 1) := by decide +kernel
theorem d_Seating_seatFrom_81 : decode b_Seating_seatFrom 81 = .ok (.invokevirtual 81, 3) := by decide +kernel
theorem d_Seating_seatFrom_84 : decode b_Seating_seatFrom 84 = .ok (.iand, 1) := by decide +kernel
theorem d_Seating_seatFrom_85 : decode b_Seating_seatFrom 85 = .ok (.ifCond .eq 6, 3) := by decide +kernel
theorem d_Seating_seatFrom_88 : decode b_Seating_seatFrom 88 = .ok (.goto 54, 3) := by decide +kernel
theorem d_Seating_seatFrom_91 : decode b_Seating_seatFrom 91 = .ok (.aload_n 0, 1) := by decide +kernel
theorem d_Seating_seatFrom_92 : decode b_Seating_seatFrom 92 = .ok (.getfield 30, 3) := by decide +kernel
theorem d_Seating_seatFrom_95 : decode b_Seating_seatFrom 95 = .ok (.iload_n 3, 1) := by decide +kernel
theorem d_Seating_seatFrom_96 : decode b_Seating_seatFrom 96 = .ok (.iload 4, 2) := by decide +kernel
theorem d_Seating_seatFrom_98 : decode b_Seating_seatFrom 98 = .ok (.iconst 1, 1) := by decide +kernel
theorem d_Seating_seatFrom_99 : decode b_Seating_seatFrom 99 = .ok (.iload_n 1, 1) := by decide +kernel
theorem d_Seating_seatFrom_100 : decode b_Seating_seatFrom 100 = .ok (.ishl, 1) := by decide +kernel
theorem d_Seating_seatFrom_101 : decode b_Seating_seatFrom 101 = .ok (.ior, 1) := by decide +kernel
theorem d_Seating_seatFrom_102 : decode b_Seating_seatFrom 102 = .ok (.invokevirtual 73, 3) := by decide +kernel
theorem d_Seating_seatFrom_105 : decode b_Seating_seatFrom 105 = .ok (.aload_n 0, 1) := by decide +kernel
theorem d_Seating_seatFrom_106 : decode b_Seating_seatFrom 106 = .ok (.getfield 24, 3) := by decide +kernel
theorem d_Seating_seatFrom_109 : decode b_Seating_seatFrom 109 = .ok (.iload_n 1, 1) := by decide +kernel
theorem d_Seating_seatFrom_110 : decode b_Seating_seatFrom 110 = .ok (.iload_n 3, 1) := by decide +kernel
theorem d_Seating_seatFrom_111 : decode b_Seating_seatFrom 111 = .ok (.invokevirtual 73, 3) := by decide +kernel
theorem d_Seating_seatFrom_114 : decode b_Seating_seatFrom 114 = .ok (.aload_n 0, 1) := by decide +kernel
theorem d_Seating_seatFrom_115 : decode b_Seating_seatFrom 115 = .ok (.iload_n 1, 1) := by decide +kernel
theorem d_Seating_seatFrom_116 : decode b_Seating_seatFrom 116 = .ok (.iconst 1, 1) := by decide +kernel
theorem d_Seating_seatFrom_117 : decode b_Seating_seatFrom 117 = .ok (.iadd, 1) := by decide +kernel
theorem d_Seating_seatFrom_118 : decode b_Seating_seatFrom 118 = .ok (.iload 5, 2) := by decide +kernel
theorem d_Seating_seatFrom_120 : decode b_Seating_seatFrom 120 = .ok (.invokestatic 77, 3) := by decide +kernel
theorem d_Seating_seatFrom_123 : decode b_Seating_seatFrom 123 = .ok (.istore 6, 2) := by decide +kernel
theorem d_Seating_seatFrom_125 : decode b_Seating_seatFrom 125 = .ok (.aload_n 0, 1) := by decide +kernel
theorem d_Seating_seatFrom_126 : decode b_Seating_seatFrom 126 = .ok (.getfield 30, 3) := by decide +kernel
theorem d_Seating_seatFrom_129 : decode b_Seating_seatFrom 129 = .ok (.iload_n 3, 1) := by decide +kernel
theorem d_Seating_seatFrom_130 : decode b_Seating_seatFrom 130 = .ok (.iload 4, 2) := by decide +kernel
theorem d_Seating_seatFrom_132 : decode b_Seating_seatFrom 132 = .ok (.invokevirtual 73, 3) := by decide +kernel
theorem d_Seating_seatFrom_135 : decode b_Seating_seatFrom 135 = .ok (.iload 6, 2) := by decide +kernel
theorem d_Seating_seatFrom_137 : decode b_Seating_seatFrom 137 = .ok (.ifCond .eq 5, 3) := by decide +kernel
theorem d_Seating_seatFrom_140 : decode b_Seating_seatFrom 140 = .ok (.iconst 1, 1) := by decide +kernel
theorem d_Seating_seatFrom_141 : decode b_Seating_seatFrom 141 = .ok (.ireturn, 1) := by decide +kernel
theorem d_Seating_seatFrom_142 : decode b_Seating_seatFrom 142 = .ok (.iinc 3 1, 3) := by decide +kernel
theorem d_Seating_seatFrom_145 : decode b_Seating_seatFrom 145 = .ok (.goto (-127), 3) := by decide +kernel
theorem d_Seating_seatFrom_148 : decode b_Seating_seatFrom 148 = .ok (.iconst 0, 1) := by decide +kernel
theorem d_Seating_seatFrom_149 : decode b_Seating_seatFrom 149 = .ok (.ireturn, 1) := by decide +kernel
noncomputable def f_Seating_seatFrom_J55 (z : Nat → Nat) (rc : Mm → Nat → Int32 → Int32 → Option (Int32 × Mm)) (o1 : Nat) (v1 : Int32) (v2 : Int32) (v3 : Int32) (v4 : Int32) (t55_0 : Int32) (m55 : Mm) : Option ((Int32 × Mm) ⊕ ((Int32 × Mm) ⊕ (Mm))) :=
  if t55_0 < 0 then (
    mm_lt (v3 + (1 : Int32)) fun x142 =>
    some (.inl (x142, m55))
  ) else (
    (f_Int_bitCount z m55 v4).bind fun q64 =>
    if (m55.1 o1 8) ≤ q64 then (
      mm_lt (v3 + (1 : Int32)) fun x142 =>
      some (.inl (x142, m55))
    ) else (
      (f_Row_at z m55 (o1 + 5) v1).bind fun q81 =>
      if (v4 &&& q81) = 0 then (
        (f_Row_put z m55 (o1 + 7) v3 (v4 ||| ((1 : Int32) <<< (v1 &&& 31)))).bind fun q102 =>
        (f_Row_put z q102 (o1 + 3) v1 v3).bind fun q111 =>
        (rc q111 o1 (v1 + (1 : Int32)) t55_0).bind fun q120 =>
        (f_Row_put z q120.2 (o1 + 7) v3 v4).bind fun q132 =>
        if q120.1 = 0 then (
          mm_lt (v3 + (1 : Int32)) fun x142 =>
          some (.inl (x142, q132))
        ) else (
          some (.inr (.inl ((1 : Int32), q132)))
        )
      ) else (
        mm_lt (v3 + (1 : Int32)) fun x142 =>
        some (.inl (x142, m55))
      )
    )
  )
noncomputable def f_Seating_seatFrom_L18 (z : Nat → Nat) (rc : Mm → Nat → Int32 → Int32 → Option (Int32 × Mm)) (o1 : Nat) (v1 : Int32) (v2 : Int32) (s18 : Int32 × Mm) : Option ((Int32 × Mm) ⊕ ((Int32 × Mm) ⊕ (Mm))) :=
  if (s18.2.1 o1 7) ≤ s18.1 then (
    some (.inr (.inr s18.2))
  ) else (
    (f_Row_at z s18.2 (o1 + 7) s18.1).bind fun q31 =>
    (f_Row_at z s18.2 (o1 + 9) v1).bind fun q41 =>
    if q41 = s18.1 then (
      f_Seating_seatFrom_J55 z rc o1 v1 v2 s18.1 q31 v2 s18.2
    ) else (
      f_Seating_seatFrom_J55 z rc o1 v1 v2 s18.1 q31 (v2 - (1 : Int32)) s18.2
    )
  )
noncomputable def f_Seating_seatFrom_B (z : Nat → Nat) (rc : Mm → Nat → Int32 → Int32 → Option (Int32 × Mm)) (σ : Mm) (o1 : Nat) (p2 : Int32) (p3 : Int32) : Option (Int32 × Mm) :=
  if (σ.1 o1 6) ≤ p2 then (
    some ((1 : Int32), σ)
  ) else (
    if p2 < (8 : Int32) then (
      (mm_lp (f_Seating_seatFrom_L18 z rc o1 p2 p3) ((0 : Int32), σ)).bind (Sum.elim (fun r9 => some r9) (fun x18_ =>
        some ((0 : Int32), x18_)))
    ) else (
      some ((1 : Int32), σ)
    )
  )
noncomputable def f_Seating_seatFrom (z : Nat → Nat) : Nat → Mm → Nat → Int32 → Int32 → Option (Int32 × Mm)
  | 0 => fun _ _ _ _ => none
  | d + 1 => f_Seating_seatFrom_B z (f_Seating_seatFrom z d)
set_option maxHeartbeats 4000000 in
set_option maxRecDepth 100000 in
theorem c_Seating_seatFrom (l : Launch) {L : Ly} (hg : gd_ok L) : ∀ (d : Nat) {σ : Mm} {o1 : Nat} {p2 : Int32} {p3 : Int32} (k_o1_0 : ly_k L o1 = 6) {res : Int32 × Mm} (hf0 : f_Seating_seatFrom (ly_z L) d σ o1 p2 p3 = some res), CtI l y_Seating_seatFrom b_Seating_seatFrom 7 (some .boolean) (rm_Seating_seatFrom d) L [.ref (ly_a L o1), .int p2, .int p3] σ res.1 res.2 := by
  intro d
  induction d with
  | zero =>
    intro σ o1 p2 p3 k_o1_0 res hf0
    cases hf0
  | succ d IH =>
    intro σ o1 p2 p3 k_o1_0 res hf0
    refine ct_z hg (by decide) (Nat.le_of_ble_eq_true rfl) ?_
    intro E A Q hE C hN
    subst hE
    have k_o1_5 : ly_k L (o1 + 5) = 0 := gd_Seating_feuding hg k_o1_0
    have k_o1_7 : ly_k L (o1 + 7) = 0 := gd_Seating_inPew hg k_o1_0
    have k_o1_3 : ly_k L (o1 + 3) = 0 := gd_Seating_tried hg k_o1_0
    have k_o1_9 : ly_k L (o1 + 9) = 0 := gd_Seating_sitNow hg k_o1_0
    replace hf0 : f_Seating_seatFrom_B (ly_z L) (f_Seating_seatFrom (ly_z L) d) σ o1 p2 p3 = some res := hf0
    unfold f_Seating_seatFrom_B at hf0
    show GW E L A 7 0 0 Q σ 0 [(0, .ref (ly_a L o1)), (1, .int p2), (2, .int p3)] []
    refine gw_iload_n C 1 d_Seating_seatFrom_0 rfl rfl ?_
    refine gw_aload_n C 0 d_Seating_seatFrom_1 rfl rfl ?_
    refine gw_getI C 6 d_Seating_seatFrom_2 k_o1_0 (by decide) i_Seating rfl rfl (by decide) qw_359 rfl rfl ?_
    refine gw_icmp_ge C 14 d_Seating_seatFrom_5 (by decide) (fun hc => ?_) (fun hc => ?_)
    · replace hf0 := mx_t hc hf0
      refine gw_iconst C (1 : Int32) d_Seating_seatFrom_14 (by decide) ?_
      exact en_z hN (Or.inr rfl) hf0 d_Seating_seatFrom_15
    · replace hf0 := mx_f hc hf0
      refine gw_iload_n C 1 d_Seating_seatFrom_8 rfl rfl ?_
      refine gw_bipush C (8 : Int32) d_Seating_seatFrom_9 (by decide) ?_
      refine gw_icmp_lt C 16 d_Seating_seatFrom_11 (by decide) (fun hc => ?_) (fun hc => ?_)
      · replace hf0 := mx_t hc hf0
        refine gw_iconst C (0 : Int32) d_Seating_seatFrom_16 (by decide) ?_
        refine gw_istore_n C [(3, .int (0 : Int32)), (0, .ref (ly_a L o1)), (1, .int p2), (2, .int p3)] d_Seating_seatFrom_17 rfl (by decide) rfl ?_
        obtain ⟨q18, hq18, hf0⟩ := mx_bd hf0
        have hk18 : ∀ x18_, q18 = .inr x18_ → GW E L A 7 0 0 Q x18_ 148 [] [] := by
          intro x18_ hx9
          subst hx9
          replace hf0 := mx_sr hf0
          refine gw_iconst C (0 : Int32) d_Seating_seatFrom_148 (by decide) ?_
          exact en_z hN (Or.inl rfl) hf0 d_Seating_seatFrom_149
        refine gw_sub [1, 2, 3, 0] (lv' := [(0, .ref (ly_a L o1)), (1, .int p2), (2, .int p3), (3, .int (0 : Int32))]) rfl ?_
        refine mm_rule hq18 (P := fun (s18 : Int32 × Mm) => GW E L A 7 0 0 Q s18.2 18 [(0, .ref (ly_a L o1)), (1, .int p2), (2, .int p3), (3, .int s18.1)] []) ?_
        intro s18 ih18 hx18 ⟨w18, hb18⟩
        have hj55 : ∀ (v3 : Int32) (v4 : Int32) (t55_0 : Int32) (m55 : Mm), f_Seating_seatFrom_J55 (ly_z L) (f_Seating_seatFrom (ly_z L) d) o1 p2 p3 v3 v4 t55_0 m55 = some w18 → GW E L A 7 0 0 Q m55 55 [(0, .ref (ly_a L o1)), (1, .int p2), (2, .int p3), (3, .int v3), (4, .int v4)] [.int t55_0] := by
          intro v3 v4 t55_0 m55 hf1
          unfold f_Seating_seatFrom_J55 at hf1
          refine gw_istore C [(5, .int t55_0), (0, .ref (ly_a L o1)), (1, .int p2), (2, .int p3), (3, .int v3), (4, .int v4)] d_Seating_seatFrom_55 (by decide) rfl ?_
          refine gw_iload C 0 d_Seating_seatFrom_57 rfl ?_
          refine gw_if_lt C 142 d_Seating_seatFrom_59 (by decide) (fun hc => ?_) (fun hc => ?_)
          · replace hf1 := mx_t hc hf1
            obtain ⟨x142, ex142, hf1⟩ := mx_lt hf1
            refine gw_iinc C 4 [(3, .int x142), (5, .int t55_0), (0, .ref (ly_a L o1)), (1, .int p2), (2, .int p3), (4, .int v4)] d_Seating_seatFrom_142 rfl (by rw [ex142]; rfl) (by decide) rfl ?_
            refine gw_goto C 18 d_Seating_seatFrom_145 (by decide) ?_
            exact gw_go [2, 3, 4, 0] (ih18 (x142, m55) (hb18.trans hf1.symm)) rfl
          · replace hf1 := mx_f hc hf1
            refine gw_iload C 5 d_Seating_seatFrom_62 rfl ?_
            obtain ⟨q64, hq64, hf1⟩ := mx_bd hf1
            refine gw_callIS C (c_Int_bitCount _ hg hq64) d_Seating_seatFrom_64 1 qw_908 qw_720 qw_23 qw_721 hd_Int_bitCount rfl rfl (Nat.le_of_ble_eq_true rfl) ⟨rfl, rfl, by dsimp only [rm_Int_bitCount, rm_Seating_seatFrom]; omega, by dsimp only [rm_Int_bitCount, rm_Seating_seatFrom]; omega⟩ ⟨Nat.zero_le _, Nat.zero_le _⟩ ?_
            refine gw_aload_n C 1 d_Seating_seatFrom_67 rfl rfl ?_
            refine gw_getI C 8 d_Seating_seatFrom_68 k_o1_0 (by decide) i_Seating rfl rfl (by decide) qw_361 rfl rfl ?_
            refine gw_icmp_ge C 142 d_Seating_seatFrom_71 (by decide) (fun hc => ?_) (fun hc => ?_)
            · replace hf1 := mx_t hc hf1
              obtain ⟨x142, ex142, hf1⟩ := mx_lt hf1
              refine gw_iinc C 4 [(3, .int x142), (5, .int t55_0), (0, .ref (ly_a L o1)), (1, .int p2), (2, .int p3), (4, .int v4)] d_Seating_seatFrom_142 rfl (by rw [ex142]; rfl) (by decide) rfl ?_
              refine gw_goto C 18 d_Seating_seatFrom_145 (by decide) ?_
              exact gw_go [2, 3, 4, 0] (ih18 (x142, m55) (hb18.trans hf1.symm)) rfl
            · replace hf1 := mx_f hc hf1
              refine gw_iload C 5 d_Seating_seatFrom_74 rfl ?_
              refine gw_aload_n C 1 d_Seating_seatFrom_76 rfl rfl ?_
              refine gw_getA C 3 d_Seating_seatFrom_77 k_o1_0 (by decide) i_Seating rfl rfl (by decide) qw_356 rfl rfl (o1 + 5) rfl ?_
              refine gw_iload_n C 2 d_Seating_seatFrom_80 rfl rfl ?_
              obtain ⟨q81, hq81, hf1⟩ := mx_bd hf1
              refine gw_callI C (c_Row_at _ hg k_o1_5 hq81) d_Seating_seatFrom_81 1 qw_907 qw_489 qw_490 qw_4 qw_491 k_o1_5 (by decide) rfl hd_Row_at rfl rfl (Nat.le_of_ble_eq_true rfl) ⟨rfl, rfl, by dsimp only [rm_Row_at, rm_Seating_seatFrom]; omega, by dsimp only [rm_Row_at, rm_Seating_seatFrom]; omega⟩ ⟨Nat.zero_le _, Nat.zero_le _⟩ ?_
              refine gw_iand C d_Seating_seatFrom_84 ?_
              refine gw_if_eq C 91 d_Seating_seatFrom_85 (by decide) (fun hc => ?_) (fun hc => ?_)
              · replace hf1 := mx_t hc hf1
                refine gw_aload_n C 1 d_Seating_seatFrom_91 rfl rfl ?_
                refine gw_getA C 4 d_Seating_seatFrom_92 k_o1_0 (by decide) i_Seating rfl rfl (by decide) qw_357 rfl rfl (o1 + 7) rfl ?_
                refine gw_iload_n C 4 d_Seating_seatFrom_95 rfl rfl ?_
                refine gw_iload C 5 d_Seating_seatFrom_96 rfl ?_
                refine gw_iconst C (1 : Int32) d_Seating_seatFrom_98 (by decide) ?_
                refine gw_iload_n C 2 d_Seating_seatFrom_99 rfl rfl ?_
                refine gw_ishl C d_Seating_seatFrom_100 ?_
                refine gw_ior C d_Seating_seatFrom_101 ?_
                obtain ⟨q102, hq102, hf1⟩ := mx_bd hf1
                refine gw_callV C (c_Row_put _ hg k_o1_7 hq102) d_Seating_seatFrom_102 2 qw_903 qw_461 qw_462 qw_4 qw_463 k_o1_7 (by decide) rfl hd_Row_put rfl rfl (Nat.le_of_ble_eq_true rfl) ⟨rfl, rfl, by dsimp only [rm_Row_put, rm_Seating_seatFrom]; omega, by dsimp only [rm_Row_put, rm_Seating_seatFrom]; omega⟩ ⟨Nat.zero_le _, Nat.zero_le _⟩ ?_
                refine gw_aload_n C 1 d_Seating_seatFrom_105 rfl rfl ?_
                refine gw_getA C 2 d_Seating_seatFrom_106 k_o1_0 (by decide) i_Seating rfl rfl (by decide) qw_355 rfl rfl (o1 + 3) rfl ?_
                refine gw_iload_n C 2 d_Seating_seatFrom_109 rfl rfl ?_
                refine gw_iload_n C 4 d_Seating_seatFrom_110 rfl rfl ?_
                obtain ⟨q111, hq111, hf1⟩ := mx_bd hf1
                refine gw_callV C (c_Row_put _ hg k_o1_3 hq111) d_Seating_seatFrom_111 2 qw_903 qw_461 qw_462 qw_4 qw_463 k_o1_3 (by decide) rfl hd_Row_put rfl rfl (Nat.le_of_ble_eq_true rfl) ⟨rfl, rfl, by dsimp only [rm_Row_put, rm_Seating_seatFrom]; omega, by dsimp only [rm_Row_put, rm_Seating_seatFrom]; omega⟩ ⟨Nat.zero_le _, Nat.zero_le _⟩ ?_
                refine gw_aload_n C 1 d_Seating_seatFrom_114 rfl rfl ?_
                refine gw_iload_n C 2 d_Seating_seatFrom_115 rfl rfl ?_
                refine gw_iconst C (1 : Int32) d_Seating_seatFrom_116 (by decide) ?_
                refine gw_iadd C d_Seating_seatFrom_117 ?_
                refine gw_iload C 0 d_Seating_seatFrom_118 rfl ?_
                obtain ⟨q120, hq120, hf1⟩ := mx_bd hf1
                refine gw_callIS C (IH k_o1_0 hq120) d_Seating_seatFrom_120 3 qw_904 qw_905 qw_10 qw_906 hd_Seating_seatFrom rfl rfl (Nat.le_of_ble_eq_true rfl) ⟨rfl, rfl, by dsimp only [rm_Seating_seatFrom, rm_Seating_seatFrom]; omega, by dsimp only [rm_Seating_seatFrom, rm_Seating_seatFrom]; omega⟩ ⟨Nat.zero_le _, Nat.zero_le _⟩ ?_
                refine gw_istore C [(6, .int q120.1), (5, .int t55_0), (0, .ref (ly_a L o1)), (1, .int p2), (2, .int p3), (3, .int v3), (4, .int v4)] d_Seating_seatFrom_123 (by decide) rfl ?_
                refine gw_aload_n C 2 d_Seating_seatFrom_125 rfl rfl ?_
                refine gw_getA C 4 d_Seating_seatFrom_126 k_o1_0 (by decide) i_Seating rfl rfl (by decide) qw_357 rfl rfl (o1 + 7) rfl ?_
                refine gw_iload_n C 5 d_Seating_seatFrom_129 rfl rfl ?_
                refine gw_iload C 6 d_Seating_seatFrom_130 rfl ?_
                obtain ⟨q132, hq132, hf1⟩ := mx_bd hf1
                refine gw_callV C (c_Row_put _ hg k_o1_7 hq132) d_Seating_seatFrom_132 2 qw_903 qw_461 qw_462 qw_4 qw_463 k_o1_7 (by decide) rfl hd_Row_put rfl rfl (Nat.le_of_ble_eq_true rfl) ⟨rfl, rfl, by dsimp only [rm_Row_put, rm_Seating_seatFrom]; omega, by dsimp only [rm_Row_put, rm_Seating_seatFrom]; omega⟩ ⟨Nat.zero_le _, Nat.zero_le _⟩ ?_
                refine gw_iload C 0 d_Seating_seatFrom_135 rfl ?_
                refine gw_if_eq C 142 d_Seating_seatFrom_137 (by decide) (fun hc => ?_) (fun hc => ?_)
                · replace hf1 := mx_t hc hf1
                  obtain ⟨x142, ex142, hf1⟩ := mx_lt hf1
                  refine gw_iinc C 5 [(3, .int x142), (6, .int q120.1), (5, .int t55_0), (0, .ref (ly_a L o1)), (1, .int p2), (2, .int p3), (4, .int v4)] d_Seating_seatFrom_142 rfl (by rw [ex142]; rfl) (by decide) rfl ?_
                  refine gw_goto C 18 d_Seating_seatFrom_145 (by decide) ?_
                  exact gw_go [3, 4, 5, 0] (ih18 (x142, q132) (hb18.trans hf1.symm)) rfl
                · replace hf1 := mx_f hc hf1
                  refine gw_iconst C (1 : Int32) d_Seating_seatFrom_140 (by decide) ?_
                  have hr18 := hx18 _ (hb18.trans hf1.symm)
                  subst hr18
                  replace hf0 := mx_sl hf0
                  exact en_z hN (Or.inr rfl) hf0 d_Seating_seatFrom_141
              · replace hf1 := mx_f hc hf1
                refine gw_goto C 142 d_Seating_seatFrom_88 (by decide) ?_
                obtain ⟨x142, ex142, hf1⟩ := mx_lt hf1
                refine gw_iinc C 4 [(3, .int x142), (5, .int t55_0), (0, .ref (ly_a L o1)), (1, .int p2), (2, .int p3), (4, .int v4)] d_Seating_seatFrom_142 rfl (by rw [ex142]; rfl) (by decide) rfl ?_
                refine gw_goto C 18 d_Seating_seatFrom_145 (by decide) ?_
                exact gw_go [2, 3, 4, 0] (ih18 (x142, m55) (hb18.trans hf1.symm)) rfl
        have hf1 := hb18
        unfold f_Seating_seatFrom_L18 at hf1
        refine gw_iload_n C 3 d_Seating_seatFrom_18 rfl rfl ?_
        refine gw_aload_n C 0 d_Seating_seatFrom_19 rfl rfl ?_
        refine gw_getI C 7 d_Seating_seatFrom_20 k_o1_0 (by decide) i_Seating rfl rfl (by decide) qw_360 rfl rfl ?_
        refine gw_icmp_ge C 148 d_Seating_seatFrom_23 (by decide) (fun hc => ?_) (fun hc => ?_)
        · replace hf1 := mx_t hc hf1
          exact gw_go [] (hk18 s18.2 (hx18 _ (hb18.trans hf1.symm)).symm) rfl
        · replace hf1 := mx_f hc hf1
          refine gw_aload_n C 0 d_Seating_seatFrom_26 rfl rfl ?_
          refine gw_getA C 4 d_Seating_seatFrom_27 k_o1_0 (by decide) i_Seating rfl rfl (by decide) qw_357 rfl rfl (o1 + 7) rfl ?_
          refine gw_iload_n C 3 d_Seating_seatFrom_30 rfl rfl ?_
          obtain ⟨q31, hq31, hf1⟩ := mx_bd hf1
          refine gw_callI C (c_Row_at _ hg k_o1_7 hq31) d_Seating_seatFrom_31 1 qw_907 qw_489 qw_490 qw_4 qw_491 k_o1_7 (by decide) rfl hd_Row_at rfl rfl (Nat.le_of_ble_eq_true rfl) ⟨rfl, rfl, by dsimp only [rm_Row_at, rm_Seating_seatFrom]; omega, by dsimp only [rm_Row_at, rm_Seating_seatFrom]; omega⟩ ⟨Nat.zero_le _, Nat.zero_le _⟩ ?_
          refine gw_istore C [(4, .int q31), (0, .ref (ly_a L o1)), (1, .int p2), (2, .int p3), (3, .int s18.1)] d_Seating_seatFrom_34 (by decide) rfl ?_
          refine gw_aload_n C 1 d_Seating_seatFrom_36 rfl rfl ?_
          refine gw_getA C 5 d_Seating_seatFrom_37 k_o1_0 (by decide) i_Seating rfl rfl (by decide) qw_358 rfl rfl (o1 + 9) rfl ?_
          refine gw_iload_n C 2 d_Seating_seatFrom_40 rfl rfl ?_
          obtain ⟨q41, hq41, hf1⟩ := mx_bd hf1
          refine gw_callI C (c_Row_at _ hg k_o1_9 hq41) d_Seating_seatFrom_41 1 qw_907 qw_489 qw_490 qw_4 qw_491 k_o1_9 (by decide) rfl hd_Row_at rfl rfl (Nat.le_of_ble_eq_true rfl) ⟨rfl, rfl, by dsimp only [rm_Row_at, rm_Seating_seatFrom]; omega, by dsimp only [rm_Row_at, rm_Seating_seatFrom]; omega⟩ ⟨Nat.zero_le _, Nat.zero_le _⟩ ?_
          refine gw_iload_n C 4 d_Seating_seatFrom_44 rfl rfl ?_
          refine gw_icmp_ne C 52 d_Seating_seatFrom_45 (by decide) (fun hc => ?_) (fun hc => ?_)
          · replace hf1 := mx_f hc hf1
            refine gw_iload_n C 3 d_Seating_seatFrom_52 rfl rfl ?_
            refine gw_iconst C (1 : Int32) d_Seating_seatFrom_53 (by decide) ?_
            refine gw_isub C d_Seating_seatFrom_54 ?_
            exact gw_go [1, 2, 3, 4, 0] (hj55 _ _ _ _ hf1) rfl
          · replace hf1 := mx_t hc hf1
            refine gw_iload_n C 3 d_Seating_seatFrom_48 rfl rfl ?_
            refine gw_goto C 55 d_Seating_seatFrom_49 (by decide) ?_
            exact gw_go [1, 2, 3, 4, 0] (hj55 _ _ _ _ hf1) rfl
      · replace hf0 := mx_f hc hf0
        refine gw_iconst C (1 : Int32) d_Seating_seatFrom_14 (by decide) ?_
        exact en_z hN (Or.inr rfl) hf0 d_Seating_seatFrom_15
