/-! NameHat.Reader.readText(III)V -/
abbrev b_Reader_readText : ByteArray := prog_6_method_2_code
def y_Reader_readText : MethodName := ⟨"NameHat$Reader", "readText", "(III)V"⟩
abbrev rm_Reader_readText : Room := { frames := 11, cells := 0, slots := 0, locals := 510 }
theorem hd_Reader_readText : y_Reader_readText.cls ≠ "java/lang/invoke/MethodHandle" ∧ y_Reader_readText.cls ≠ "java/lang/invoke/VarHandle" ∧ (parseMethodDescriptor y_Reader_readText.desc).map (fun d => d.parameters.length) = some 3 := by decide +kernel
theorem d_Reader_readText_0 : decode b_Reader_readText 0 = .ok (.aload_n 0, 1) := by decide +kernel
theorem d_Reader_readText_1 : decode b_Reader_readText 1 = .ok (.getfield 12, 3) := by decide +kernel
theorem d_Reader_readText_4 : decode b_Reader_readText 4 = .ok (.iload_n 2, 1) := by decide +kernel
theorem d_Reader_readText_5 : decode b_Reader_readText 5 = .ok (.iload_n 3, 1) := by decide +kernel
theorem d_Reader_readText_6 : decode b_Reader_readText 6 = .ok (.invokevirtual 25, 3) := by decide +kernel
theorem d_Reader_readText_9 : decode b_Reader_readText 9 = .ok (.aload_n 0, 1) := by decide +kernel
theorem d_Reader_readText_10 : decode b_Reader_readText 10 = .ok (.iconst 0, 1) := by decide +kernel
theorem d_Reader_readText_11 : decode b_Reader_readText 11 = .ok (.putfield 29, 3) := by decide +kernel
theorem d_Reader_readText_14 : decode b_Reader_readText 14 = .ok (.aload_n 0, 1) := by decide +kernel
theorem d_Reader_readText_15 : decode b_Reader_readText 15 = .ok (.iconst 0, 1) := by decide +kernel
theorem d_Reader_readText_16 : decode b_Reader_readText 16 = .ok (.putfield 33, 3) := by decide +kernel
theorem d_Reader_readText_19 : decode b_Reader_readText 19 = .ok (.aload_n 0, 1) := by decide +kernel
theorem d_Reader_readText_20 : decode b_Reader_readText 20 = .ok (.iconst 0, 1) := by decide +kernel
theorem d_Reader_readText_21 : decode b_Reader_readText 21 = .ok (.putfield 36, 3) := by decide +kernel
theorem d_Reader_readText_24 : decode b_Reader_readText 24 = .ok (.aload_n 0, 1) := by decide +kernel
theorem d_Reader_readText_25 : decode b_Reader_readText 25 = .ok (.iconst 0, 1) := by decide +kernel
theorem d_Reader_readText_26 : decode b_Reader_readText 26 = .ok (.putfield 40, 3) := by decide +kernel
theorem d_Reader_readText_29 : decode b_Reader_readText 29 = .ok (.aload_n 0, 1) := by decide +kernel
theorem d_Reader_readText_30 : decode b_Reader_readText 30 = .ok (.iconst 0, 1) := by decide +kernel
theorem d_Reader_readText_31 : decode b_Reader_readText 31 = .ok (.putfield 43, 3) := by decide +kernel
theorem d_Reader_readText_34 : decode b_Reader_readText 34 = .ok (.iconst 0, 1) := by decide +kernel
theorem d_Reader_readText_35 : decode b_Reader_readText 35 = .ok (.istore 4, 2) := by decide +kernel
theorem d_Reader_readText_37 : decode b_Reader_readText 37 = .ok (.iload 4, 2) := by decide +kernel
theorem d_Reader_readText_39 : decode b_Reader_readText 39 = .ok (.sipush 940, 3) := by decide +kernel
theorem d_Reader_readText_42 : decode b_Reader_readText 42 = .ok (.if_icmp .gt 79, 3) := by decide +kernel
theorem d_Reader_readText_45 : decode b_Reader_readText 45 = .ok (.aload_n 0, 1) := by decide +kernel
theorem d_Reader_readText_46 : decode b_Reader_readText 46 = .ok (.getfield 12, 3) := by decide +kernel
theorem d_Reader_readText_49 : decode b_Reader_readText 49 = .ok (.invokevirtual 46, 3) := by decide +kernel
theorem d_Reader_readText_52 : decode b_Reader_readText 52 = .ok (.aload_n 0, 1) := by decide +kernel
theorem d_Reader_readText_53 : decode b_Reader_readText 53 = .ok (.getfield 12, 3) := by decide +kernel
theorem d_Reader_readText_56 : decode b_Reader_readText 56 = .ok (.getfield 49, 3) := by decide +kernel
theorem d_Reader_readText_59 : decode b_Reader_readText 59 = .ok (.ifCond .ne 4, 3) := by decide +kernel
theorem d_Reader_readText_62 : decode b_Reader_readText 62 = .ok (.return_, 1) := by decide +kernel
theorem d_Reader_readText_63 : decode b_Reader_readText 63 = .ok (.iload_n 1, 1) := by decide +kernel
theorem d_Reader_readText_64 : decode b_Reader_readText 64 = .ok (.ifCond .ne 10, 3) := by decide +kernel
theorem d_Reader_readText_67 : decode b_Reader_readText 67 = .ok (.aload_n 0, 1) := by decide +kernel
theorem d_Reader_readText_68 : decode b_Reader_readText 68 = .ok (.invokevirtual 52, 3) := by decide +kernel
theorem d_Reader_readText_71 : decode b_Reader_readText 71 = .ok (.goto 19, 3) := by decide +kernel
theorem d_Reader_readText_74 : decode b_Reader_readText 74 = .ok (.iload_n 1, 1) := by decide +kernel
theorem d_Reader_readText_75 : decode b_Reader_readText 75 = .ok (.iconst 1, 1) := by decide +kernel
theorem d_Reader_readText_76 : decode b_Reader_readText 76 = .ok (.if_icmp .ne 10, 3) := by decide +kernel
theorem d_Reader_readText_79 : decode b_Reader_readText 79 = .ok (.aload_n 0, 1) := by decide +kernel
theorem d_Reader_readText_80 : decode b_Reader_readText 80 = .ok (.invokevirtual 56, 3) := by decide +kernel
theorem d_Reader_readText_83 : decode b_Reader_readText 83 = .ok (.goto 7, 3) := by decide +kernel
theorem d_Reader_readText_86 : decode b_Reader_readText 86 = .ok (.aload_n 0, 1) := by decide +kernel
theorem d_Reader_readText_87 : decode b_Reader_readText 87 = .ok (.invokevirtual 59, 3) := by decide +kernel
theorem d_Reader_readText_90 : decode b_Reader_readText 90 = .ok (.istore 5, 2) := by decide +kernel
theorem d_Reader_readText_92 : decode b_Reader_readText 92 = .ok (.iload 5, 2) := by decide +kernel
theorem d_Reader_readText_94 : decode b_Reader_readText 94 = .ok (.ifCond .eq 10, 3) := by decide +kernel
theorem d_Reader_readText_97 : decode b_Reader_readText 97 = .ok (.aload_n 0, 1) := by decide +kernel
theorem d_Reader_readText_98 : decode b_Reader_readText 98 = .ok (.invokevirtual 62, 3) := by decide +kernel
theorem d_Reader_readText_101 : decode b_Reader_readText 101 = .ok (.ifCond .ne 4, 3) := by decide +kernel
theorem d_Reader_readText_104 : decode b_Reader_readText 104 = .ok (.return_, 1) := by decide +kernel
theorem d_Reader_readText_105 : decode b_Reader_readText 105 = .ok (.aload_n 0, 1) := by decide +kernel
theorem d_Reader_readText_106 : decode b_Reader_readText 106 = .ok (.dup, 1) := by decide +kernel
theorem d_Reader_readText_107 : decode b_Reader_readText 107 = .ok (.getfield 29, 3) := by decide +kernel
theorem d_Reader_readText_110 : decode b_Reader_readText 110 = .ok (.iconst 1, 1) := by decide +kernel
theorem d_Reader_readText_111 : decode b_Reader_readText 111 = .ok (.iadd, 1) := by decide +kernel
theorem d_Reader_readText_112 : decode b_Reader_readText 112 = .ok (.putfield 29, 3) := by decide +kernel
theorem d_Reader_readText_115 : decode b_Reader_readText 115 = .ok (.iinc 4 1, 3) := by decide +kernel
theorem d_Reader_readText_118 : decode b_Reader_readText 118 = .ok (.goto (-81), 3) := by decide +kernel
theorem d_Reader_readText_121 : decode b_Reader_readText 121 = .ok (.return_, 1) := by decide +kernel
noncomputable def f_Reader_readText_J90 (z : Nat → Nat) (o : Nat) (v1 : Int32) (v4 : Int32) (t90_0 : Int32) (m90 : Mm) : Option ((Int32 × Mm) ⊕ ((Mm) ⊕ (Mm))) :=
  if t90_0 = 0 then (
    some (.inr (.inl m90))
  ) else (
    (f_Reader_isSemicolon z m90 o).bind fun q98 =>
    if q98.1 = 0 then (
      some (.inr (.inl q98.2))
    ) else (
      mm_lt (kI q98.2 o 2 ((q98.2.1 o 2) + (1 : Int32))) fun m112 =>
      mm_lt (v4 + (1 : Int32)) fun x115 =>
      some (.inl (x115, m112))
    )
  )
noncomputable def f_Reader_readText_L37 (z : Nat → Nat) (o : Nat) (v1 : Int32) (s37 : Int32 × Mm) : Option ((Int32 × Mm) ⊕ ((Mm) ⊕ (Mm))) :=
  if (940 : Int32) < s37.1 then (
    some (.inr (.inr s37.2))
  ) else (
    (f_Tokens_step z s37.2 (o + 1)).bind fun q49 =>
    if (q49.1 (o + 1) 4) = 0 then (
      some (.inr (.inl q49))
    ) else (
      if v1 = 0 then (
        (f_Reader_islandLine z q49 o).bind fun q68 =>
        f_Reader_readText_J90 z o v1 s37.1 q68.1 q68.2
      ) else (
        if v1 = (1 : Int32) then (
          (f_Reader_rollLine z q49 o).bind fun q80 =>
          f_Reader_readText_J90 z o v1 s37.1 q80.1 q80.2
        ) else (
          (f_Reader_bookLine z q49 o).bind fun q87 =>
          f_Reader_readText_J90 z o v1 s37.1 q87.1 q87.2
        )
      )
    )
  )
noncomputable def f_Reader_readText (z : Nat → Nat) (σ : Mm) (o : Nat) (p1 : Int32) (p2 : Int32) (p3 : Int32) : Option (Mm) :=
  (f_Tokens_start z σ (o + 1) p2 p3).bind fun q6 =>
  mm_lt (kI q6 o 2 (0 : Int32)) fun m11 =>
  mm_lt (kI m11 o 3 (0 : Int32)) fun m16 =>
  mm_lt (kI m16 o 6 (0 : Int32)) fun m21 =>
  mm_lt (kI m21 o 7 (0 : Int32)) fun m26 =>
  mm_lt (kI m26 o 8 (0 : Int32)) fun m31 =>
  (mm_lp (f_Reader_readText_L37 z o p1) ((0 : Int32), m31)).bind (Sum.elim (fun r9 => some r9) (fun x37_ =>
    some x37_))
set_option maxHeartbeats 4000000 in
set_option maxRecDepth 100000 in
theorem c_Reader_readText (l : Launch) {L : Ly} (hg : gd_ok L) {σ : Mm} {o : Nat} {p1 : Int32} {p2 : Int32} {p3 : Int32} (k_o_0 : ly_k L o = 9) {res : Mm} (hf0 : f_Reader_readText (ly_z L) σ o p1 p2 p3 = some res) : CtV l y_Reader_readText b_Reader_readText 6 (none) rm_Reader_readText L [.ref (ly_a L o), .int p1, .int p2, .int p3] σ res := by
  refine ct_v hg (by decide) (Nat.le_of_ble_eq_true rfl) ?_
  intro E A Q hE C hN
  subst hE
  have k_o_1 : ly_k L (o + 1) = 8 := gd_Reader_tokens hg k_o_0
  unfold f_Reader_readText at hf0
  show GW E L A 6 0 0 Q σ 0 [(0, .ref (ly_a L o)), (1, .int p1), (2, .int p2), (3, .int p3)] []
  refine gw_aload_n C 0 d_Reader_readText_0 rfl rfl ?_
  refine gw_getA C 0 d_Reader_readText_1 k_o_0 (by decide) i_Reader rfl rfl (by decide) qw_287 rfl rfl (o + 1) rfl ?_
  refine gw_iload_n C 2 d_Reader_readText_4 rfl rfl ?_
  refine gw_iload_n C 3 d_Reader_readText_5 rfl rfl ?_
  obtain ⟨q6, hq6, hf0⟩ := mx_bd hf0
  refine gw_callV C (c_Tokens_start _ hg k_o_1 hq6) d_Reader_readText_6 2 qw_477 qw_478 qw_479 qw_3 qw_480 k_o_1 (by decide) rfl hd_Tokens_start rfl rfl (Nat.le_of_ble_eq_true rfl) ⟨rfl, rfl, Nat.le_of_ble_eq_true rfl, Nat.le_of_ble_eq_true rfl⟩ ⟨Nat.zero_le _, Nat.zero_le _⟩ ?_
  refine gw_aload_n C 0 d_Reader_readText_9 rfl rfl ?_
  refine gw_iconst C (0 : Int32) d_Reader_readText_10 (by decide) ?_
  obtain ⟨m11, em11, hf0⟩ := mx_lt hf0
  refine gw_putI t_Reader C 2 d_Reader_readText_11 k_o_0 (by decide) i_Reader rfl rfl (by decide) qw_291 rfl rfl t_Reader_ok n_Reader rfl (t_Reader_ok 2 (by decide)) rfl rfl em11 ?_
  refine gw_aload_n C 0 d_Reader_readText_14 rfl rfl ?_
  refine gw_iconst C (0 : Int32) d_Reader_readText_15 (by decide) ?_
  obtain ⟨m16, em16, hf0⟩ := mx_lt hf0
  refine gw_putI t_Reader C 3 d_Reader_readText_16 k_o_0 (by decide) i_Reader rfl rfl (by decide) qw_293 rfl rfl t_Reader_ok n_Reader rfl (t_Reader_ok 3 (by decide)) rfl rfl em16 ?_
  refine gw_aload_n C 0 d_Reader_readText_19 rfl rfl ?_
  refine gw_iconst C (0 : Int32) d_Reader_readText_20 (by decide) ?_
  obtain ⟨m21, em21, hf0⟩ := mx_lt hf0
  refine gw_putI t_Reader C 6 d_Reader_readText_21 k_o_0 (by decide) i_Reader rfl rfl (by decide) qw_298 rfl rfl t_Reader_ok n_Reader rfl (t_Reader_ok 6 (by decide)) rfl rfl em21 ?_
  refine gw_aload_n C 0 d_Reader_readText_24 rfl rfl ?_
  refine gw_iconst C (0 : Int32) d_Reader_readText_25 (by decide) ?_
  obtain ⟨m26, em26, hf0⟩ := mx_lt hf0
  refine gw_putI t_Reader C 7 d_Reader_readText_26 k_o_0 (by decide) i_Reader rfl rfl (by decide) qw_299 rfl rfl t_Reader_ok n_Reader rfl (t_Reader_ok 7 (by decide)) rfl rfl em26 ?_
  refine gw_aload_n C 0 d_Reader_readText_29 rfl rfl ?_
  refine gw_iconst C (0 : Int32) d_Reader_readText_30 (by decide) ?_
  obtain ⟨m31, em31, hf0⟩ := mx_lt hf0
  refine gw_putI t_Reader C 8 d_Reader_readText_31 k_o_0 (by decide) i_Reader rfl rfl (by decide) qw_300 rfl rfl t_Reader_ok n_Reader rfl (t_Reader_ok 8 (by decide)) rfl rfl em31 ?_
  refine gw_iconst C (0 : Int32) d_Reader_readText_34 (by decide) ?_
  refine gw_istore C [(4, .int (0 : Int32)), (0, .ref (ly_a L o)), (1, .int p1), (2, .int p2), (3, .int p3)] d_Reader_readText_35 (by decide) rfl ?_
  obtain ⟨q37, hq37, hf0⟩ := mx_bd hf0
  have hk37 : ∀ x37_, q37 = .inr x37_ → GW E L A 6 0 0 Q x37_ 121 [] [] := by
    intro x37_ hx9
    subst hx9
    replace hf0 := mx_sr hf0
    exact en_v hN hf0 d_Reader_readText_121
  refine gw_sub [1, 2, 0] (lv' := [(0, .ref (ly_a L o)), (1, .int p1), (4, .int (0 : Int32))]) rfl ?_
  refine mm_rule hq37 (P := fun (s37 : Int32 × Mm) => GW E L A 6 0 0 Q s37.2 37 [(0, .ref (ly_a L o)), (1, .int p1), (4, .int s37.1)] []) ?_
  intro s37 ih37 hx37 ⟨w37, hb37⟩
  have hj90 : ∀ (v4 : Int32) (t90_0 : Int32) (m90 : Mm), f_Reader_readText_J90 (ly_z L) o p1 v4 t90_0 m90 = some w37 → GW E L A 6 0 0 Q m90 90 [(0, .ref (ly_a L o)), (1, .int p1), (4, .int v4)] [.int t90_0] := by
    intro v4 t90_0 m90 hf1
    unfold f_Reader_readText_J90 at hf1
    refine gw_istore C [(5, .int t90_0), (0, .ref (ly_a L o)), (1, .int p1), (4, .int v4)] d_Reader_readText_90 (by decide) rfl ?_
    refine gw_iload C 0 d_Reader_readText_92 rfl ?_
    refine gw_if_eq C 104 d_Reader_readText_94 (by decide) (fun hc => ?_) (fun hc => ?_)
    · replace hf1 := mx_t hc hf1
      have hr37 := hx37 _ (hb37.trans hf1.symm)
      subst hr37
      replace hf0 := mx_sl hf0
      exact en_v hN hf0 d_Reader_readText_104
    · replace hf1 := mx_f hc hf1
      refine gw_aload_n C 1 d_Reader_readText_97 rfl rfl ?_
      obtain ⟨q98, hq98, hf1⟩ := mx_bd hf1
      refine gw_callI C (c_Reader_isSemicolon _ hg k_o_0 hq98) d_Reader_readText_98 0 qw_661 qw_663 qs_18 qw_2 qw_664 k_o_0 (by decide) rfl hd_Reader_isSemicolon rfl rfl (Nat.le_of_ble_eq_true rfl) ⟨rfl, rfl, Nat.le_of_ble_eq_true rfl, Nat.le_of_ble_eq_true rfl⟩ ⟨Nat.zero_le _, Nat.zero_le _⟩ ?_
      refine gw_if_ne C 105 d_Reader_readText_101 (by decide) (fun hc => ?_) (fun hc => ?_)
      · replace hf1 := mx_f hc hf1
        refine gw_aload_n C 1 d_Reader_readText_105 rfl rfl ?_
        refine gw_dup C d_Reader_readText_106 rfl ?_
        refine gw_getI C 2 d_Reader_readText_107 k_o_0 (by decide) i_Reader rfl rfl (by decide) qw_291 rfl rfl ?_
        refine gw_iconst C (1 : Int32) d_Reader_readText_110 (by decide) ?_
        refine gw_iadd C d_Reader_readText_111 ?_
        obtain ⟨m112, em112, hf1⟩ := mx_lt hf1
        refine gw_putI t_Reader C 2 d_Reader_readText_112 k_o_0 (by decide) i_Reader rfl rfl (by decide) qw_291 rfl rfl t_Reader_ok n_Reader rfl (t_Reader_ok 2 (by decide)) rfl rfl em112 ?_
        obtain ⟨x115, ex115, hf1⟩ := mx_lt hf1
        refine gw_iinc C 3 [(4, .int x115), (5, .int t90_0), (0, .ref (ly_a L o)), (1, .int p1)] d_Reader_readText_115 rfl (by rw [ex115]; rfl) (by decide) rfl ?_
        refine gw_goto C 37 d_Reader_readText_118 (by decide) ?_
        exact gw_go [2, 3, 0] (ih37 (x115, m112) (hb37.trans hf1.symm)) rfl
      · replace hf1 := mx_t hc hf1
        have hr37 := hx37 _ (hb37.trans hf1.symm)
        subst hr37
        replace hf0 := mx_sl hf0
        exact en_v hN hf0 d_Reader_readText_104
  have hf1 := hb37
  unfold f_Reader_readText_L37 at hf1
  refine gw_iload C 2 d_Reader_readText_37 rfl ?_
  refine gw_sipush C (940 : Int32) d_Reader_readText_39 (by decide) ?_
  refine gw_icmp_gt C 121 d_Reader_readText_42 (by decide) (fun hc => ?_) (fun hc => ?_)
  · replace hf1 := mx_t hc hf1
    exact gw_go [] (hk37 s37.2 (hx37 _ (hb37.trans hf1.symm)).symm) rfl
  · replace hf1 := mx_f hc hf1
    refine gw_aload_n C 0 d_Reader_readText_45 rfl rfl ?_
    refine gw_getA C 0 d_Reader_readText_46 k_o_0 (by decide) i_Reader rfl rfl (by decide) qw_287 rfl rfl (o + 1) rfl ?_
    obtain ⟨q49, hq49, hf1⟩ := mx_bd hf1
    refine gw_callV C (c_Tokens_step _ hg k_o_1 hq49) d_Reader_readText_49 0 qw_481 qw_482 qw_483 qw_3 qw_484 k_o_1 (by decide) rfl hd_Tokens_step rfl rfl (Nat.le_of_ble_eq_true rfl) ⟨rfl, rfl, Nat.le_of_ble_eq_true rfl, Nat.le_of_ble_eq_true rfl⟩ ⟨Nat.zero_le _, Nat.zero_le _⟩ ?_
    refine gw_aload_n C 0 d_Reader_readText_52 rfl rfl ?_
    refine gw_getA C 0 d_Reader_readText_53 k_o_0 (by decide) i_Reader rfl rfl (by decide) qw_287 rfl rfl (o + 1) rfl ?_
    refine gw_getIN C 4 d_Reader_readText_56 k_o_1 (by decide) i_Tokens rfl rfl (by decide) qw_60 rfl rfl ?_
    refine gw_if_ne C 63 d_Reader_readText_59 (by decide) (fun hc => ?_) (fun hc => ?_)
    · replace hf1 := mx_f hc hf1
      refine gw_iload_n C 1 d_Reader_readText_63 rfl rfl ?_
      refine gw_if_ne C 74 d_Reader_readText_64 (by decide) (fun hc => ?_) (fun hc => ?_)
      · replace hf1 := mx_f hc hf1
        refine gw_iload_n C 1 d_Reader_readText_74 rfl rfl ?_
        refine gw_iconst C (1 : Int32) d_Reader_readText_75 (by decide) ?_
        refine gw_icmp_ne C 86 d_Reader_readText_76 (by decide) (fun hc => ?_) (fun hc => ?_)
        · replace hf1 := mx_f hc hf1
          refine gw_aload_n C 0 d_Reader_readText_86 rfl rfl ?_
          obtain ⟨q87, hq87, hf1⟩ := mx_bd hf1
          refine gw_callI C (c_Reader_bookLine _ hg k_o_0 hq87) d_Reader_readText_87 0 qw_653 qw_655 qs_16 qw_2 qw_656 k_o_0 (by decide) rfl hd_Reader_bookLine rfl rfl (Nat.le_of_ble_eq_true rfl) ⟨rfl, rfl, Nat.le_of_ble_eq_true rfl, Nat.le_of_ble_eq_true rfl⟩ ⟨Nat.zero_le _, Nat.zero_le _⟩ ?_
          exact gw_go [0, 1, 2] (hj90 _ _ _ hf1) rfl
        · replace hf1 := mx_t hc hf1
          refine gw_aload_n C 0 d_Reader_readText_79 rfl rfl ?_
          obtain ⟨q80, hq80, hf1⟩ := mx_bd hf1
          refine gw_callI C (c_Reader_rollLine _ hg k_o_0 hq80) d_Reader_readText_80 0 qw_648 qw_650 qs_15 qw_2 qw_651 k_o_0 (by decide) rfl hd_Reader_rollLine rfl rfl (Nat.le_of_ble_eq_true rfl) ⟨rfl, rfl, Nat.le_of_ble_eq_true rfl, Nat.le_of_ble_eq_true rfl⟩ ⟨Nat.zero_le _, Nat.zero_le _⟩ ?_
          refine gw_goto C 90 d_Reader_readText_83 (by decide) ?_
          exact gw_go [0, 1, 2] (hj90 _ _ _ hf1) rfl
      · replace hf1 := mx_t hc hf1
        refine gw_aload_n C 0 d_Reader_readText_67 rfl rfl ?_
        obtain ⟨q68, hq68, hf1⟩ := mx_bd hf1
        refine gw_callI C (c_Reader_islandLine _ hg k_o_0 hq68) d_Reader_readText_68 0 qw_556 qw_558 qs_2 qw_2 qw_559 k_o_0 (by decide) rfl hd_Reader_islandLine rfl rfl (Nat.le_of_ble_eq_true rfl) ⟨rfl, rfl, Nat.le_of_ble_eq_true rfl, Nat.le_of_ble_eq_true rfl⟩ ⟨Nat.zero_le _, Nat.zero_le _⟩ ?_
        refine gw_goto C 90 d_Reader_readText_71 (by decide) ?_
        exact gw_go [0, 1, 2] (hj90 _ _ _ hf1) rfl
    · replace hf1 := mx_t hc hf1
      have hr37 := hx37 _ (hb37.trans hf1.symm)
      subst hr37
      replace hf0 := mx_sl hf0
      exact en_v hN hf0 d_Reader_readText_62

/-! NameHat.island()I -/
abbrev b_Hat_island : ByteArray := prog_1_method_5_code
def y_Hat_island : MethodName := ⟨"NameHat", "island", "()I"⟩
abbrev rm_Hat_island : Room := { frames := 12, cells := 0, slots := 0, locals := 535 }
theorem hd_Hat_island : y_Hat_island.cls ≠ "java/lang/invoke/MethodHandle" ∧ y_Hat_island.cls ≠ "java/lang/invoke/VarHandle" ∧ (parseMethodDescriptor y_Hat_island.desc).map (fun d => d.parameters.length) = some 0 := by decide +kernel
theorem d_Hat_island_0 : decode b_Hat_island 0 = .ok (.aload_n 0, 1) := by decide +kernel
theorem d_Hat_island_1 : decode b_Hat_island 1 = .ok (.getfield 31, 3) := by decide +kernel
theorem d_Hat_island_4 : decode b_Hat_island 4 = .ok (.invokevirtual 88, 3) := by decide +kernel
theorem d_Hat_island_7 : decode b_Hat_island 7 = .ok (.aload_n 0, 1) := by decide +kernel
theorem d_Hat_island_8 : decode b_Hat_island 8 = .ok (.getfield 10, 3) := by decide +kernel
theorem d_Hat_island_11 : decode b_Hat_island 11 = .ok (.iconst 0, 1) := by decide +kernel
theorem d_Hat_island_12 : decode b_Hat_island 12 = .ok (.aload_n 0, 1) := by decide +kernel
theorem d_Hat_island_13 : decode b_Hat_island 13 = .ok (.getfield 77, 3) := by decide +kernel
theorem d_Hat_island_16 : decode b_Hat_island 16 = .ok (.sipush 900, 3) := by decide +kernel
theorem d_Hat_island_19 : decode b_Hat_island 19 = .ok (.invokevirtual 91, 3) := by decide +kernel
theorem d_Hat_island_22 : decode b_Hat_island 22 = .ok (.aload_n 0, 1) := by decide +kernel
theorem d_Hat_island_23 : decode b_Hat_island 23 = .ok (.invokevirtual 95, 3) := by decide +kernel
theorem d_Hat_island_26 : decode b_Hat_island 26 = .ok (.ireturn, 1) := by decide +kernel
noncomputable def f_Hat_island (z : Nat → Nat) (σ : Mm) (o : Nat) : Option (Int32 × Mm) :=
  (f_State_clear z σ (o + 5)).bind fun q4 =>
  (f_Reader_readText z q4 (o + 1) (0 : Int32) (q4.1 o 1) (900 : Int32)).bind fun q19 =>
  (f_Hat_takeDraft z q19 o).bind fun q23 =>
  some (q23.1, q23.2)
set_option maxHeartbeats 4000000 in
set_option maxRecDepth 100000 in
theorem c_Hat_island (l : Launch) {L : Ly} (hg : gd_ok L) {σ : Mm} {o : Nat} (k_o_0 : ly_k L o = 10) {res : Int32 × Mm} (hf0 : f_Hat_island (ly_z L) σ o = some res) : CtI l y_Hat_island b_Hat_island 1 (some .int) rm_Hat_island L [.ref (ly_a L o)] σ res.1 res.2 := by
  refine ct_i hg (by decide) (Nat.le_of_ble_eq_true rfl) ?_
  intro E A Q hE C hN
  subst hE
  have k_o_5 : ly_k L (o + 5) = 4 := gd_Hat_draft hg k_o_0
  have k_o_1 : ly_k L (o + 1) = 9 := gd_Hat_reader hg k_o_0
  unfold f_Hat_island at hf0
  show GW E L A 1 0 0 Q σ 0 [(0, .ref (ly_a L o))] []
  refine gw_aload_n C 0 d_Hat_island_0 rfl rfl ?_
  refine gw_getA C 8 d_Hat_island_1 k_o_0 (by decide) i_Hat rfl rfl (by decide) qw_411 rfl rfl (o + 5) rfl ?_
  obtain ⟨q4, hq4, hf0⟩ := mx_bd hf0
  refine gw_callV C (c_State_clear _ hg k_o_5 hq4) d_Hat_island_4 0 qw_472 qw_209 qw_210 qw_5 qw_211 k_o_5 (by decide) rfl hd_State_clear rfl rfl (Nat.le_of_ble_eq_true rfl) ⟨rfl, rfl, Nat.le_of_ble_eq_true rfl, Nat.le_of_ble_eq_true rfl⟩ ⟨Nat.zero_le _, Nat.zero_le _⟩ ?_
  refine gw_aload_n C 0 d_Hat_island_7 rfl rfl ?_
  refine gw_getA C 13 d_Hat_island_8 k_o_0 (by decide) i_Hat rfl rfl (by decide) qw_416 rfl rfl (o + 1) rfl ?_
  refine gw_iconst C (0 : Int32) d_Hat_island_11 (by decide) ?_
  refine gw_aload_n C 0 d_Hat_island_12 rfl rfl ?_
  refine gw_getI C 1 d_Hat_island_13 k_o_0 (by decide) i_Hat rfl rfl (by decide) qw_404 rfl rfl ?_
  refine gw_sipush C (900 : Int32) d_Hat_island_16 (by decide) ?_
  obtain ⟨q19, hq19, hf0⟩ := mx_bd hf0
  refine gw_callV C (c_Reader_readText _ hg k_o_1 hq19) d_Hat_island_19 3 qw_473 qw_474 qw_475 qw_2 qw_476 k_o_1 (by decide) rfl hd_Reader_readText rfl rfl (Nat.le_of_ble_eq_true rfl) ⟨rfl, rfl, Nat.le_of_ble_eq_true rfl, Nat.le_of_ble_eq_true rfl⟩ ⟨Nat.zero_le _, Nat.zero_le _⟩ ?_
  refine gw_aload_n C 0 d_Hat_island_22 rfl rfl ?_
  obtain ⟨q23, hq23, hf0⟩ := mx_bd hf0
  refine gw_callI C (c_Hat_takeDraft _ hg k_o_0 hq23) d_Hat_island_23 0 qw_665 qw_667 qs_19 qw_1 qw_668 k_o_0 (by decide) rfl hd_Hat_takeDraft rfl rfl (Nat.le_of_ble_eq_true rfl) ⟨rfl, rfl, Nat.le_of_ble_eq_true rfl, Nat.le_of_ble_eq_true rfl⟩ ⟨Nat.zero_le _, Nat.zero_le _⟩ ?_
  exact en_i hN hf0 d_Hat_island_26

/-! NameHat.book()I -/
abbrev b_Hat_book : ByteArray := prog_1_method_7_code
def y_Hat_book : MethodName := ⟨"NameHat", "book", "()I"⟩
abbrev rm_Hat_book : Room := { frames := 12, cells := 0, slots := 0, locals := 535 }
theorem hd_Hat_book : y_Hat_book.cls ≠ "java/lang/invoke/MethodHandle" ∧ y_Hat_book.cls ≠ "java/lang/invoke/VarHandle" ∧ (parseMethodDescriptor y_Hat_book.desc).map (fun d => d.parameters.length) = some 0 := by decide +kernel
theorem d_Hat_book_0 : decode b_Hat_book 0 = .ok (.aload_n 0, 1) := by decide +kernel
theorem d_Hat_book_1 : decode b_Hat_book 1 = .ok (.getfield 31, 3) := by decide +kernel
theorem d_Hat_book_4 : decode b_Hat_book 4 = .ok (.aload_n 0, 1) := by decide +kernel
theorem d_Hat_book_5 : decode b_Hat_book 5 = .ok (.getfield 57, 3) := by decide +kernel
theorem d_Hat_book_8 : decode b_Hat_book 8 = .ok (.invokevirtual 102, 3) := by decide +kernel
theorem d_Hat_book_11 : decode b_Hat_book 11 = .ok (.aload_n 0, 1) := by decide +kernel
theorem d_Hat_book_12 : decode b_Hat_book 12 = .ok (.getfield 31, 3) := by decide +kernel
theorem d_Hat_book_15 : decode b_Hat_book 15 = .ok (.iconst 0, 1) := by decide +kernel
theorem d_Hat_book_16 : decode b_Hat_book 16 = .ok (.putfield 106, 3) := by decide +kernel
theorem d_Hat_book_19 : decode b_Hat_book 19 = .ok (.aload_n 0, 1) := by decide +kernel
theorem d_Hat_book_20 : decode b_Hat_book 20 = .ok (.getfield 10, 3) := by decide +kernel
theorem d_Hat_book_23 : decode b_Hat_book 23 = .ok (.iconst 2, 1) := by decide +kernel
theorem d_Hat_book_24 : decode b_Hat_book 24 = .ok (.aload_n 0, 1) := by decide +kernel
theorem d_Hat_book_25 : decode b_Hat_book 25 = .ok (.getfield 77, 3) := by decide +kernel
theorem d_Hat_book_28 : decode b_Hat_book 28 = .ok (.sipush 400, 3) := by decide +kernel
theorem d_Hat_book_31 : decode b_Hat_book 31 = .ok (.invokevirtual 91, 3) := by decide +kernel
theorem d_Hat_book_34 : decode b_Hat_book 34 = .ok (.aload_n 0, 1) := by decide +kernel
theorem d_Hat_book_35 : decode b_Hat_book 35 = .ok (.invokevirtual 95, 3) := by decide +kernel
theorem d_Hat_book_38 : decode b_Hat_book 38 = .ok (.ireturn, 1) := by decide +kernel
noncomputable def f_Hat_book (z : Nat → Nat) (σ : Mm) (o : Nat) : Option (Int32 × Mm) :=
  (f_State_copyFrom z σ (o + 5) (o + 60)).bind fun q8 =>
  mm_lt (kI q8 (o + 5) 7 (0 : Int32)) fun m16 =>
  (f_Reader_readText z m16 (o + 1) (2 : Int32) (m16.1 o 1) (400 : Int32)).bind fun q31 =>
  (f_Hat_takeDraft z q31 o).bind fun q35 =>
  some (q35.1, q35.2)
set_option maxHeartbeats 4000000 in
set_option maxRecDepth 100000 in
theorem c_Hat_book (l : Launch) {L : Ly} (hg : gd_ok L) {σ : Mm} {o : Nat} (k_o_0 : ly_k L o = 10) {res : Int32 × Mm} (hf0 : f_Hat_book (ly_z L) σ o = some res) : CtI l y_Hat_book b_Hat_book 1 (some .int) rm_Hat_book L [.ref (ly_a L o)] σ res.1 res.2 := by
  refine ct_i hg (by decide) (Nat.le_of_ble_eq_true rfl) ?_
  intro E A Q hE C hN
  subst hE
  have k_o_5 : ly_k L (o + 5) = 4 := gd_Hat_draft hg k_o_0
  have k_o_60 : ly_k L (o + 60) = 4 := gd_Hat_now hg k_o_0
  have k_o_1 : ly_k L (o + 1) = 9 := gd_Hat_reader hg k_o_0
  unfold f_Hat_book at hf0
  show GW E L A 1 0 0 Q σ 0 [(0, .ref (ly_a L o))] []
  refine gw_aload_n C 0 d_Hat_book_0 rfl rfl ?_
  refine gw_getA C 8 d_Hat_book_1 k_o_0 (by decide) i_Hat rfl rfl (by decide) qw_411 rfl rfl (o + 5) rfl ?_
  refine gw_aload_n C 0 d_Hat_book_4 rfl rfl ?_
  refine gw_getA C 7 d_Hat_book_5 k_o_0 (by decide) i_Hat rfl rfl (by decide) qw_410 rfl rfl (o + 60) rfl ?_
  obtain ⟨q8, hq8, hf0⟩ := mx_bd hf0
  refine gw_callV C (c_State_copyFrom _ hg k_o_5 k_o_60 hq8) d_Hat_book_8 1 qw_669 qw_670 qw_671 qw_5 qw_672 k_o_5 (by decide) rfl hd_State_copyFrom rfl rfl (Nat.le_of_ble_eq_true rfl) ⟨rfl, rfl, Nat.le_of_ble_eq_true rfl, Nat.le_of_ble_eq_true rfl⟩ ⟨Nat.zero_le _, Nat.zero_le _⟩ ?_
  refine gw_aload_n C 0 d_Hat_book_11 rfl rfl ?_
  refine gw_getA C 8 d_Hat_book_12 k_o_0 (by decide) i_Hat rfl rfl (by decide) qw_411 rfl rfl (o + 5) rfl ?_
  refine gw_iconst C (0 : Int32) d_Hat_book_15 (by decide) ?_
  obtain ⟨m16, em16, hf0⟩ := mx_lt hf0
  refine gw_putIN t_State C 7 d_Hat_book_16 k_o_5 (by decide) i_State rfl rfl (by decide) qw_253 rfl rfl t_State_ok n_State rfl (t_State_ok 7 (by decide)) rfl rfl em16 ?_
  refine gw_aload_n C 0 d_Hat_book_19 rfl rfl ?_
  refine gw_getA C 13 d_Hat_book_20 k_o_0 (by decide) i_Hat rfl rfl (by decide) qw_416 rfl rfl (o + 1) rfl ?_
  refine gw_iconst C (2 : Int32) d_Hat_book_23 (by decide) ?_
  refine gw_aload_n C 0 d_Hat_book_24 rfl rfl ?_
  refine gw_getI C 1 d_Hat_book_25 k_o_0 (by decide) i_Hat rfl rfl (by decide) qw_404 rfl rfl ?_
  refine gw_sipush C (400 : Int32) d_Hat_book_28 (by decide) ?_
  obtain ⟨q31, hq31, hf0⟩ := mx_bd hf0
  refine gw_callV C (c_Reader_readText _ hg k_o_1 hq31) d_Hat_book_31 3 qw_473 qw_474 qw_475 qw_2 qw_476 k_o_1 (by decide) rfl hd_Reader_readText rfl rfl (Nat.le_of_ble_eq_true rfl) ⟨rfl, rfl, Nat.le_of_ble_eq_true rfl, Nat.le_of_ble_eq_true rfl⟩ ⟨Nat.zero_le _, Nat.zero_le _⟩ ?_
  refine gw_aload_n C 0 d_Hat_book_34 rfl rfl ?_
  obtain ⟨q35, hq35, hf0⟩ := mx_bd hf0
  refine gw_callI C (c_Hat_takeDraft _ hg k_o_0 hq35) d_Hat_book_35 0 qw_665 qw_667 qs_19 qw_1 qw_668 k_o_0 (by decide) rfl hd_Hat_takeDraft rfl rfl (Nat.le_of_ble_eq_true rfl) ⟨rfl, rfl, Nat.le_of_ble_eq_true rfl, Nat.le_of_ble_eq_true rfl⟩ ⟨Nat.zero_le _, Nat.zero_le _⟩ ?_
  exact en_i hN hf0 d_Hat_book_38

/-! NameHat.roll()I -/
abbrev b_Hat_roll : ByteArray := prog_1_method_8_code
def y_Hat_roll : MethodName := ⟨"NameHat", "roll", "()I"⟩
abbrev rm_Hat_roll : Room := { frames := 12, cells := 0, slots := 0, locals := 535 }
theorem hd_Hat_roll : y_Hat_roll.cls ≠ "java/lang/invoke/MethodHandle" ∧ y_Hat_roll.cls ≠ "java/lang/invoke/VarHandle" ∧ (parseMethodDescriptor y_Hat_roll.desc).map (fun d => d.parameters.length) = some 0 := by decide +kernel
theorem d_Hat_roll_0 : decode b_Hat_roll 0 = .ok (.aload_n 0, 1) := by decide +kernel
theorem d_Hat_roll_1 : decode b_Hat_roll 1 = .ok (.getfield 31, 3) := by decide +kernel
theorem d_Hat_roll_4 : decode b_Hat_roll 4 = .ok (.aload_n 0, 1) := by decide +kernel
theorem d_Hat_roll_5 : decode b_Hat_roll 5 = .ok (.getfield 57, 3) := by decide +kernel
theorem d_Hat_roll_8 : decode b_Hat_roll 8 = .ok (.invokevirtual 102, 3) := by decide +kernel
theorem d_Hat_roll_11 : decode b_Hat_roll 11 = .ok (.aload_n 0, 1) := by decide +kernel
theorem d_Hat_roll_12 : decode b_Hat_roll 12 = .ok (.getfield 31, 3) := by decide +kernel
theorem d_Hat_roll_15 : decode b_Hat_roll 15 = .ok (.invokevirtual 109, 3) := by decide +kernel
theorem d_Hat_roll_18 : decode b_Hat_roll 18 = .ok (.aload_n 0, 1) := by decide +kernel
theorem d_Hat_roll_19 : decode b_Hat_roll 19 = .ok (.getfield 10, 3) := by decide +kernel
theorem d_Hat_roll_22 : decode b_Hat_roll 22 = .ok (.iconst 1, 1) := by decide +kernel
theorem d_Hat_roll_23 : decode b_Hat_roll 23 = .ok (.aload_n 0, 1) := by decide +kernel
theorem d_Hat_roll_24 : decode b_Hat_roll 24 = .ok (.getfield 77, 3) := by decide +kernel
theorem d_Hat_roll_27 : decode b_Hat_roll 27 = .ok (.sipush 400, 3) := by decide +kernel
theorem d_Hat_roll_30 : decode b_Hat_roll 30 = .ok (.invokevirtual 91, 3) := by decide +kernel
theorem d_Hat_roll_33 : decode b_Hat_roll 33 = .ok (.aload_n 0, 1) := by decide +kernel
theorem d_Hat_roll_34 : decode b_Hat_roll 34 = .ok (.invokevirtual 95, 3) := by decide +kernel
theorem d_Hat_roll_37 : decode b_Hat_roll 37 = .ok (.ireturn, 1) := by decide +kernel
noncomputable def f_Hat_roll (z : Nat → Nat) (σ : Mm) (o : Nat) : Option (Int32 × Mm) :=
  (f_State_copyFrom z σ (o + 5) (o + 60)).bind fun q8 =>
  (f_State_clearRoll z q8 (o + 5)).bind fun q15 =>
  (f_Reader_readText z q15 (o + 1) (1 : Int32) (q15.1 o 1) (400 : Int32)).bind fun q30 =>
  (f_Hat_takeDraft z q30 o).bind fun q34 =>
  some (q34.1, q34.2)
set_option maxHeartbeats 4000000 in
set_option maxRecDepth 100000 in
theorem c_Hat_roll (l : Launch) {L : Ly} (hg : gd_ok L) {σ : Mm} {o : Nat} (k_o_0 : ly_k L o = 10) {res : Int32 × Mm} (hf0 : f_Hat_roll (ly_z L) σ o = some res) : CtI l y_Hat_roll b_Hat_roll 1 (some .int) rm_Hat_roll L [.ref (ly_a L o)] σ res.1 res.2 := by
  refine ct_i hg (by decide) (Nat.le_of_ble_eq_true rfl) ?_
  intro E A Q hE C hN
  subst hE
  have k_o_5 : ly_k L (o + 5) = 4 := gd_Hat_draft hg k_o_0
  have k_o_60 : ly_k L (o + 60) = 4 := gd_Hat_now hg k_o_0
  have k_o_1 : ly_k L (o + 1) = 9 := gd_Hat_reader hg k_o_0
  unfold f_Hat_roll at hf0
  show GW E L A 1 0 0 Q σ 0 [(0, .ref (ly_a L o))] []
  refine gw_aload_n C 0 d_Hat_roll_0 rfl rfl ?_
  refine gw_getA C 8 d_Hat_roll_1 k_o_0 (by decide) i_Hat rfl rfl (by decide) qw_411 rfl rfl (o + 5) rfl ?_
  refine gw_aload_n C 0 d_Hat_roll_4 rfl rfl ?_
  refine gw_getA C 7 d_Hat_roll_5 k_o_0 (by decide) i_Hat rfl rfl (by decide) qw_410 rfl rfl (o + 60) rfl ?_
  obtain ⟨q8, hq8, hf0⟩ := mx_bd hf0
  refine gw_callV C (c_State_copyFrom _ hg k_o_5 k_o_60 hq8) d_Hat_roll_8 1 qw_669 qw_670 qw_671 qw_5 qw_672 k_o_5 (by decide) rfl hd_State_copyFrom rfl rfl (Nat.le_of_ble_eq_true rfl) ⟨rfl, rfl, Nat.le_of_ble_eq_true rfl, Nat.le_of_ble_eq_true rfl⟩ ⟨Nat.zero_le _, Nat.zero_le _⟩ ?_
  refine gw_aload_n C 0 d_Hat_roll_11 rfl rfl ?_
  refine gw_getA C 8 d_Hat_roll_12 k_o_0 (by decide) i_Hat rfl rfl (by decide) qw_411 rfl rfl (o + 5) rfl ?_
  obtain ⟨q15, hq15, hf0⟩ := mx_bd hf0
  refine gw_callV C (c_State_clearRoll _ hg k_o_5 hq15) d_Hat_roll_15 0 qw_704 qw_231 qw_232 qw_5 qw_233 k_o_5 (by decide) rfl hd_State_clearRoll rfl rfl (Nat.le_of_ble_eq_true rfl) ⟨rfl, rfl, Nat.le_of_ble_eq_true rfl, Nat.le_of_ble_eq_true rfl⟩ ⟨Nat.zero_le _, Nat.zero_le _⟩ ?_
  refine gw_aload_n C 0 d_Hat_roll_18 rfl rfl ?_
  refine gw_getA C 13 d_Hat_roll_19 k_o_0 (by decide) i_Hat rfl rfl (by decide) qw_416 rfl rfl (o + 1) rfl ?_
  refine gw_iconst C (1 : Int32) d_Hat_roll_22 (by decide) ?_
  refine gw_aload_n C 0 d_Hat_roll_23 rfl rfl ?_
  refine gw_getI C 1 d_Hat_roll_24 k_o_0 (by decide) i_Hat rfl rfl (by decide) qw_404 rfl rfl ?_
  refine gw_sipush C (400 : Int32) d_Hat_roll_27 (by decide) ?_
  obtain ⟨q30, hq30, hf0⟩ := mx_bd hf0
  refine gw_callV C (c_Reader_readText _ hg k_o_1 hq30) d_Hat_roll_30 3 qw_473 qw_474 qw_475 qw_2 qw_476 k_o_1 (by decide) rfl hd_Reader_readText rfl rfl (Nat.le_of_ble_eq_true rfl) ⟨rfl, rfl, Nat.le_of_ble_eq_true rfl, Nat.le_of_ble_eq_true rfl⟩ ⟨Nat.zero_le _, Nat.zero_le _⟩ ?_
  refine gw_aload_n C 0 d_Hat_roll_33 rfl rfl ?_
  obtain ⟨q34, hq34, hf0⟩ := mx_bd hf0
  refine gw_callI C (c_Hat_takeDraft _ hg k_o_0 hq34) d_Hat_roll_34 0 qw_665 qw_667 qs_19 qw_1 qw_668 k_o_0 (by decide) rfl hd_Hat_takeDraft rfl rfl (Nat.le_of_ble_eq_true rfl) ⟨rfl, rfl, Nat.le_of_ble_eq_true rfl, Nat.le_of_ble_eq_true rfl⟩ ⟨Nat.zero_le _, Nat.zero_le _⟩ ?_
  exact en_i hN hf0 d_Hat_roll_37
