/-! THE CLAIM OUT OF ONE WALK OF THE LAW'S BODY. Your part is whole_start (and what it stands on); all else here is the same for every law, but numbers. -/
def R_law : String := "NameHatLaw"
def lw_P (b : Addr) (xs : List Int32) (args : Array Value) (s : State) : Prop := args = #[.ref b] ∧ s.IntsAt b xs ∧ xs.length ≤ 3072 ∧ (Jvm.Cond.and given_1 narrow_1).before args s = true
def lw_Q (_ : Array Value) (s : State) (o : Outcome) (t : State) : Prop := o = .returned (some (.int 1)) ∧ Framed s o t [] 601024 7293034
def lw_Z (below : List Frame) (a : Array Value) (s : State) : State → Prop := fun t => ∃ o, t.status = .running ∧ Ended t below o ∧ lw_Q a s o t
/-- the law's own end, with 1 on the stack, nothing written that was there before, its room as the claim has it -/
theorem lw_ret {p : Program} {l : Launch} {e : Env} {s : State} {m : MethodId} {below : List Frame} {meth : Method} {c : Code} {b : Nat} (hx : p.tables.exec = Jvm.exec) (hb : c.code = code) (hr : meth.sig.returnType = ret) (hlocks : meth.locks = false) {pc : Nat} {H : Heap} {ls : Array Slot} (hdg : decode code pc = .ok (.ireturn, 1)) : W p l e room_1 s m #[Value.ref b] below meth c H [] 601024 7293034 (lw_Z below #[Value.ref b] s) (F0 m pc ls [.int 1]) := by
  intro T hT X
  obtain ⟨fs, hret, hrun, hended, hW, hframe⟩ := X.leave (v := some (.int 1)) (hlocks := hlocks) (fun h => by rw [hr] at h; cases h)
  have hmeth' : T.vm.method? m = some meth := X.method'
  refine ⟨T.setFrames fs, ?_, .returned (some (.int 1)), hrun, hended, rfl, ⟨_, rfl⟩, hW, hframe⟩
  jvm_step X.here [X.here.top, hx, hb, hdg, hmeth', hr, ret, narrow_b1]
  (try refine ⟨rfl, ?_⟩); (try refine ⟨rfl, ?_⟩)
  first | (intro acts; rw [hret _ acts rfl rfl rfl]) | rw [hret _ _ rfl rfl rfl]
  exact Steps.refl _
/-- what holds at the law's entry: the machine, the code, the tables' words (any of lw_tbl by 'hts w (by decide +kernel)'), the script of L ints xs at the cell b, what the Statement gives of the start (any of its parts by flat_of_before) -/
def lw_At (p : Program) (s : State) (m : MethodId) (meth : Method) (c : Code) (b L : Nat) (xs : Nat → Int32) : Prop :=
  p.tables.exec = Jvm.exec ∧ c.code = code ∧ meth.sig.returnType = ret ∧ c.maxLocals = 8 ∧ s.vm.findClass R_law = some m.cls ∧ (∀ w ∈ lw_tbl, w.before #[Value.ref b] s = true) ∧ va_X b L xs s s.heap ∧ b < s.heap.size ∧ meth.locks = false ∧ (Jvm.Cond.and given_1 narrow_1).before #[Value.ref b] s = true

theorem qw_991 : Cond.codeWith ⟨"NameHatLaw", "surname", "(LNameHat;II[J)I"⟩ method_3_code 5 (Option.some FieldType.int) [(0, 10, 13, 13)] ∈ tb_G := tb_mem 991 (by decide +kernel) rfl
theorem qw_1065 : Cond.codeWith ⟨"NameHatLaw", "house", "(LNameHat;II[J)I"⟩ method_4_code 5 (Option.some FieldType.int) [(0, 10, 13, 13)] ∈ tb_G := tb_mem 1065 (by decide +kernel) rfl
theorem qw_1073 : Cond.codeWith ⟨"NameHatLaw", "value", "(LNameHat;II[J)I"⟩ method_5_code 5 (Option.some FieldType.int) [(0, 10, 13, 13)] ∈ tb_G := tb_mem 1073 (by decide +kernel) rfl
theorem qw_1081 : Cond.codeWith ⟨"NameHatLaw", "waiting", "(LNameHat;II[J)I"⟩ method_6_code 5 (Option.some FieldType.int) [(0, 10, 13, 13)] ∈ tb_G := tb_mem 1081 (by decide +kernel) rfl
theorem qw_1095 : Cond.codeWith ⟨"NameHatLaw", "wedding", "(LNameHat;IIII[J)I"⟩ method_7_code 7 (Option.some FieldType.int) [(0, 14, 17, 13)] ∈ tb_G := tb_mem 1095 (by decide +kernel) rfl
theorem qw_1120 : Cond.codeWith ⟨"NameHatLaw", "luck", "(LNameHat;III[J)I"⟩ method_8_code 6 (Option.some FieldType.int) [(0, 11, 14, 13)] ∈ tb_G := tb_mem 1120 (by decide +kernel) rfl
section SCR
variable {E : Fx} {L : Ly} {A : Nat → Prop} {cc : ByteArray} {nL cs sl : Nat} {own : String} {ret' : Option FieldType} {rm : Room} {Q : State → Prop} {σ : Mm} {pc : Nat} {lv : List (Nat × Value)} {st : List Value} {b n : Nat} {xs : Nat → Int32}
theorem gw_slen (C : Cx E L A cc nL own ret' rm) (hX : va_X b n xs (fx_s E) (fx_s E).heap) (hbl : b < (fx_s E).heap.size) (hbA : ¬ A b) (d : decode cc pc = .ok (.arraylength, 1)) (k : GW E L A nL cs sl Q σ (pc + 1) lv (.int (nI n) :: st)) : GW E L A nL cs sl Q σ pc lv (.ref b :: st) := fun H locs ls hP hS hl => va_slen (cx_x C) (cx_c C) hX hbl hbA hS d (k H locs ls hP hS hl)
theorem gw_sld {i : Int32} (C : Cx E L A cc nL own ret' rm) (hX : va_X b n xs (fx_s E) (fx_s E).heap) (hbl : b < (fx_s E).heap.size) (hbA : ¬ A b) (d : decode cc pc = .ok (.iaload, 1)) (hin : vp_in i n) (k : GW E L A nL cs sl Q σ (pc + 1) lv (.int (xs i.toNatClampNeg) :: st)) : GW E L A nL cs sl Q σ pc lv (.int i :: .ref b :: st) := fun H locs ls hP hS hl => va_sld (cx_x C) (cx_c C) hX hbl hbA hS hin d (k H locs ls hP hS hl)
end SCR
def lw_cs (i : Int32) : Nat := 191 + i.toNatClampNeg
def lw_sl (i : Int32) : Nat := 10000 + 6 * i.toNatClampNeg
theorem lw_more {i x : Int32} {n : Nat} (hn : n ≤ 3072) (g : vp_in i n) (ex : x = i + (6 : Int32)) : x.toNatClampNeg ≤ 3078 ∧ (lw_cs i ≤ lw_cs x ∧ lw_sl i ≤ lw_sl x) ∧ (lw_cs i + 1 ≤ lw_cs x ∧ lw_sl i + 6 ≤ lw_sl x) := by
  obtain ⟨j, hj, rfl⟩ := vp_in_of g (by omega)
  have e6 : nI j + (6 : Int32) = nI (j + 6) := nI_add j 6
  rw [e6] at ex
  subst ex
  unfold lw_cs lw_sl
  rw [nI_clamp (by omega), nI_clamp (by omega)]
  omega
theorem lw_room {i : Int32} (h : i.toNatClampNeg ≤ 3078) : (lw_cs i ≤ room_1.cells ∧ lw_sl i ≤ room_1.slots) ∧ (lw_cs i + 1 ≤ room_1.cells ∧ lw_sl i + 6 ≤ room_1.slots) := by
  have h1 : room_1.cells = 601024 := rfl
  have h2 : room_1.slots = 7293034 := rfl
  rw [h1, h2]
  unfold lw_cs lw_sl
  omega
noncomputable def f_Law_L (z : Nat → Nat) (xs : Nat → Int32) (n : Nat) (s23 : Int32 × Mm) : Option ((Int32 × Mm) ⊕ (Int32 ⊕ Unit)) :=
  if ((nI n) - (6 : Int32)) < s23.1 then (
    some (.inr (.inr ()))
  ) else (
    (mm_ldI xs n s23.1).bind fun x36 =>
    mm_lt ((x36 &&& (63 : Int32))) fun x40 =>
    if x40 = (0 : Int32) then (
      (mm_ldI xs n (s23.1 + (1 : Int32))).bind fun x206 =>
      (mm_ldI xs n (s23.1 + (2 : Int32))).bind fun x212 =>
      (mm_ldI xs n (s23.1 + (3 : Int32))).bind fun x218 =>
      (mm_ldI xs n (s23.1 + (4 : Int32))).bind fun x224 =>
      (mm_ldI xs n (s23.1 + (5 : Int32))).bind fun x230 =>
      (f_Hat_feed z s23.2 0 x206 x212 x218 x224 x230).bind fun q231 =>
      (mm_ldI xs n (s23.1 + (1 : Int32))).bind fun x240 =>
      (mm_ldI xs n (s23.1 + (2 : Int32))).bind fun x246 =>
      (mm_ldI xs n (s23.1 + (3 : Int32))).bind fun x252 =>
      (mm_ldI xs n (s23.1 + (4 : Int32))).bind fun x258 =>
      (mm_ldI xs n (s23.1 + (5 : Int32))).bind fun x264 =>
      (f_Mod_feed z q231.2 169 x240 x246 x252 x258 x264).bind fun q265 =>
      if q231.1 = q265.1 then (
        mm_lt (s23.1 + (6 : Int32)) fun x1381 =>
        some (.inl (x1381, q265.2))
      ) else (
        some (.inr (.inl (0 : Int32)))
      )
    ) else (
    if x40 = (1 : Int32) then (
      (mm_ldI xs n (s23.1 + (1 : Int32))).bind fun x279 =>
      (f_Hat_end z s23.2 0 x279).bind fun q280 =>
      (mm_ldI xs n (s23.1 + (1 : Int32))).bind fun x289 =>
      (f_Mod_end z q280.2 169 x289).bind fun q290 =>
      if q280.1 = q290.1 then (
        mm_lt (s23.1 + (6 : Int32)) fun x1381 =>
        some (.inl (x1381, q290.2))
      ) else (
        some (.inr (.inl (0 : Int32)))
      )
    ) else (
    if x40 = (2 : Int32) then (
      (f_Hat_island z s23.2 0).bind fun q299 =>
      (f_Mod_island z q299.2 169).bind fun q303 =>
      if q299.1 = q303.1 then (
        mm_lt (s23.1 + (6 : Int32)) fun x1381 =>
        some (.inl (x1381, q303.2))
      ) else (
        some (.inr (.inl (0 : Int32)))
      )
    ) else (
    if x40 = (3 : Int32) then (
      (f_Hat_fault z s23.2 0).bind fun q312 =>
      (f_Mod_fault z s23.2 169).bind fun q316 =>
      if q312 = q316.1 then (
        mm_lt (s23.1 + (6 : Int32)) fun x1381 =>
        some (.inl (x1381, q316.2))
      ) else (
        some (.inr (.inl (0 : Int32)))
      )
    ) else (
    if x40 = (4 : Int32) then (
      (mm_ldI xs n (s23.1 + (1 : Int32))).bind fun x330 =>
      (mm_ldI xs n (s23.1 + (2 : Int32))).bind fun x336 =>
      (f_Law_surname z s23.2 0 x330 x336 190).bind fun q338 =>
      (mm_ldI xs n (s23.1 + (1 : Int32))).bind fun x349 =>
      (mm_ldI xs n (s23.1 + (2 : Int32))).bind fun x355 =>
      (f_Mod_surname z q338.2 169 x349 x355).bind fun q356 =>
      (f_Mod_thrown z q356.2 169).bind fun q362 =>
      if q362 = q338.1 then (
        if q338.1 = 0 then (
          (mm_ldL (q356.2.2 190) (z 190) (0 : Int32)).bind fun x379 =>
          if (lg_cmp x379 (Int32.toInt64 q356.1)) = 0 then (
            mm_lt (s23.1 + (6 : Int32)) fun x1381 =>
            some (.inl (x1381, q356.2))
          ) else (
            some (.inr (.inl (0 : Int32)))
          )
        ) else (
          mm_lt (s23.1 + (6 : Int32)) fun x1381 =>
          some (.inl (x1381, q356.2))
        )
      ) else (
        some (.inr (.inl (0 : Int32)))
      )
    ) else (
    if x40 = (5 : Int32) then (
      (mm_ldI xs n (s23.1 + (1 : Int32))).bind fun x398 =>
      (mm_ldI xs n (s23.1 + (2 : Int32))).bind fun x404 =>
      (f_Law_house z s23.2 0 x398 x404 190).bind fun q406 =>
      (mm_ldI xs n (s23.1 + (1 : Int32))).bind fun x417 =>
      (mm_ldI xs n (s23.1 + (2 : Int32))).bind fun x423 =>
      (f_Mod_house z q406.2 169 x417 x423).bind fun q424 =>
      (f_Mod_thrown z q424.2 169).bind fun q430 =>
      if q430 = q406.1 then (
        if q406.1 = 0 then (
          (mm_ldL (q424.2.2 190) (z 190) (0 : Int32)).bind fun x447 =>
          if (lg_cmp x447 (Int32.toInt64 q424.1)) = 0 then (
            mm_lt (s23.1 + (6 : Int32)) fun x1381 =>
            some (.inl (x1381, q424.2))
          ) else (
            some (.inr (.inl (0 : Int32)))
          )
        ) else (
          mm_lt (s23.1 + (6 : Int32)) fun x1381 =>
          some (.inl (x1381, q424.2))
        )
      ) else (
        some (.inr (.inl (0 : Int32)))
      )
    ) else (
    if x40 = (6 : Int32) then (
      (mm_ldI xs n (s23.1 + (1 : Int32))).bind fun x466 =>
      (mm_ldI xs n (s23.1 + (2 : Int32))).bind fun x472 =>
      (f_Law_value z s23.2 0 x466 x472 190).bind fun q474 =>
      (mm_ldI xs n (s23.1 + (1 : Int32))).bind fun x485 =>
      (mm_ldI xs n (s23.1 + (2 : Int32))).bind fun x491 =>
      (f_Mod_value z q474.2 169 x485 x491).bind fun q492 =>
      (f_Mod_thrown z q492.2 169).bind fun q498 =>
      if q498 = q474.1 then (
        if q474.1 = 0 then (
          (mm_ldL (q492.2.2 190) (z 190) (0 : Int32)).bind fun x515 =>
          if (lg_cmp x515 (Int32.toInt64 q492.1)) = 0 then (
            mm_lt (s23.1 + (6 : Int32)) fun x1381 =>
            some (.inl (x1381, q492.2))
          ) else (
            some (.inr (.inl (0 : Int32)))
          )
        ) else (
          mm_lt (s23.1 + (6 : Int32)) fun x1381 =>
          some (.inl (x1381, q492.2))
        )
      ) else (
        some (.inr (.inl (0 : Int32)))
      )
    ) else (
    if x40 = (7 : Int32) then (
      (mm_ldI xs n (s23.1 + (1 : Int32))).bind fun x534 =>
      (f_Hat_spring z s23.2 0 x534).bind fun q535 =>
      (mm_ldI xs n (s23.1 + (1 : Int32))).bind fun x544 =>
      (f_Mod_spring z q535.2 169 x544).bind fun q545 =>
      if q535.1 = q545.1 then (
        mm_lt (s23.1 + (6 : Int32)) fun x1381 =>
        some (.inl (x1381, q545.2))
      ) else (
        some (.inr (.inl (0 : Int32)))
      )
    ) else (
    if x40 = (8 : Int32) then (
      (mm_ldI xs n (s23.1 + (1 : Int32))).bind fun x559 =>
      (mm_ldI xs n (s23.1 + (2 : Int32))).bind fun x565 =>
      (f_Hat_held z s23.2 0 x559 x565).bind fun q566 =>
      (mm_ldI xs n (s23.1 + (1 : Int32))).bind fun x575 =>
      (mm_ldI xs n (s23.1 + (2 : Int32))).bind fun x581 =>
      (f_Mod_held z s23.2 169 x575 x581).bind fun q582 =>
      if q566 = q582.1 then (
        mm_lt (s23.1 + (6 : Int32)) fun x1381 =>
        some (.inl (x1381, q582.2))
      ) else (
        some (.inr (.inl (0 : Int32)))
      )
    ) else (
    if x40 = (9 : Int32) then (
      (mm_ldI xs n (s23.1 + (1 : Int32))).bind fun x596 =>
      (mm_ldI xs n (s23.1 + (2 : Int32))).bind fun x602 =>
      (f_Hat_swap z s23.2 0 x596 x602).bind fun q603 =>
      (mm_ldI xs n (s23.1 + (1 : Int32))).bind fun x612 =>
      (mm_ldI xs n (s23.1 + (2 : Int32))).bind fun x618 =>
      (f_Mod_swap z q603.2 169 x612 x618).bind fun q619 =>
      if q603.1 = q619.1 then (
        mm_lt (s23.1 + (6 : Int32)) fun x1381 =>
        some (.inl (x1381, q619.2))
      ) else (
        some (.inr (.inl (0 : Int32)))
      )
    ) else (
    if x40 = (10 : Int32) then (
      (f_Hat_ring z s23.2 0).bind fun q628 =>
      (f_Mod_ring z q628.2 169).bind fun q632 =>
      if q628.1 = q632.1 then (
        mm_lt (s23.1 + (6 : Int32)) fun x1381 =>
        some (.inl (x1381, q632.2))
      ) else (
        some (.inr (.inl (0 : Int32)))
      )
    ) else (
    if x40 = (11 : Int32) then (
      (mm_ldI xs n (s23.1 + (1 : Int32))).bind fun x646 =>
      (f_Hat_ringAt z s23.2 0 x646).bind fun q647 =>
      (mm_ldI xs n (s23.1 + (1 : Int32))).bind fun x656 =>
      (f_Mod_ringAt z s23.2 169 x656).bind fun q657 =>
      if q647 = q657.1 then (
        mm_lt (s23.1 + (6 : Int32)) fun x1381 =>
        some (.inl (x1381, q657.2))
      ) else (
        some (.inr (.inl (0 : Int32)))
      )
    ) else (
    if x40 = (12 : Int32) then (
      (f_Hat_trade z s23.2 0).bind fun q666 =>
      (f_Mod_trade z q666.2 169).bind fun q670 =>
      if q666.1 = q670.1 then (
        mm_lt (s23.1 + (6 : Int32)) fun x1381 =>
        some (.inl (x1381, q670.2))
      ) else (
        some (.inr (.inl (0 : Int32)))
      )
    ) else (
    if x40 = (13 : Int32) then (
      (f_Hat_book z s23.2 0).bind fun q679 =>
      (f_Mod_book z q679.2 169).bind fun q683 =>
      if q679.1 = q683.1 then (
        mm_lt (s23.1 + (6 : Int32)) fun x1381 =>
        some (.inl (x1381, q683.2))
      ) else (
        some (.inr (.inl (0 : Int32)))
      )
    ) else (
    if x40 = (14 : Int32) then (
      (mm_ldI xs n (s23.1 + (1 : Int32))).bind fun x697 =>
      (f_Hat_go z s23.2 0 x697).bind fun q698 =>
      (mm_ldI xs n (s23.1 + (1 : Int32))).bind fun x707 =>
      (f_Mod_go z q698.2 169 x707).bind fun q708 =>
      if q698.1 = q708.1 then (
        mm_lt (s23.1 + (6 : Int32)) fun x1381 =>
        some (.inl (x1381, q708.2))
      ) else (
        some (.inr (.inl (0 : Int32)))
      )
    ) else (
    if x40 = (15 : Int32) then (
      (mm_ldI xs n (s23.1 + (1 : Int32))).bind fun x722 =>
      (f_Hat_went z s23.2 0 x722).bind fun q723 =>
      (mm_ldI xs n (s23.1 + (1 : Int32))).bind fun x732 =>
      (f_Mod_went z s23.2 169 x732).bind fun q733 =>
      if q723 = q733.1 then (
        mm_lt (s23.1 + (6 : Int32)) fun x1381 =>
        some (.inl (x1381, q733.2))
      ) else (
        some (.inr (.inl (0 : Int32)))
      )
    ) else (
    if x40 = (16 : Int32) then (
      (mm_ldI xs n (s23.1 + (1 : Int32))).bind fun x747 =>
      (mm_ldI xs n (s23.1 + (2 : Int32))).bind fun x753 =>
      (f_Hat_keeper z s23.2 0 x747 x753).bind fun q754 =>
      (mm_ldI xs n (s23.1 + (1 : Int32))).bind fun x763 =>
      (mm_ldI xs n (s23.1 + (2 : Int32))).bind fun x769 =>
      (f_Mod_keeper z s23.2 169 x763 x769).bind fun q770 =>
      if q754 = q770.1 then (
        mm_lt (s23.1 + (6 : Int32)) fun x1381 =>
        some (.inl (x1381, q770.2))
      ) else (
        some (.inr (.inl (0 : Int32)))
      )
    ) else (
    if x40 = (17 : Int32) then (
      (mm_ldI xs n (s23.1 + (1 : Int32))).bind fun x784 =>
      (f_Hat_envy z s23.2 0 x784).bind fun q785 =>
      (mm_ldI xs n (s23.1 + (1 : Int32))).bind fun x794 =>
      (f_Mod_envy z s23.2 169 x794).bind fun q795 =>
      if q785 = q795.1 then (
        mm_lt (s23.1 + (6 : Int32)) fun x1381 =>
        some (.inl (x1381, q795.2))
      ) else (
        some (.inr (.inl (0 : Int32)))
      )
    ) else (
    if x40 = (18 : Int32) then (
      (f_Hat_worth z s23.2 0).bind fun q804 =>
      (f_Mod_worth z s23.2 169).bind fun q808 =>
      if q804 = q808.1 then (
        mm_lt (s23.1 + (6 : Int32)) fun x1381 =>
        some (.inl (x1381, q808.2))
      ) else (
        some (.inr (.inl (0 : Int32)))
      )
    ) else (
    if x40 = (19 : Int32) then (
      (mm_ldI xs n (s23.1 + (1 : Int32))).bind fun x822 =>
      (mm_ldI xs n (s23.1 + (2 : Int32))).bind fun x828 =>
      (f_Law_waiting z s23.2 0 x822 x828 190).bind fun q830 =>
      (mm_ldI xs n (s23.1 + (1 : Int32))).bind fun x841 =>
      (mm_ldI xs n (s23.1 + (2 : Int32))).bind fun x847 =>
      (f_Mod_waiting z q830.2 169 x841 x847).bind fun q848 =>
      (f_Mod_thrown z q848.2 169).bind fun q854 =>
      if q854 = q830.1 then (
        if q830.1 = 0 then (
          (mm_ldL (q848.2.2 190) (z 190) (0 : Int32)).bind fun x871 =>
          if (lg_cmp x871 (Int32.toInt64 q848.1)) = 0 then (
            mm_lt (s23.1 + (6 : Int32)) fun x1381 =>
            some (.inl (x1381, q848.2))
          ) else (
            some (.inr (.inl (0 : Int32)))
          )
        ) else (
          mm_lt (s23.1 + (6 : Int32)) fun x1381 =>
          some (.inl (x1381, q848.2))
        )
      ) else (
        some (.inr (.inl (0 : Int32)))
      )
    ) else (
    if x40 = (20 : Int32) then (
      (mm_ldI xs n (s23.1 + (1 : Int32))).bind fun x890 =>
      (mm_ldI xs n (s23.1 + (2 : Int32))).bind fun x896 =>
      (mm_ldI xs n (s23.1 + (3 : Int32))).bind fun x902 =>
      (mm_ldI xs n (s23.1 + (4 : Int32))).bind fun x908 =>
      (f_Law_wedding z s23.2 0 x890 x896 x902 x908 190).bind fun q910 =>
      (mm_ldI xs n (s23.1 + (1 : Int32))).bind fun x921 =>
      (mm_ldI xs n (s23.1 + (2 : Int32))).bind fun x927 =>
      (mm_ldI xs n (s23.1 + (3 : Int32))).bind fun x933 =>
      (mm_ldI xs n (s23.1 + (4 : Int32))).bind fun x939 =>
      (f_Mod_wedding z q910.2 169 x921 x927 x933 x939).bind fun q940 =>
      (f_Mod_thrown z q940.2 169).bind fun q946 =>
      if q946 = q910.1 then (
        if q910.1 = 0 then (
          (mm_ldL (q940.2.2 190) (z 190) (0 : Int32)).bind fun x963 =>
          if (lg_cmp x963 (Int32.toInt64 q940.1)) = 0 then (
            mm_lt (s23.1 + (6 : Int32)) fun x1381 =>
            some (.inl (x1381, q940.2))
          ) else (
            some (.inr (.inl (0 : Int32)))
          )
        ) else (
          mm_lt (s23.1 + (6 : Int32)) fun x1381 =>
          some (.inl (x1381, q940.2))
        )
      ) else (
        some (.inr (.inl (0 : Int32)))
      )
    ) else (
    if x40 = (21 : Int32) then (
      (f_Hat_broken z s23.2 0).bind fun q977 =>
      (f_Mod_broken z s23.2 169).bind fun q981 =>
      if q977 = q981.1 then (
        mm_lt (s23.1 + (6 : Int32)) fun x1381 =>
        some (.inl (x1381, q981.2))
      ) else (
        some (.inr (.inl (0 : Int32)))
      )
    ) else (
    if x40 = (22 : Int32) then (
      (f_Hat_seats z s23.2 0).bind fun q990 =>
      (f_Mod_seats z q990.2 169).bind fun q994 =>
      if q990.1 = q994.1 then (
        mm_lt (s23.1 + (6 : Int32)) fun x1381 =>
        some (.inl (x1381, q994.2))
      ) else (
        some (.inr (.inl (0 : Int32)))
      )
    ) else (
    if x40 = (23 : Int32) then (
      (mm_ldI xs n (s23.1 + (1 : Int32))).bind fun x1008 =>
      (f_Hat_seatOf z s23.2 0 x1008).bind fun q1009 =>
      (mm_ldI xs n (s23.1 + (1 : Int32))).bind fun x1018 =>
      (f_Mod_seatOf z s23.2 169 x1018).bind fun q1019 =>
      if q1009 = q1019.1 then (
        mm_lt (s23.1 + (6 : Int32)) fun x1381 =>
        some (.inl (x1381, q1019.2))
      ) else (
        some (.inr (.inl (0 : Int32)))
      )
    ) else (
    if x40 = (24 : Int32) then (
      (f_Hat_sit z s23.2 0).bind fun q1028 =>
      (f_Mod_sit z q1028.2 169).bind fun q1032 =>
      if q1028.1 = q1032.1 then (
        mm_lt (s23.1 + (6 : Int32)) fun x1381 =>
        some (.inl (x1381, q1032.2))
      ) else (
        some (.inr (.inl (0 : Int32)))
      )
    ) else (
    if x40 = (25 : Int32) then (
      (f_Hat_roll z s23.2 0).bind fun q1041 =>
      (f_Mod_roll z q1041.2 169).bind fun q1045 =>
      if q1041.1 = q1045.1 then (
        mm_lt (s23.1 + (6 : Int32)) fun x1381 =>
        some (.inl (x1381, q1045.2))
      ) else (
        some (.inr (.inl (0 : Int32)))
      )
    ) else (
    if x40 = (26 : Int32) then (
      (f_Hat_dealings z s23.2 0).bind fun q1054 =>
      (f_Mod_dealings z q1054.2 169).bind fun q1058 =>
      if q1054.1 = q1058.1 then (
        mm_lt (s23.1 + (6 : Int32)) fun x1381 =>
        some (.inl (x1381, q1058.2))
      ) else (
        some (.inr (.inl (0 : Int32)))
      )
    ) else (
    if x40 = (27 : Int32) then (
      (mm_ldI xs n (s23.1 + (1 : Int32))).bind fun x1072 =>
      (mm_ldI xs n (s23.1 + (2 : Int32))).bind fun x1078 =>
      (f_Hat_dealt z s23.2 0 x1072 x1078).bind fun q1079 =>
      (mm_ldI xs n (s23.1 + (1 : Int32))).bind fun x1088 =>
      (mm_ldI xs n (s23.1 + (2 : Int32))).bind fun x1094 =>
      (f_Mod_dealt z q1079.2 169 x1088 x1094).bind fun q1095 =>
      if q1079.1 = q1095.1 then (
        mm_lt (s23.1 + (6 : Int32)) fun x1381 =>
        some (.inl (x1381, q1095.2))
      ) else (
        some (.inr (.inl (0 : Int32)))
      )
    ) else (
    if x40 = (28 : Int32) then (
      (mm_ldI xs n (s23.1 + (1 : Int32))).bind fun x1109 =>
      (f_Hat_could z s23.2 0 x1109).bind fun q1110 =>
      (mm_ldI xs n (s23.1 + (1 : Int32))).bind fun x1119 =>
      (f_Mod_could z q1110.2 169 x1119).bind fun q1120 =>
      if q1110.1 = q1120.1 then (
        mm_lt (s23.1 + (6 : Int32)) fun x1381 =>
        some (.inl (x1381, q1120.2))
      ) else (
        some (.inr (.inl (0 : Int32)))
      )
    ) else (
    if x40 = (29 : Int32) then (
      (f_Hat_grave z s23.2 0).bind fun q1129 =>
      (f_Mod_grave z q1129.2 169).bind fun q1133 =>
      if q1129.1 = q1133.1 then (
        mm_lt (s23.1 + (6 : Int32)) fun x1381 =>
        some (.inl (x1381, q1133.2))
      ) else (
        some (.inr (.inl (0 : Int32)))
      )
    ) else (
    if x40 = (30 : Int32) then (
      (mm_ldI xs n (s23.1 + (1 : Int32))).bind fun x1147 =>
      (f_Hat_lapsed z s23.2 0 x1147).bind fun q1148 =>
      (mm_ldI xs n (s23.1 + (1 : Int32))).bind fun x1157 =>
      (f_Mod_lapsed z s23.2 169 x1157).bind fun q1158 =>
      if q1148 = q1158.1 then (
        mm_lt (s23.1 + (6 : Int32)) fun x1381 =>
        some (.inl (x1381, q1158.2))
      ) else (
        some (.inr (.inl (0 : Int32)))
      )
    ) else (
    if x40 = (31 : Int32) then (
      (mm_ldI xs n (s23.1 + (1 : Int32))).bind fun x1172 =>
      (mm_ldI xs n (s23.1 + (2 : Int32))).bind fun x1178 =>
      (mm_ldI xs n (s23.1 + (3 : Int32))).bind fun x1184 =>
      (f_Law_luck z s23.2 0 x1172 x1178 x1184 190).bind fun q1186 =>
      (mm_ldI xs n (s23.1 + (1 : Int32))).bind fun x1197 =>
      (mm_ldI xs n (s23.1 + (2 : Int32))).bind fun x1203 =>
      (mm_ldI xs n (s23.1 + (3 : Int32))).bind fun x1209 =>
      (f_Mod_luck z q1186.2 169 x1197 x1203 x1209).bind fun q1210 =>
      (f_Mod_thrown z q1210.2 169).bind fun q1216 =>
      if q1216 = q1186.1 then (
        if q1186.1 = 0 then (
          (mm_ldL (q1210.2.2 190) (z 190) (0 : Int32)).bind fun x1233 =>
          if (lg_cmp x1233 q1210.1) = 0 then (
            mm_lt (s23.1 + (6 : Int32)) fun x1381 =>
            some (.inl (x1381, q1210.2))
          ) else (
            some (.inr (.inl (0 : Int32)))
          )
        ) else (
          mm_lt (s23.1 + (6 : Int32)) fun x1381 =>
          some (.inl (x1381, q1210.2))
        )
      ) else (
        some (.inr (.inl (0 : Int32)))
      )
    ) else (
    if x40 = (32 : Int32) then (
      (mm_ldI xs n (s23.1 + (1 : Int32))).bind fun x1251 =>
      (mm_ldI xs n (s23.1 + (2 : Int32))).bind fun x1257 =>
      (mm_ldI xs n (s23.1 + (3 : Int32))).bind fun x1263 =>
      (mm_ldI xs n (s23.1 + (4 : Int32))).bind fun x1269 =>
      (f_Hat_unfair z s23.2 0 x1251 x1257 x1263 x1269).bind fun q1270 =>
      (mm_ldI xs n (s23.1 + (1 : Int32))).bind fun x1279 =>
      (mm_ldI xs n (s23.1 + (2 : Int32))).bind fun x1285 =>
      (mm_ldI xs n (s23.1 + (3 : Int32))).bind fun x1291 =>
      (mm_ldI xs n (s23.1 + (4 : Int32))).bind fun x1297 =>
      (f_Mod_unfair z q1270.2 169 x1279 x1285 x1291 x1297).bind fun q1298 =>
      if q1270.1 = q1298.1 then (
        mm_lt (s23.1 + (6 : Int32)) fun x1381 =>
        some (.inl (x1381, q1298.2))
      ) else (
        some (.inr (.inl (0 : Int32)))
      )
    ) else (
    if x40 = (33 : Int32) then (
      (mm_ldI xs n (s23.1 + (1 : Int32))).bind fun x1312 =>
      (f_Hat_image z s23.2 0 x1312).bind fun q1313 =>
      (mm_ldI xs n (s23.1 + (1 : Int32))).bind fun x1322 =>
      (f_Mod_image z q1313.2 169 x1322).bind fun q1323 =>
      if q1313.1 = q1323.1 then (
        mm_lt (s23.1 + (6 : Int32)) fun x1381 =>
        some (.inl (x1381, q1323.2))
      ) else (
        some (.inr (.inl (0 : Int32)))
      )
    ) else (
    if x40 = (34 : Int32) then (
      (mm_ldI xs n (s23.1 + (1 : Int32))).bind fun x1337 =>
      (f_Hat_restore z s23.2 0 x1337).bind fun q1338 =>
      (mm_ldI xs n (s23.1 + (1 : Int32))).bind fun x1347 =>
      (f_Mod_restore z q1338.2 169 x1347).bind fun q1348 =>
      if q1338.1 = q1348.1 then (
        mm_lt (s23.1 + (6 : Int32)) fun x1381 =>
        some (.inl (x1381, q1348.2))
      ) else (
        some (.inr (.inl (0 : Int32)))
      )
    ) else (
    if x40 = (35 : Int32) then (
      (mm_ldI xs n (s23.1 + (1 : Int32))).bind fun x1362 =>
      (f_Hat_count z s23.2 0 x1362).bind fun q1363 =>
      (mm_ldI xs n (s23.1 + (1 : Int32))).bind fun x1372 =>
      (f_Mod_count z s23.2 169 x1372).bind fun q1373 =>
      if q1363 = q1373.1 then (
        mm_lt (s23.1 + (6 : Int32)) fun x1381 =>
        some (.inl (x1381, q1373.2))
      ) else (
        some (.inr (.inl (0 : Int32)))
      )
    ) else (
      mm_lt (s23.1 + (6 : Int32)) fun x1381 =>
      some (.inl (x1381, s23.2))
    ))))))))))))))))))))))))))))))))))))
  )
/-- the law's loop: every call of the script, both objects side by side -/
noncomputable def f_law (z : Nat → Nat) (xs : Nat → Int32) (n : Nat) (σ : Mm) : Option Int32 := (mm_lp (f_Law_L z xs n) ((0 : Int32), σ)).bind (Sum.elim (fun r => some r) (fun _ => some (1 : Int32)))
set_option maxHeartbeats 20000000 in
set_option maxRecDepth 100000 in
theorem law_loop {E : Fx} {L : Ly} {A : Nat → Prop} {Q : State → Prop} {b n : Nat} {xs : Nat → Int32} (hl : (fx_l E).stackTraces = false) (C : Cx E L A code 8 "NameHatLaw" ret room_1) (hX : ex_ok A (fx_s E) (fx_s E).heap) (hXs : va_X b n xs (fx_s E) (fx_s E).heap) (hbl : b < (fx_s E).heap.size) (hbA : ¬ A b) (hn : n ≤ 3072) (k_0_0 : ly_k L 0 = 10) (k_169_0 : ly_k L 169 = 11) (k_190_0 : ly_k L 190 = 21) {σ : Mm} (hf0 : f_law (ly_z L) xs n σ = some 1)
    (hN : ∀ (σ' : Mm) pc lv, decode code pc = .ok (.ireturn, 1) → GW E L A 8 601024 7293034 Q σ' pc lv [.int 1]) : GW E L A 8 (lw_cs 0) (lw_sl 0) Q σ 23 [(0, .ref b), (1, .ref (ly_a L 0)), (2, .ref (ly_a L 169)), (3, .ref (ly_a L 190)), (4, .int 0)] [] := by
  have hg := cx_g C
  unfold f_law at hf0
  obtain ⟨q23, hq23, hf0⟩ := mx_bd hf0
  have hk23 : ∀ (σ' : Mm) (lv : List (Nat × Value)), GW E L A 8 601024 7293034 Q σ' 1387 lv [] := by
    intro σ' lv
    refine gw_iconst C (1 : Int32) d_Law_law_1387 (by decide) ?_
    exact hN _ _ _ d_Law_law_1388
  have key := mm_rule hq23 (P := fun (s23 : Int32 × Mm) => s23.1.toNatClampNeg ≤ 3078 → GW E L A 8 (lw_cs s23.1) (lw_sl s23.1) Q s23.2 23 [(0, .ref b), (1, .ref (ly_a L 0)), (2, .ref (ly_a L 169)), (3, .ref (ly_a L 190)), (4, .int s23.1)] []) ?_
  · exact key (show (0 : Int32).toNatClampNeg ≤ 3078 by decide)
  intro s23 ih23 hx23 ⟨w23, hb23⟩ hB0
  obtain ⟨hA0, hA1⟩ := lw_room hB0
  show GW E L A 8 (lw_cs s23.1) (lw_sl s23.1) Q s23.2 23 [(0, .ref b), (1, .ref (ly_a L 0)), (2, .ref (ly_a L 169)), (3, .ref (ly_a L 190)), (4, .int s23.1)] []
  have hf1 := hb23
  unfold f_Law_L at hf1
  refine gw_iload C 4 d_Law_law_23 rfl ?_
  refine gw_aload_n C 0 d_Law_law_25 rfl rfl ?_
  refine gw_slen C hXs hbl hbA d_Law_law_26 ?_
  refine gw_bipush C (6 : Int32) d_Law_law_27 (by decide) ?_
  refine gw_isub C d_Law_law_29 ?_
  refine gw_icmp_gt C 1387 d_Law_law_30 (by decide) (fun hc => ?_) (fun hc => ?_)
  · replace hf1 := mx_t hc hf1
    exact gw_widen hA0.1 hA0.2 (gw_go [] (hk23 _ _) rfl)
  · replace hf1 := mx_f hc hf1
    refine gw_aload_n C 0 d_Law_law_33 rfl rfl ?_
    refine gw_iload C 4 d_Law_law_34 rfl ?_
    obtain ⟨x36, hx36, hf1⟩ := mx_bd hf1
    obtain ⟨gx36, ex36⟩ := mx_ldI hx36
    refine gw_sld C hXs hbl hbA d_Law_law_36 gx36 ?_
    refine gw_topi ex36 ?_
    refine gw_bipush C (63 : Int32) d_Law_law_37 (by decide) ?_
    refine gw_iand C d_Law_law_39 ?_
    obtain ⟨x40, ex40, hf1⟩ := mx_lt hf1
    refine gw_topi ex40 ?_
    by_cases hc0 : x40 = (0 : Int32)
    · replace hf1 := mx_t hc0 hf1
      refine gw_tabEq (off := 160) C 200 hc0 d_Law_law_40 (by decide) (by decide) (by decide) (by decide) ?_
      refine gw_aload_n C 1 d_Law_law_200 rfl rfl ?_
      refine gw_aload_n C 0 d_Law_law_201 rfl rfl ?_
      refine gw_iload C 4 d_Law_law_202 rfl ?_
      refine gw_iconst C (1 : Int32) d_Law_law_204 (by decide) ?_
      refine gw_iadd C d_Law_law_205 ?_
      obtain ⟨x206, hx206, hf1⟩ := mx_bd hf1
      obtain ⟨gx206, ex206⟩ := mx_ldI hx206
      refine gw_sld C hXs hbl hbA d_Law_law_206 gx206 ?_
      refine gw_topi ex206 ?_
      refine gw_aload_n C 0 d_Law_law_207 rfl rfl ?_
      refine gw_iload C 4 d_Law_law_208 rfl ?_
      refine gw_iconst C (2 : Int32) d_Law_law_210 (by decide) ?_
      refine gw_iadd C d_Law_law_211 ?_
      obtain ⟨x212, hx212, hf1⟩ := mx_bd hf1
      obtain ⟨gx212, ex212⟩ := mx_ldI hx212
      refine gw_sld C hXs hbl hbA d_Law_law_212 gx212 ?_
      refine gw_topi ex212 ?_
      refine gw_aload_n C 0 d_Law_law_213 rfl rfl ?_
      refine gw_iload C 4 d_Law_law_214 rfl ?_
      refine gw_iconst C (3 : Int32) d_Law_law_216 (by decide) ?_
      refine gw_iadd C d_Law_law_217 ?_
      obtain ⟨x218, hx218, hf1⟩ := mx_bd hf1
      obtain ⟨gx218, ex218⟩ := mx_ldI hx218
      refine gw_sld C hXs hbl hbA d_Law_law_218 gx218 ?_
      refine gw_topi ex218 ?_
      refine gw_aload_n C 0 d_Law_law_219 rfl rfl ?_
      refine gw_iload C 4 d_Law_law_220 rfl ?_
      refine gw_iconst C (4 : Int32) d_Law_law_222 (by decide) ?_
      refine gw_iadd C d_Law_law_223 ?_
      obtain ⟨x224, hx224, hf1⟩ := mx_bd hf1
      obtain ⟨gx224, ex224⟩ := mx_ldI hx224
      refine gw_sld C hXs hbl hbA d_Law_law_224 gx224 ?_
      refine gw_topi ex224 ?_
      refine gw_aload_n C 0 d_Law_law_225 rfl rfl ?_
      refine gw_iload C 4 d_Law_law_226 rfl ?_
      refine gw_iconst C (5 : Int32) d_Law_law_228 (by decide) ?_
      refine gw_iadd C d_Law_law_229 ?_
      obtain ⟨x230, hx230, hf1⟩ := mx_bd hf1
      obtain ⟨gx230, ex230⟩ := mx_ldI hx230
      refine gw_sld C hXs hbl hbA d_Law_law_230 gx230 ?_
      refine gw_topi ex230 ?_
      obtain ⟨q231, hq231, hf1⟩ := mx_bd hf1
      refine gw_callI C (c_Hat_feed _ hg k_0_0 hq231) d_Law_law_231 5 qw_452 qw_453 qw_454 qw_1 qw_455 k_0_0 (by decide) rfl hd_Hat_feed rfl rfl (Nat.le_of_ble_eq_true rfl) ⟨rfl, rfl, Nat.le_of_ble_eq_true rfl, Nat.le_of_ble_eq_true rfl⟩ (by first | exact hA0 | exact hA1) ?_
      refine gw_aload_n C 2 d_Law_law_234 rfl rfl ?_
      refine gw_aload_n C 0 d_Law_law_235 rfl rfl ?_
      refine gw_iload C 4 d_Law_law_236 rfl ?_
      refine gw_iconst C (1 : Int32) d_Law_law_238 (by decide) ?_
      refine gw_iadd C d_Law_law_239 ?_
      obtain ⟨x240, hx240, hf1⟩ := mx_bd hf1
      obtain ⟨gx240, ex240⟩ := mx_ldI hx240
      refine gw_sld C hXs hbl hbA d_Law_law_240 gx240 ?_
      refine gw_topi ex240 ?_
      refine gw_aload_n C 0 d_Law_law_241 rfl rfl ?_
      refine gw_iload C 4 d_Law_law_242 rfl ?_
      refine gw_iconst C (2 : Int32) d_Law_law_244 (by decide) ?_
      refine gw_iadd C d_Law_law_245 ?_
      obtain ⟨x246, hx246, hf1⟩ := mx_bd hf1
      obtain ⟨gx246, ex246⟩ := mx_ldI hx246
      refine gw_sld C hXs hbl hbA d_Law_law_246 gx246 ?_
      refine gw_topi ex246 ?_
      refine gw_aload_n C 0 d_Law_law_247 rfl rfl ?_
      refine gw_iload C 4 d_Law_law_248 rfl ?_
      refine gw_iconst C (3 : Int32) d_Law_law_250 (by decide) ?_
      refine gw_iadd C d_Law_law_251 ?_
      obtain ⟨x252, hx252, hf1⟩ := mx_bd hf1
      obtain ⟨gx252, ex252⟩ := mx_ldI hx252
      refine gw_sld C hXs hbl hbA d_Law_law_252 gx252 ?_
      refine gw_topi ex252 ?_
      refine gw_aload_n C 0 d_Law_law_253 rfl rfl ?_
      refine gw_iload C 4 d_Law_law_254 rfl ?_
      refine gw_iconst C (4 : Int32) d_Law_law_256 (by decide) ?_
      refine gw_iadd C d_Law_law_257 ?_
      obtain ⟨x258, hx258, hf1⟩ := mx_bd hf1
      obtain ⟨gx258, ex258⟩ := mx_ldI hx258
      refine gw_sld C hXs hbl hbA d_Law_law_258 gx258 ?_
      refine gw_topi ex258 ?_
      refine gw_aload_n C 0 d_Law_law_259 rfl rfl ?_
      refine gw_iload C 4 d_Law_law_260 rfl ?_
      refine gw_iconst C (5 : Int32) d_Law_law_262 (by decide) ?_
      refine gw_iadd C d_Law_law_263 ?_
      obtain ⟨x264, hx264, hf1⟩ := mx_bd hf1
      obtain ⟨gx264, ex264⟩ := mx_ldI hx264
      refine gw_sld C hXs hbl hbA d_Law_law_264 gx264 ?_
      refine gw_topi ex264 ?_
      obtain ⟨q265, hq265, hf1⟩ := mx_bd hf1
      refine gw_callI C (c_Mod_feed _ hg k_169_0 hq265) d_Law_law_265 5 qw_1130 qw_1131 qw_1132 qw_12 qw_1133 k_169_0 (by decide) rfl hd_Mod_feed rfl rfl (Nat.le_of_ble_eq_true rfl) ⟨rfl, rfl, Nat.le_of_ble_eq_true rfl, Nat.le_of_ble_eq_true rfl⟩ (by first | exact hA0 | exact hA1) ?_
      refine gw_icmp_eq C 1381 d_Law_law_268 (by decide) (fun hc => ?_) (fun hc => ?_)
      · replace hf1 := mx_t hc hf1
        obtain ⟨x1381, ex1381, hf1⟩ := mx_lt hf1
        refine gw_iinc C 4 [(4, .int x1381), (0, .ref b), (1, .ref (ly_a L 0)), (2, .ref (ly_a L 169)), (3, .ref (ly_a L 190))] d_Law_law_1381 rfl (by rw [ex1381]; rfl) (by decide) rfl ?_
        refine gw_goto C 23 d_Law_law_1384 (by decide) ?_
        obtain ⟨hB1, hB2, hB3⟩ := lw_more hn gx36 ex1381
        exact gw_widen (by first | exact hB2.1 | exact hB3.1) (by first | exact hB2.2 | exact hB3.2) (gw_go [1, 2, 3, 4, 0] (ih23 (x1381, q265.2) (hb23.trans hf1.symm) hB1) rfl)
      · replace hf1 := mx_f hc hf1
        refine gw_iconst C (0 : Int32) d_Law_law_271 (by decide) ?_
        have hr23 := hx23 _ (hb23.trans hf1.symm)
        subst hr23
        replace hf0 := mx_sl hf0
        exact absurd (Option.some.inj hf0) (by decide)
    replace hf1 := mx_f hc0 hf1
    have hn0 := lv_neT hc0 (show ((0 : Int32)).toInt = 0 by decide)
    by_cases hc1 : x40 = (1 : Int32)
    · replace hf1 := mx_t hc1 hf1
      refine gw_tabEq (off := 233) C 273 hc1 d_Law_law_40 (by decide) (by decide) (by decide) (by decide) ?_
      refine gw_aload_n C 1 d_Law_law_273 rfl rfl ?_
      refine gw_aload_n C 0 d_Law_law_274 rfl rfl ?_
      refine gw_iload C 4 d_Law_law_275 rfl ?_
      refine gw_iconst C (1 : Int32) d_Law_law_277 (by decide) ?_
      refine gw_iadd C d_Law_law_278 ?_
      obtain ⟨x279, hx279, hf1⟩ := mx_bd hf1
      obtain ⟨gx279, ex279⟩ := mx_ldI hx279
      refine gw_sld C hXs hbl hbA d_Law_law_279 gx279 ?_
      refine gw_topi ex279 ?_
      obtain ⟨q280, hq280, hf1⟩ := mx_bd hf1
      refine gw_callI C (c_Hat_end _ hg k_0_0 hq280) d_Law_law_280 1 qw_464 qw_465 qw_466 qw_1 qw_467 k_0_0 (by decide) rfl hd_Hat_end rfl rfl (Nat.le_of_ble_eq_true rfl) ⟨rfl, rfl, Nat.le_of_ble_eq_true rfl, Nat.le_of_ble_eq_true rfl⟩ (by first | exact hA0 | exact hA1) ?_
      refine gw_aload_n C 2 d_Law_law_283 rfl rfl ?_
      refine gw_aload_n C 0 d_Law_law_284 rfl rfl ?_
      refine gw_iload C 4 d_Law_law_285 rfl ?_
      refine gw_iconst C (1 : Int32) d_Law_law_287 (by decide) ?_
      refine gw_iadd C d_Law_law_288 ?_
      obtain ⟨x289, hx289, hf1⟩ := mx_bd hf1
      obtain ⟨gx289, ex289⟩ := mx_ldI hx289
      refine gw_sld C hXs hbl hbA d_Law_law_289 gx289 ?_
      refine gw_topi ex289 ?_
      obtain ⟨q290, hq290, hf1⟩ := mx_bd hf1
      refine gw_callI C (c_Mod_end _ hg k_169_0 hq290) d_Law_law_290 1 qw_1139 qw_1140 qw_1141 qw_12 qw_1142 k_169_0 (by decide) rfl hd_Mod_end rfl rfl (Nat.le_of_ble_eq_true rfl) ⟨rfl, rfl, Nat.le_of_ble_eq_true rfl, Nat.le_of_ble_eq_true rfl⟩ (by first | exact hA0 | exact hA1) ?_
      refine gw_icmp_eq C 1381 d_Law_law_293 (by decide) (fun hc => ?_) (fun hc => ?_)
      · replace hf1 := mx_t hc hf1
        obtain ⟨x1381, ex1381, hf1⟩ := mx_lt hf1
        refine gw_iinc C 4 [(4, .int x1381), (0, .ref b), (1, .ref (ly_a L 0)), (2, .ref (ly_a L 169)), (3, .ref (ly_a L 190))] d_Law_law_1381 rfl (by rw [ex1381]; rfl) (by decide) rfl ?_
        refine gw_goto C 23 d_Law_law_1384 (by decide) ?_
        obtain ⟨hB1, hB2, hB3⟩ := lw_more hn gx36 ex1381
        exact gw_widen (by first | exact hB2.1 | exact hB3.1) (by first | exact hB2.2 | exact hB3.2) (gw_go [1, 2, 3, 4, 0] (ih23 (x1381, q290.2) (hb23.trans hf1.symm) hB1) rfl)
      · replace hf1 := mx_f hc hf1
        refine gw_iconst C (0 : Int32) d_Law_law_296 (by decide) ?_
        have hr23 := hx23 _ (hb23.trans hf1.symm)
        subst hr23
        replace hf0 := mx_sl hf0
        exact absurd (Option.some.inj hf0) (by decide)
    replace hf1 := mx_f hc1 hf1
    have hn1 := lv_neT hc1 (show ((1 : Int32)).toInt = 1 by decide)
    by_cases hc2 : x40 = (2 : Int32)
    · replace hf1 := mx_t hc2 hf1
      refine gw_tabEq (off := 258) C 298 hc2 d_Law_law_40 (by decide) (by decide) (by decide) (by decide) ?_
      refine gw_aload_n C 1 d_Law_law_298 rfl rfl ?_
      obtain ⟨q299, hq299, hf1⟩ := mx_bd hf1
      refine gw_callI C (c_Hat_island _ hg k_0_0 hq299) d_Law_law_299 0 qw_468 qw_469 qw_470 qw_1 qw_471 k_0_0 (by decide) rfl hd_Hat_island rfl rfl (Nat.le_of_ble_eq_true rfl) ⟨rfl, rfl, Nat.le_of_ble_eq_true rfl, Nat.le_of_ble_eq_true rfl⟩ (by first | exact hA0 | exact hA1) ?_
      refine gw_aload_n C 2 d_Law_law_302 rfl rfl ?_
      obtain ⟨q303, hq303, hf1⟩ := mx_bd hf1
      refine gw_callI C (c_Mod_island _ hg k_169_0 hq303) d_Law_law_303 0 qw_1302 qw_1303 qw_1304 qw_12 qw_1305 k_169_0 (by decide) rfl hd_Mod_island rfl rfl (Nat.le_of_ble_eq_true rfl) ⟨rfl, rfl, Nat.le_of_ble_eq_true rfl, Nat.le_of_ble_eq_true rfl⟩ (by first | exact hA0 | exact hA1) ?_
      refine gw_icmp_eq C 1381 d_Law_law_306 (by decide) (fun hc => ?_) (fun hc => ?_)
      · replace hf1 := mx_t hc hf1
        obtain ⟨x1381, ex1381, hf1⟩ := mx_lt hf1
        refine gw_iinc C 4 [(4, .int x1381), (0, .ref b), (1, .ref (ly_a L 0)), (2, .ref (ly_a L 169)), (3, .ref (ly_a L 190))] d_Law_law_1381 rfl (by rw [ex1381]; rfl) (by decide) rfl ?_
        refine gw_goto C 23 d_Law_law_1384 (by decide) ?_
        obtain ⟨hB1, hB2, hB3⟩ := lw_more hn gx36 ex1381
        exact gw_widen (by first | exact hB2.1 | exact hB3.1) (by first | exact hB2.2 | exact hB3.2) (gw_go [1, 2, 3, 4, 0] (ih23 (x1381, q303.2) (hb23.trans hf1.symm) hB1) rfl)
      · replace hf1 := mx_f hc hf1
        refine gw_iconst C (0 : Int32) d_Law_law_309 (by decide) ?_
        have hr23 := hx23 _ (hb23.trans hf1.symm)
        subst hr23
        replace hf0 := mx_sl hf0
        exact absurd (Option.some.inj hf0) (by decide)
    replace hf1 := mx_f hc2 hf1
    have hn2 := lv_neT hc2 (show ((2 : Int32)).toInt = 2 by decide)
    by_cases hc3 : x40 = (3 : Int32)
    · replace hf1 := mx_t hc3 hf1
      refine gw_tabEq (off := 271) C 311 hc3 d_Law_law_40 (by decide) (by decide) (by decide) (by decide) ?_
      refine gw_aload_n C 1 d_Law_law_311 rfl rfl ?_
      obtain ⟨q312, hq312, hf1⟩ := mx_bd hf1
      refine gw_callI C (c_Hat_fault _ hg k_0_0 hq312) d_Law_law_312 0 qw_692 qw_693 qw_694 qw_1 qw_695 k_0_0 (by decide) rfl hd_Hat_fault rfl rfl (Nat.le_of_ble_eq_true rfl) ⟨rfl, rfl, Nat.le_of_ble_eq_true rfl, Nat.le_of_ble_eq_true rfl⟩ (by first | exact hA0 | exact hA1) ?_
      refine gw_aload_n C 2 d_Law_law_315 rfl rfl ?_
      obtain ⟨q316, hq316, hf1⟩ := mx_bd hf1
      refine gw_callI C (c_Mod_fault _ hg k_169_0 hq316) d_Law_law_316 0 qw_1386 qw_1387 qw_1388 qw_12 qw_1389 k_169_0 (by decide) rfl hd_Mod_fault rfl rfl (Nat.le_of_ble_eq_true rfl) ⟨rfl, rfl, Nat.le_of_ble_eq_true rfl, Nat.le_of_ble_eq_true rfl⟩ (by first | exact hA0 | exact hA1) ?_
      refine gw_icmp_eq C 1381 d_Law_law_319 (by decide) (fun hc => ?_) (fun hc => ?_)
      · replace hf1 := mx_t hc hf1
        obtain ⟨x1381, ex1381, hf1⟩ := mx_lt hf1
        refine gw_iinc C 4 [(4, .int x1381), (0, .ref b), (1, .ref (ly_a L 0)), (2, .ref (ly_a L 169)), (3, .ref (ly_a L 190))] d_Law_law_1381 rfl (by rw [ex1381]; rfl) (by decide) rfl ?_
        refine gw_goto C 23 d_Law_law_1384 (by decide) ?_
        obtain ⟨hB1, hB2, hB3⟩ := lw_more hn gx36 ex1381
        exact gw_widen (by first | exact hB2.1 | exact hB3.1) (by first | exact hB2.2 | exact hB3.2) (gw_go [1, 2, 3, 4, 0] (ih23 (x1381, q316.2) (hb23.trans hf1.symm) hB1) rfl)
      · replace hf1 := mx_f hc hf1
        refine gw_iconst C (0 : Int32) d_Law_law_322 (by decide) ?_
        have hr23 := hx23 _ (hb23.trans hf1.symm)
        subst hr23
        replace hf0 := mx_sl hf0
        exact absurd (Option.some.inj hf0) (by decide)
    replace hf1 := mx_f hc3 hf1
    have hn3 := lv_neT hc3 (show ((3 : Int32)).toInt = 3 by decide)
    by_cases hc4 : x40 = (4 : Int32)
    · replace hf1 := mx_t hc4 hf1
      refine gw_tabEq (off := 284) C 324 hc4 d_Law_law_40 (by decide) (by decide) (by decide) (by decide) ?_
      refine gw_aload_n C 1 d_Law_law_324 rfl rfl ?_
      refine gw_aload_n C 0 d_Law_law_325 rfl rfl ?_
      refine gw_iload C 4 d_Law_law_326 rfl ?_
      refine gw_iconst C (1 : Int32) d_Law_law_328 (by decide) ?_
      refine gw_iadd C d_Law_law_329 ?_
      obtain ⟨x330, hx330, hf1⟩ := mx_bd hf1
      obtain ⟨gx330, ex330⟩ := mx_ldI hx330
      refine gw_sld C hXs hbl hbA d_Law_law_330 gx330 ?_
      refine gw_topi ex330 ?_
      refine gw_aload_n C 0 d_Law_law_331 rfl rfl ?_
      refine gw_iload C 4 d_Law_law_332 rfl ?_
      refine gw_iconst C (2 : Int32) d_Law_law_334 (by decide) ?_
      refine gw_iadd C d_Law_law_335 ?_
      obtain ⟨x336, hx336, hf1⟩ := mx_bd hf1
      obtain ⟨gx336, ex336⟩ := mx_ldI hx336
      refine gw_sld C hXs hbl hbA d_Law_law_336 gx336 ?_
      refine gw_topi ex336 ?_
      refine gw_aload_n C 3 d_Law_law_337 rfl rfl ?_
      obtain ⟨q338, hq338, hf1⟩ := mx_bd hf1
      refine gw_callW C hX (c_Law_surname _ hl hg k_0_0 k_190_0 hq338) d_Law_law_338 4 qw_989 qw_990 qw_0 qw_991 hd_Law_surname rfl rfl (Nat.le_of_ble_eq_true rfl) ⟨rfl, rfl, (Nat.le_of_ble_eq_true rfl), (Nat.le_of_ble_eq_true rfl)⟩ hA1 ?_
      refine gw_istore C [(5, .int q338.1), (0, .ref b), (1, .ref (ly_a L 0)), (2, .ref (ly_a L 169)), (3, .ref (ly_a L 190)), (4, .int s23.1)] d_Law_law_341 (by decide) rfl ?_
      refine gw_aload_n C 3 d_Law_law_343 rfl rfl ?_
      refine gw_aload_n C 1 d_Law_law_344 rfl rfl ?_
      refine gw_iload C 5 d_Law_law_345 rfl ?_
      refine gw_iconst C (1 : Int32) d_Law_law_347 (by decide) ?_
      refine gw_iadd C d_Law_law_348 ?_
      obtain ⟨x349, hx349, hf1⟩ := mx_bd hf1
      obtain ⟨gx349, ex349⟩ := mx_ldI hx349
      refine gw_sld C hXs hbl hbA d_Law_law_349 gx349 ?_
      refine gw_topi ex349 ?_
      refine gw_aload_n C 1 d_Law_law_350 rfl rfl ?_
      refine gw_iload C 5 d_Law_law_351 rfl ?_
      refine gw_iconst C (2 : Int32) d_Law_law_353 (by decide) ?_
      refine gw_iadd C d_Law_law_354 ?_
      obtain ⟨x355, hx355, hf1⟩ := mx_bd hf1
      obtain ⟨gx355, ex355⟩ := mx_ldI hx355
      refine gw_sld C hXs hbl hbA d_Law_law_355 gx355 ?_
      refine gw_topi ex355 ?_
      obtain ⟨q356, hq356, hf1⟩ := mx_bd hf1
      refine gw_callI C (c_Mod_surname _ hg k_169_0 hq356) d_Law_law_356 2 qw_1390 qw_1391 qw_1392 qw_12 qw_1393 k_169_0 (by decide) rfl hd_Mod_surname rfl rfl (Nat.le_of_ble_eq_true rfl) ⟨rfl, rfl, Nat.le_of_ble_eq_true rfl, Nat.le_of_ble_eq_true rfl⟩ (by first | exact hA0 | exact hA1) ?_
      refine gw_istore C [(6, .int q356.1), (5, .int q338.1), (0, .ref b), (1, .ref (ly_a L 0)), (2, .ref (ly_a L 169)), (3, .ref (ly_a L 190)), (4, .int s23.1)] d_Law_law_359 (by decide) rfl ?_
      refine gw_aload_n C 4 d_Law_law_361 rfl rfl ?_
      obtain ⟨q362, hq362, hf1⟩ := mx_bd hf1
      refine gw_callI C (c_Mod_thrown _ hg k_169_0 hq362) d_Law_law_362 0 qw_1126 qw_1127 qw_1128 qw_12 qw_1129 k_169_0 (by decide) rfl hd_Mod_thrown rfl rfl (Nat.le_of_ble_eq_true rfl) ⟨rfl, rfl, Nat.le_of_ble_eq_true rfl, Nat.le_of_ble_eq_true rfl⟩ (by first | exact hA0 | exact hA1) ?_
      refine gw_iload C 1 d_Law_law_365 rfl ?_
      refine gw_icmp_eq C 372 d_Law_law_367 (by decide) (fun hc => ?_) (fun hc => ?_)
      · replace hf1 := mx_t hc hf1
        refine gw_iload C 1 d_Law_law_372 rfl ?_
        refine gw_if_ne C 389 d_Law_law_374 (by decide) (fun hc => ?_) (fun hc => ?_)
        · replace hf1 := mx_f hc hf1
          refine gw_goto C 1381 d_Law_law_389 (by decide) ?_
          obtain ⟨x1381, ex1381, hf1⟩ := mx_lt hf1
          refine gw_iinc C 6 [(4, .int x1381), (6, .int q356.1), (5, .int q338.1), (0, .ref b), (1, .ref (ly_a L 0)), (2, .ref (ly_a L 169)), (3, .ref (ly_a L 190))] d_Law_law_1381 rfl (by rw [ex1381]; rfl) (by decide) rfl ?_
          refine gw_goto C 23 d_Law_law_1384 (by decide) ?_
          obtain ⟨hB1, hB2, hB3⟩ := lw_more hn gx36 ex1381
          exact gw_widen (by first | exact hB2.1 | exact hB3.1) (by first | exact hB2.2 | exact hB3.2) (gw_go [3, 4, 5, 6, 0] (ih23 (x1381, q356.2) (hb23.trans hf1.symm) hB1) rfl)
        · replace hf1 := mx_t hc hf1
          refine gw_aload_n C 5 d_Law_law_377 rfl rfl ?_
          refine gw_iconst C (0 : Int32) d_Law_law_378 (by decide) ?_
          obtain ⟨x379, hx379, hf1⟩ := mx_bd hf1
          obtain ⟨gx379, ex379⟩ := mx_ldL hx379
          refine gw_lald C d_Law_law_379 k_190_0 gx379 ex379 ?_
          refine gw_iload C 0 d_Law_law_380 rfl ?_
          refine gw_i2l C d_Law_law_382 ?_
          refine gw_lcmp C d_Law_law_383 ?_
          refine gw_if_eq C 389 d_Law_law_384 (by decide) (fun hc => ?_) (fun hc => ?_)
          · replace hf1 := mx_t hc hf1
            refine gw_goto C 1381 d_Law_law_389 (by decide) ?_
            obtain ⟨x1381, ex1381, hf1⟩ := mx_lt hf1
            refine gw_iinc C 6 [(4, .int x1381), (6, .int q356.1), (5, .int q338.1), (0, .ref b), (1, .ref (ly_a L 0)), (2, .ref (ly_a L 169)), (3, .ref (ly_a L 190))] d_Law_law_1381 rfl (by rw [ex1381]; rfl) (by decide) rfl ?_
            refine gw_goto C 23 d_Law_law_1384 (by decide) ?_
            obtain ⟨hB1, hB2, hB3⟩ := lw_more hn gx36 ex1381
            exact gw_widen (by first | exact hB2.1 | exact hB3.1) (by first | exact hB2.2 | exact hB3.2) (gw_go [3, 4, 5, 6, 0] (ih23 (x1381, q356.2) (hb23.trans hf1.symm) hB1) rfl)
          · replace hf1 := mx_f hc hf1
            refine gw_iconst C (0 : Int32) d_Law_law_387 (by decide) ?_
            have hr23 := hx23 _ (hb23.trans hf1.symm)
            subst hr23
            replace hf0 := mx_sl hf0
            exact absurd (Option.some.inj hf0) (by decide)
      · replace hf1 := mx_f hc hf1
        refine gw_iconst C (0 : Int32) d_Law_law_370 (by decide) ?_
        have hr23 := hx23 _ (hb23.trans hf1.symm)
        subst hr23
        replace hf0 := mx_sl hf0
        exact absurd (Option.some.inj hf0) (by decide)
    replace hf1 := mx_f hc4 hf1
    have hn4 := lv_neT hc4 (show ((4 : Int32)).toInt = 4 by decide)
    by_cases hc5 : x40 = (5 : Int32)
    · replace hf1 := mx_t hc5 hf1
      refine gw_tabEq (off := 352) C 392 hc5 d_Law_law_40 (by decide) (by decide) (by decide) (by decide) ?_
      refine gw_aload_n C 1 d_Law_law_392 rfl rfl ?_
      refine gw_aload_n C 0 d_Law_law_393 rfl rfl ?_
      refine gw_iload C 4 d_Law_law_394 rfl ?_
      refine gw_iconst C (1 : Int32) d_Law_law_396 (by decide) ?_
      refine gw_iadd C d_Law_law_397 ?_
      obtain ⟨x398, hx398, hf1⟩ := mx_bd hf1
      obtain ⟨gx398, ex398⟩ := mx_ldI hx398
      refine gw_sld C hXs hbl hbA d_Law_law_398 gx398 ?_
      refine gw_topi ex398 ?_
      refine gw_aload_n C 0 d_Law_law_399 rfl rfl ?_
      refine gw_iload C 4 d_Law_law_400 rfl ?_
      refine gw_iconst C (2 : Int32) d_Law_law_402 (by decide) ?_
      refine gw_iadd C d_Law_law_403 ?_
      obtain ⟨x404, hx404, hf1⟩ := mx_bd hf1
      obtain ⟨gx404, ex404⟩ := mx_ldI hx404
      refine gw_sld C hXs hbl hbA d_Law_law_404 gx404 ?_
      refine gw_topi ex404 ?_
      refine gw_aload_n C 3 d_Law_law_405 rfl rfl ?_
      obtain ⟨q406, hq406, hf1⟩ := mx_bd hf1
      refine gw_callW C hX (c_Law_house _ hl hg k_0_0 k_190_0 hq406) d_Law_law_406 4 qw_1063 qw_1064 qw_0 qw_1065 hd_Law_house rfl rfl (Nat.le_of_ble_eq_true rfl) ⟨rfl, rfl, (Nat.le_of_ble_eq_true rfl), (Nat.le_of_ble_eq_true rfl)⟩ hA1 ?_
      refine gw_istore C [(5, .int q406.1), (0, .ref b), (1, .ref (ly_a L 0)), (2, .ref (ly_a L 169)), (3, .ref (ly_a L 190)), (4, .int s23.1)] d_Law_law_409 (by decide) rfl ?_
      refine gw_aload_n C 3 d_Law_law_411 rfl rfl ?_
      refine gw_aload_n C 1 d_Law_law_412 rfl rfl ?_
      refine gw_iload C 5 d_Law_law_413 rfl ?_
      refine gw_iconst C (1 : Int32) d_Law_law_415 (by decide) ?_
      refine gw_iadd C d_Law_law_416 ?_
      obtain ⟨x417, hx417, hf1⟩ := mx_bd hf1
      obtain ⟨gx417, ex417⟩ := mx_ldI hx417
      refine gw_sld C hXs hbl hbA d_Law_law_417 gx417 ?_
      refine gw_topi ex417 ?_
      refine gw_aload_n C 1 d_Law_law_418 rfl rfl ?_
      refine gw_iload C 5 d_Law_law_419 rfl ?_
      refine gw_iconst C (2 : Int32) d_Law_law_421 (by decide) ?_
      refine gw_iadd C d_Law_law_422 ?_
      obtain ⟨x423, hx423, hf1⟩ := mx_bd hf1
      obtain ⟨gx423, ex423⟩ := mx_ldI hx423
      refine gw_sld C hXs hbl hbA d_Law_law_423 gx423 ?_
      refine gw_topi ex423 ?_
      obtain ⟨q424, hq424, hf1⟩ := mx_bd hf1
      refine gw_callI C (c_Mod_house _ hg k_169_0 hq424) d_Law_law_424 2 qw_1406 qw_1407 qw_1408 qw_12 qw_1409 k_169_0 (by decide) rfl hd_Mod_house rfl rfl (Nat.le_of_ble_eq_true rfl) ⟨rfl, rfl, Nat.le_of_ble_eq_true rfl, Nat.le_of_ble_eq_true rfl⟩ (by first | exact hA0 | exact hA1) ?_
      refine gw_istore C [(6, .int q424.1), (5, .int q406.1), (0, .ref b), (1, .ref (ly_a L 0)), (2, .ref (ly_a L 169)), (3, .ref (ly_a L 190)), (4, .int s23.1)] d_Law_law_427 (by decide) rfl ?_
      refine gw_aload_n C 4 d_Law_law_429 rfl rfl ?_
      obtain ⟨q430, hq430, hf1⟩ := mx_bd hf1
      refine gw_callI C (c_Mod_thrown _ hg k_169_0 hq430) d_Law_law_430 0 qw_1126 qw_1127 qw_1128 qw_12 qw_1129 k_169_0 (by decide) rfl hd_Mod_thrown rfl rfl (Nat.le_of_ble_eq_true rfl) ⟨rfl, rfl, Nat.le_of_ble_eq_true rfl, Nat.le_of_ble_eq_true rfl⟩ (by first | exact hA0 | exact hA1) ?_
      refine gw_iload C 1 d_Law_law_433 rfl ?_
      refine gw_icmp_eq C 440 d_Law_law_435 (by decide) (fun hc => ?_) (fun hc => ?_)
      · replace hf1 := mx_t hc hf1
        refine gw_iload C 1 d_Law_law_440 rfl ?_
        refine gw_if_ne C 457 d_Law_law_442 (by decide) (fun hc => ?_) (fun hc => ?_)
        · replace hf1 := mx_f hc hf1
          refine gw_goto C 1381 d_Law_law_457 (by decide) ?_
          obtain ⟨x1381, ex1381, hf1⟩ := mx_lt hf1
          refine gw_iinc C 6 [(4, .int x1381), (6, .int q424.1), (5, .int q406.1), (0, .ref b), (1, .ref (ly_a L 0)), (2, .ref (ly_a L 169)), (3, .ref (ly_a L 190))] d_Law_law_1381 rfl (by rw [ex1381]; rfl) (by decide) rfl ?_
          refine gw_goto C 23 d_Law_law_1384 (by decide) ?_
          obtain ⟨hB1, hB2, hB3⟩ := lw_more hn gx36 ex1381
          exact gw_widen (by first | exact hB2.1 | exact hB3.1) (by first | exact hB2.2 | exact hB3.2) (gw_go [3, 4, 5, 6, 0] (ih23 (x1381, q424.2) (hb23.trans hf1.symm) hB1) rfl)
        · replace hf1 := mx_t hc hf1
          refine gw_aload_n C 5 d_Law_law_445 rfl rfl ?_
          refine gw_iconst C (0 : Int32) d_Law_law_446 (by decide) ?_
          obtain ⟨x447, hx447, hf1⟩ := mx_bd hf1
          obtain ⟨gx447, ex447⟩ := mx_ldL hx447
          refine gw_lald C d_Law_law_447 k_190_0 gx447 ex447 ?_
          refine gw_iload C 0 d_Law_law_448 rfl ?_
          refine gw_i2l C d_Law_law_450 ?_
          refine gw_lcmp C d_Law_law_451 ?_
          refine gw_if_eq C 457 d_Law_law_452 (by decide) (fun hc => ?_) (fun hc => ?_)
          · replace hf1 := mx_t hc hf1
            refine gw_goto C 1381 d_Law_law_457 (by decide) ?_
            obtain ⟨x1381, ex1381, hf1⟩ := mx_lt hf1
            refine gw_iinc C 6 [(4, .int x1381), (6, .int q424.1), (5, .int q406.1), (0, .ref b), (1, .ref (ly_a L 0)), (2, .ref (ly_a L 169)), (3, .ref (ly_a L 190))] d_Law_law_1381 rfl (by rw [ex1381]; rfl) (by decide) rfl ?_
            refine gw_goto C 23 d_Law_law_1384 (by decide) ?_
            obtain ⟨hB1, hB2, hB3⟩ := lw_more hn gx36 ex1381
            exact gw_widen (by first | exact hB2.1 | exact hB3.1) (by first | exact hB2.2 | exact hB3.2) (gw_go [3, 4, 5, 6, 0] (ih23 (x1381, q424.2) (hb23.trans hf1.symm) hB1) rfl)
          · replace hf1 := mx_f hc hf1
            refine gw_iconst C (0 : Int32) d_Law_law_455 (by decide) ?_
            have hr23 := hx23 _ (hb23.trans hf1.symm)
            subst hr23
            replace hf0 := mx_sl hf0
            exact absurd (Option.some.inj hf0) (by decide)
      · replace hf1 := mx_f hc hf1
        refine gw_iconst C (0 : Int32) d_Law_law_438 (by decide) ?_
        have hr23 := hx23 _ (hb23.trans hf1.symm)
        subst hr23
        replace hf0 := mx_sl hf0
        exact absurd (Option.some.inj hf0) (by decide)
    replace hf1 := mx_f hc5 hf1
    have hn5 := lv_neT hc5 (show ((5 : Int32)).toInt = 5 by decide)
    by_cases hc6 : x40 = (6 : Int32)
    · replace hf1 := mx_t hc6 hf1
      refine gw_tabEq (off := 420) C 460 hc6 d_Law_law_40 (by decide) (by decide) (by decide) (by decide) ?_
      refine gw_aload_n C 1 d_Law_law_460 rfl rfl ?_
      refine gw_aload_n C 0 d_Law_law_461 rfl rfl ?_
      refine gw_iload C 4 d_Law_law_462 rfl ?_
      refine gw_iconst C (1 : Int32) d_Law_law_464 (by decide) ?_
      refine gw_iadd C d_Law_law_465 ?_
      obtain ⟨x466, hx466, hf1⟩ := mx_bd hf1
      obtain ⟨gx466, ex466⟩ := mx_ldI hx466
      refine gw_sld C hXs hbl hbA d_Law_law_466 gx466 ?_
      refine gw_topi ex466 ?_
      refine gw_aload_n C 0 d_Law_law_467 rfl rfl ?_
      refine gw_iload C 4 d_Law_law_468 rfl ?_
      refine gw_iconst C (2 : Int32) d_Law_law_470 (by decide) ?_
      refine gw_iadd C d_Law_law_471 ?_
      obtain ⟨x472, hx472, hf1⟩ := mx_bd hf1
      obtain ⟨gx472, ex472⟩ := mx_ldI hx472
      refine gw_sld C hXs hbl hbA d_Law_law_472 gx472 ?_
      refine gw_topi ex472 ?_
      refine gw_aload_n C 3 d_Law_law_473 rfl rfl ?_
      obtain ⟨q474, hq474, hf1⟩ := mx_bd hf1
      refine gw_callW C hX (c_Law_value _ hl hg k_0_0 k_190_0 hq474) d_Law_law_474 4 qw_1071 qw_1072 qw_0 qw_1073 hd_Law_value rfl rfl (Nat.le_of_ble_eq_true rfl) ⟨rfl, rfl, (Nat.le_of_ble_eq_true rfl), (Nat.le_of_ble_eq_true rfl)⟩ hA1 ?_
      refine gw_istore C [(5, .int q474.1), (0, .ref b), (1, .ref (ly_a L 0)), (2, .ref (ly_a L 169)), (3, .ref (ly_a L 190)), (4, .int s23.1)] d_Law_law_477 (by decide) rfl ?_
      refine gw_aload_n C 3 d_Law_law_479 rfl rfl ?_
      refine gw_aload_n C 1 d_Law_law_480 rfl rfl ?_
      refine gw_iload C 5 d_Law_law_481 rfl ?_
      refine gw_iconst C (1 : Int32) d_Law_law_483 (by decide) ?_
      refine gw_iadd C d_Law_law_484 ?_
      obtain ⟨x485, hx485, hf1⟩ := mx_bd hf1
      obtain ⟨gx485, ex485⟩ := mx_ldI hx485
      refine gw_sld C hXs hbl hbA d_Law_law_485 gx485 ?_
      refine gw_topi ex485 ?_
      refine gw_aload_n C 1 d_Law_law_486 rfl rfl ?_
      refine gw_iload C 5 d_Law_law_487 rfl ?_
      refine gw_iconst C (2 : Int32) d_Law_law_489 (by decide) ?_
      refine gw_iadd C d_Law_law_490 ?_
      obtain ⟨x491, hx491, hf1⟩ := mx_bd hf1
      obtain ⟨gx491, ex491⟩ := mx_ldI hx491
      refine gw_sld C hXs hbl hbA d_Law_law_491 gx491 ?_
      refine gw_topi ex491 ?_
      obtain ⟨q492, hq492, hf1⟩ := mx_bd hf1
      refine gw_callI C (c_Mod_value _ hg k_169_0 hq492) d_Law_law_492 2 qw_1414 qw_1415 qw_1416 qw_12 qw_1417 k_169_0 (by decide) rfl hd_Mod_value rfl rfl (Nat.le_of_ble_eq_true rfl) ⟨rfl, rfl, Nat.le_of_ble_eq_true rfl, Nat.le_of_ble_eq_true rfl⟩ (by first | exact hA0 | exact hA1) ?_
      refine gw_istore C [(6, .int q492.1), (5, .int q474.1), (0, .ref b), (1, .ref (ly_a L 0)), (2, .ref (ly_a L 169)), (3, .ref (ly_a L 190)), (4, .int s23.1)] d_Law_law_495 (by decide) rfl ?_
      refine gw_aload_n C 4 d_Law_law_497 rfl rfl ?_
      obtain ⟨q498, hq498, hf1⟩ := mx_bd hf1
      refine gw_callI C (c_Mod_thrown _ hg k_169_0 hq498) d_Law_law_498 0 qw_1126 qw_1127 qw_1128 qw_12 qw_1129 k_169_0 (by decide) rfl hd_Mod_thrown rfl rfl (Nat.le_of_ble_eq_true rfl) ⟨rfl, rfl, Nat.le_of_ble_eq_true rfl, Nat.le_of_ble_eq_true rfl⟩ (by first | exact hA0 | exact hA1) ?_
      refine gw_iload C 1 d_Law_law_501 rfl ?_
      refine gw_icmp_eq C 508 d_Law_law_503 (by decide) (fun hc => ?_) (fun hc => ?_)
      · replace hf1 := mx_t hc hf1
        refine gw_iload C 1 d_Law_law_508 rfl ?_
        refine gw_if_ne C 525 d_Law_law_510 (by decide) (fun hc => ?_) (fun hc => ?_)
        · replace hf1 := mx_f hc hf1
          refine gw_goto C 1381 d_Law_law_525 (by decide) ?_
          obtain ⟨x1381, ex1381, hf1⟩ := mx_lt hf1
          refine gw_iinc C 6 [(4, .int x1381), (6, .int q492.1), (5, .int q474.1), (0, .ref b), (1, .ref (ly_a L 0)), (2, .ref (ly_a L 169)), (3, .ref (ly_a L 190))] d_Law_law_1381 rfl (by rw [ex1381]; rfl) (by decide) rfl ?_
          refine gw_goto C 23 d_Law_law_1384 (by decide) ?_
          obtain ⟨hB1, hB2, hB3⟩ := lw_more hn gx36 ex1381
          exact gw_widen (by first | exact hB2.1 | exact hB3.1) (by first | exact hB2.2 | exact hB3.2) (gw_go [3, 4, 5, 6, 0] (ih23 (x1381, q492.2) (hb23.trans hf1.symm) hB1) rfl)
        · replace hf1 := mx_t hc hf1
          refine gw_aload_n C 5 d_Law_law_513 rfl rfl ?_
          refine gw_iconst C (0 : Int32) d_Law_law_514 (by decide) ?_
          obtain ⟨x515, hx515, hf1⟩ := mx_bd hf1
          obtain ⟨gx515, ex515⟩ := mx_ldL hx515
          refine gw_lald C d_Law_law_515 k_190_0 gx515 ex515 ?_
          refine gw_iload C 0 d_Law_law_516 rfl ?_
          refine gw_i2l C d_Law_law_518 ?_
          refine gw_lcmp C d_Law_law_519 ?_
          refine gw_if_eq C 525 d_Law_law_520 (by decide) (fun hc => ?_) (fun hc => ?_)
          · replace hf1 := mx_t hc hf1
            refine gw_goto C 1381 d_Law_law_525 (by decide) ?_
            obtain ⟨x1381, ex1381, hf1⟩ := mx_lt hf1
            refine gw_iinc C 6 [(4, .int x1381), (6, .int q492.1), (5, .int q474.1), (0, .ref b), (1, .ref (ly_a L 0)), (2, .ref (ly_a L 169)), (3, .ref (ly_a L 190))] d_Law_law_1381 rfl (by rw [ex1381]; rfl) (by decide) rfl ?_
            refine gw_goto C 23 d_Law_law_1384 (by decide) ?_
            obtain ⟨hB1, hB2, hB3⟩ := lw_more hn gx36 ex1381
            exact gw_widen (by first | exact hB2.1 | exact hB3.1) (by first | exact hB2.2 | exact hB3.2) (gw_go [3, 4, 5, 6, 0] (ih23 (x1381, q492.2) (hb23.trans hf1.symm) hB1) rfl)
          · replace hf1 := mx_f hc hf1
            refine gw_iconst C (0 : Int32) d_Law_law_523 (by decide) ?_
            have hr23 := hx23 _ (hb23.trans hf1.symm)
            subst hr23
            replace hf0 := mx_sl hf0
            exact absurd (Option.some.inj hf0) (by decide)
      · replace hf1 := mx_f hc hf1
        refine gw_iconst C (0 : Int32) d_Law_law_506 (by decide) ?_
        have hr23 := hx23 _ (hb23.trans hf1.symm)
        subst hr23
        replace hf0 := mx_sl hf0
        exact absurd (Option.some.inj hf0) (by decide)
    replace hf1 := mx_f hc6 hf1
    have hn6 := lv_neT hc6 (show ((6 : Int32)).toInt = 6 by decide)
    by_cases hc7 : x40 = (7 : Int32)
    · replace hf1 := mx_t hc7 hf1
      refine gw_tabEq (off := 488) C 528 hc7 d_Law_law_40 (by decide) (by decide) (by decide) (by decide) ?_
      refine gw_aload_n C 1 d_Law_law_528 rfl rfl ?_
      refine gw_aload_n C 0 d_Law_law_529 rfl rfl ?_
      refine gw_iload C 4 d_Law_law_530 rfl ?_
      refine gw_iconst C (1 : Int32) d_Law_law_532 (by decide) ?_
      refine gw_iadd C d_Law_law_533 ?_
      obtain ⟨x534, hx534, hf1⟩ := mx_bd hf1
      obtain ⟨gx534, ex534⟩ := mx_ldI hx534
      refine gw_sld C hXs hbl hbA d_Law_law_534 gx534 ?_
      refine gw_topi ex534 ?_
      obtain ⟨q535, hq535, hf1⟩ := mx_bd hf1
      refine gw_callI C (c_Hat_spring _ hg k_0_0 hq535) d_Law_law_535 1 qw_705 qw_706 qw_707 qw_1 qw_708 k_0_0 (by decide) rfl hd_Hat_spring rfl rfl (Nat.le_of_ble_eq_true rfl) ⟨rfl, rfl, Nat.le_of_ble_eq_true rfl, Nat.le_of_ble_eq_true rfl⟩ (by first | exact hA0 | exact hA1) ?_
      refine gw_aload_n C 2 d_Law_law_538 rfl rfl ?_
      refine gw_aload_n C 0 d_Law_law_539 rfl rfl ?_
      refine gw_iload C 4 d_Law_law_540 rfl ?_
      refine gw_iconst C (1 : Int32) d_Law_law_542 (by decide) ?_
      refine gw_iadd C d_Law_law_543 ?_
      obtain ⟨x544, hx544, hf1⟩ := mx_bd hf1
      obtain ⟨gx544, ex544⟩ := mx_ldI hx544
      refine gw_sld C hXs hbl hbA d_Law_law_544 gx544 ?_
      refine gw_topi ex544 ?_
      obtain ⟨q545, hq545, hf1⟩ := mx_bd hf1
      refine gw_callI C (c_Mod_spring _ hg k_169_0 hq545) d_Law_law_545 1 qw_1422 qw_1423 qw_1424 qw_12 qw_1425 k_169_0 (by decide) rfl hd_Mod_spring rfl rfl (Nat.le_of_ble_eq_true rfl) ⟨rfl, rfl, Nat.le_of_ble_eq_true rfl, Nat.le_of_ble_eq_true rfl⟩ (by first | exact hA0 | exact hA1) ?_
      refine gw_icmp_eq C 1381 d_Law_law_548 (by decide) (fun hc => ?_) (fun hc => ?_)
      · replace hf1 := mx_t hc hf1
        obtain ⟨x1381, ex1381, hf1⟩ := mx_lt hf1
        refine gw_iinc C 4 [(4, .int x1381), (0, .ref b), (1, .ref (ly_a L 0)), (2, .ref (ly_a L 169)), (3, .ref (ly_a L 190))] d_Law_law_1381 rfl (by rw [ex1381]; rfl) (by decide) rfl ?_
        refine gw_goto C 23 d_Law_law_1384 (by decide) ?_
        obtain ⟨hB1, hB2, hB3⟩ := lw_more hn gx36 ex1381
        exact gw_widen (by first | exact hB2.1 | exact hB3.1) (by first | exact hB2.2 | exact hB3.2) (gw_go [1, 2, 3, 4, 0] (ih23 (x1381, q545.2) (hb23.trans hf1.symm) hB1) rfl)
      · replace hf1 := mx_f hc hf1
        refine gw_iconst C (0 : Int32) d_Law_law_551 (by decide) ?_
        have hr23 := hx23 _ (hb23.trans hf1.symm)
        subst hr23
        replace hf0 := mx_sl hf0
        exact absurd (Option.some.inj hf0) (by decide)
    replace hf1 := mx_f hc7 hf1
    have hn7 := lv_neT hc7 (show ((7 : Int32)).toInt = 7 by decide)
    by_cases hc8 : x40 = (8 : Int32)
    · replace hf1 := mx_t hc8 hf1
      refine gw_tabEq (off := 513) C 553 hc8 d_Law_law_40 (by decide) (by decide) (by decide) (by decide) ?_
      refine gw_aload_n C 1 d_Law_law_553 rfl rfl ?_
      refine gw_aload_n C 0 d_Law_law_554 rfl rfl ?_
      refine gw_iload C 4 d_Law_law_555 rfl ?_
      refine gw_iconst C (1 : Int32) d_Law_law_557 (by decide) ?_
      refine gw_iadd C d_Law_law_558 ?_
      obtain ⟨x559, hx559, hf1⟩ := mx_bd hf1
      obtain ⟨gx559, ex559⟩ := mx_ldI hx559
      refine gw_sld C hXs hbl hbA d_Law_law_559 gx559 ?_
      refine gw_topi ex559 ?_
      refine gw_aload_n C 0 d_Law_law_560 rfl rfl ?_
      refine gw_iload C 4 d_Law_law_561 rfl ?_
      refine gw_iconst C (2 : Int32) d_Law_law_563 (by decide) ?_
      refine gw_iadd C d_Law_law_564 ?_
      obtain ⟨x565, hx565, hf1⟩ := mx_bd hf1
      obtain ⟨gx565, ex565⟩ := mx_ldI hx565
      refine gw_sld C hXs hbl hbA d_Law_law_565 gx565 ?_
      refine gw_topi ex565 ?_
      obtain ⟨q566, hq566, hf1⟩ := mx_bd hf1
      refine gw_callI C (c_Hat_held _ hg k_0_0 hq566) d_Law_law_566 2 qw_729 qw_730 qw_731 qw_1 qw_732 k_0_0 (by decide) rfl hd_Hat_held rfl rfl (Nat.le_of_ble_eq_true rfl) ⟨rfl, rfl, Nat.le_of_ble_eq_true rfl, Nat.le_of_ble_eq_true rfl⟩ (by first | exact hA0 | exact hA1) ?_
      refine gw_aload_n C 2 d_Law_law_569 rfl rfl ?_
      refine gw_aload_n C 0 d_Law_law_570 rfl rfl ?_
      refine gw_iload C 4 d_Law_law_571 rfl ?_
      refine gw_iconst C (1 : Int32) d_Law_law_573 (by decide) ?_
      refine gw_iadd C d_Law_law_574 ?_
      obtain ⟨x575, hx575, hf1⟩ := mx_bd hf1
      obtain ⟨gx575, ex575⟩ := mx_ldI hx575
      refine gw_sld C hXs hbl hbA d_Law_law_575 gx575 ?_
      refine gw_topi ex575 ?_
      refine gw_aload_n C 0 d_Law_law_576 rfl rfl ?_
      refine gw_iload C 4 d_Law_law_577 rfl ?_
      refine gw_iconst C (2 : Int32) d_Law_law_579 (by decide) ?_
      refine gw_iadd C d_Law_law_580 ?_
      obtain ⟨x581, hx581, hf1⟩ := mx_bd hf1
      obtain ⟨gx581, ex581⟩ := mx_ldI hx581
      refine gw_sld C hXs hbl hbA d_Law_law_581 gx581 ?_
      refine gw_topi ex581 ?_
      obtain ⟨q582, hq582, hf1⟩ := mx_bd hf1
      refine gw_callI C (c_Mod_held _ hg k_169_0 hq582) d_Law_law_582 2 qw_1434 qw_1435 qw_1436 qw_12 qw_1437 k_169_0 (by decide) rfl hd_Mod_held rfl rfl (Nat.le_of_ble_eq_true rfl) ⟨rfl, rfl, Nat.le_of_ble_eq_true rfl, Nat.le_of_ble_eq_true rfl⟩ (by first | exact hA0 | exact hA1) ?_
      refine gw_icmp_eq C 1381 d_Law_law_585 (by decide) (fun hc => ?_) (fun hc => ?_)
      · replace hf1 := mx_t hc hf1
        obtain ⟨x1381, ex1381, hf1⟩ := mx_lt hf1
        refine gw_iinc C 4 [(4, .int x1381), (0, .ref b), (1, .ref (ly_a L 0)), (2, .ref (ly_a L 169)), (3, .ref (ly_a L 190))] d_Law_law_1381 rfl (by rw [ex1381]; rfl) (by decide) rfl ?_
        refine gw_goto C 23 d_Law_law_1384 (by decide) ?_
        obtain ⟨hB1, hB2, hB3⟩ := lw_more hn gx36 ex1381
        exact gw_widen (by first | exact hB2.1 | exact hB3.1) (by first | exact hB2.2 | exact hB3.2) (gw_go [1, 2, 3, 4, 0] (ih23 (x1381, q582.2) (hb23.trans hf1.symm) hB1) rfl)
      · replace hf1 := mx_f hc hf1
        refine gw_iconst C (0 : Int32) d_Law_law_588 (by decide) ?_
        have hr23 := hx23 _ (hb23.trans hf1.symm)
        subst hr23
        replace hf0 := mx_sl hf0
        exact absurd (Option.some.inj hf0) (by decide)
    replace hf1 := mx_f hc8 hf1
    have hn8 := lv_neT hc8 (show ((8 : Int32)).toInt = 8 by decide)
    by_cases hc9 : x40 = (9 : Int32)
    · replace hf1 := mx_t hc9 hf1
      refine gw_tabEq (off := 550) C 590 hc9 d_Law_law_40 (by decide) (by decide) (by decide) (by decide) ?_
      refine gw_aload_n C 1 d_Law_law_590 rfl rfl ?_
      refine gw_aload_n C 0 d_Law_law_591 rfl rfl ?_
      refine gw_iload C 4 d_Law_law_592 rfl ?_
      refine gw_iconst C (1 : Int32) d_Law_law_594 (by decide) ?_
      refine gw_iadd C d_Law_law_595 ?_
      obtain ⟨x596, hx596, hf1⟩ := mx_bd hf1
      obtain ⟨gx596, ex596⟩ := mx_ldI hx596
      refine gw_sld C hXs hbl hbA d_Law_law_596 gx596 ?_
      refine gw_topi ex596 ?_
      refine gw_aload_n C 0 d_Law_law_597 rfl rfl ?_
      refine gw_iload C 4 d_Law_law_598 rfl ?_
      refine gw_iconst C (2 : Int32) d_Law_law_600 (by decide) ?_
      refine gw_iadd C d_Law_law_601 ?_
      obtain ⟨x602, hx602, hf1⟩ := mx_bd hf1
      obtain ⟨gx602, ex602⟩ := mx_ldI hx602
      refine gw_sld C hXs hbl hbA d_Law_law_602 gx602 ?_
      refine gw_topi ex602 ?_
      obtain ⟨q603, hq603, hf1⟩ := mx_bd hf1
      refine gw_callI C (c_Hat_swap _ hg k_0_0 hq603) d_Law_law_603 2 qw_775 qw_776 qw_777 qw_1 qw_778 k_0_0 (by decide) rfl hd_Hat_swap rfl rfl (Nat.le_of_ble_eq_true rfl) ⟨rfl, rfl, Nat.le_of_ble_eq_true rfl, Nat.le_of_ble_eq_true rfl⟩ (by first | exact hA0 | exact hA1) ?_
      refine gw_aload_n C 2 d_Law_law_606 rfl rfl ?_
      refine gw_aload_n C 0 d_Law_law_607 rfl rfl ?_
      refine gw_iload C 4 d_Law_law_608 rfl ?_
      refine gw_iconst C (1 : Int32) d_Law_law_610 (by decide) ?_
      refine gw_iadd C d_Law_law_611 ?_
      obtain ⟨x612, hx612, hf1⟩ := mx_bd hf1
      obtain ⟨gx612, ex612⟩ := mx_ldI hx612
      refine gw_sld C hXs hbl hbA d_Law_law_612 gx612 ?_
      refine gw_topi ex612 ?_
      refine gw_aload_n C 0 d_Law_law_613 rfl rfl ?_
      refine gw_iload C 4 d_Law_law_614 rfl ?_
      refine gw_iconst C (2 : Int32) d_Law_law_616 (by decide) ?_
      refine gw_iadd C d_Law_law_617 ?_
      obtain ⟨x618, hx618, hf1⟩ := mx_bd hf1
      obtain ⟨gx618, ex618⟩ := mx_ldI hx618
      refine gw_sld C hXs hbl hbA d_Law_law_618 gx618 ?_
      refine gw_topi ex618 ?_
      obtain ⟨q619, hq619, hf1⟩ := mx_bd hf1
      refine gw_callI C (c_Mod_swap _ hg k_169_0 hq619) d_Law_law_619 2 qw_1450 qw_1451 qw_1452 qw_12 qw_1453 k_169_0 (by decide) rfl hd_Mod_swap rfl rfl (Nat.le_of_ble_eq_true rfl) ⟨rfl, rfl, Nat.le_of_ble_eq_true rfl, Nat.le_of_ble_eq_true rfl⟩ (by first | exact hA0 | exact hA1) ?_
      refine gw_icmp_eq C 1381 d_Law_law_622 (by decide) (fun hc => ?_) (fun hc => ?_)
      · replace hf1 := mx_t hc hf1
        obtain ⟨x1381, ex1381, hf1⟩ := mx_lt hf1
        refine gw_iinc C 4 [(4, .int x1381), (0, .ref b), (1, .ref (ly_a L 0)), (2, .ref (ly_a L 169)), (3, .ref (ly_a L 190))] d_Law_law_1381 rfl (by rw [ex1381]; rfl) (by decide) rfl ?_
        refine gw_goto C 23 d_Law_law_1384 (by decide) ?_
        obtain ⟨hB1, hB2, hB3⟩ := lw_more hn gx36 ex1381
        exact gw_widen (by first | exact hB2.1 | exact hB3.1) (by first | exact hB2.2 | exact hB3.2) (gw_go [1, 2, 3, 4, 0] (ih23 (x1381, q619.2) (hb23.trans hf1.symm) hB1) rfl)
      · replace hf1 := mx_f hc hf1
        refine gw_iconst C (0 : Int32) d_Law_law_625 (by decide) ?_
        have hr23 := hx23 _ (hb23.trans hf1.symm)
        subst hr23
        replace hf0 := mx_sl hf0
        exact absurd (Option.some.inj hf0) (by decide)
    replace hf1 := mx_f hc9 hf1
    have hn9 := lv_neT hc9 (show ((9 : Int32)).toInt = 9 by decide)
    by_cases hc10 : x40 = (10 : Int32)
    · replace hf1 := mx_t hc10 hf1
      refine gw_tabEq (off := 587) C 627 hc10 d_Law_law_40 (by decide) (by decide) (by decide) (by decide) ?_
      refine gw_aload_n C 1 d_Law_law_627 rfl rfl ?_
      obtain ⟨q628, hq628, hf1⟩ := mx_bd hf1
      refine gw_callI C (c_Hat_ring _ hg k_0_0 hq628) d_Law_law_628 0 qw_792 qw_793 qw_794 qw_1 qw_795 k_0_0 (by decide) rfl hd_Hat_ring rfl rfl (Nat.le_of_ble_eq_true rfl) ⟨rfl, rfl, Nat.le_of_ble_eq_true rfl, Nat.le_of_ble_eq_true rfl⟩ (by first | exact hA0 | exact hA1) ?_
      refine gw_aload_n C 2 d_Law_law_631 rfl rfl ?_
      obtain ⟨q632, hq632, hf1⟩ := mx_bd hf1
      refine gw_callI C (c_Mod_ring _ hg k_169_0 hq632) d_Law_law_632 0 qw_1462 qw_1463 qw_1464 qw_12 qw_1465 k_169_0 (by decide) rfl hd_Mod_ring rfl rfl (Nat.le_of_ble_eq_true rfl) ⟨rfl, rfl, Nat.le_of_ble_eq_true rfl, Nat.le_of_ble_eq_true rfl⟩ (by first | exact hA0 | exact hA1) ?_
      refine gw_icmp_eq C 1381 d_Law_law_635 (by decide) (fun hc => ?_) (fun hc => ?_)
      · replace hf1 := mx_t hc hf1
        obtain ⟨x1381, ex1381, hf1⟩ := mx_lt hf1
        refine gw_iinc C 4 [(4, .int x1381), (0, .ref b), (1, .ref (ly_a L 0)), (2, .ref (ly_a L 169)), (3, .ref (ly_a L 190))] d_Law_law_1381 rfl (by rw [ex1381]; rfl) (by decide) rfl ?_
        refine gw_goto C 23 d_Law_law_1384 (by decide) ?_
        obtain ⟨hB1, hB2, hB3⟩ := lw_more hn gx36 ex1381
        exact gw_widen (by first | exact hB2.1 | exact hB3.1) (by first | exact hB2.2 | exact hB3.2) (gw_go [1, 2, 3, 4, 0] (ih23 (x1381, q632.2) (hb23.trans hf1.symm) hB1) rfl)
      · replace hf1 := mx_f hc hf1
        refine gw_iconst C (0 : Int32) d_Law_law_638 (by decide) ?_
        have hr23 := hx23 _ (hb23.trans hf1.symm)
        subst hr23
        replace hf0 := mx_sl hf0
        exact absurd (Option.some.inj hf0) (by decide)
    replace hf1 := mx_f hc10 hf1
    have hn10 := lv_neT hc10 (show ((10 : Int32)).toInt = 10 by decide)
    by_cases hc11 : x40 = (11 : Int32)
    · replace hf1 := mx_t hc11 hf1
      refine gw_tabEq (off := 600) C 640 hc11 d_Law_law_40 (by decide) (by decide) (by decide) (by decide) ?_
      refine gw_aload_n C 1 d_Law_law_640 rfl rfl ?_
      refine gw_aload_n C 0 d_Law_law_641 rfl rfl ?_
      refine gw_iload C 4 d_Law_law_642 rfl ?_
      refine gw_iconst C (1 : Int32) d_Law_law_644 (by decide) ?_
      refine gw_iadd C d_Law_law_645 ?_
      obtain ⟨x646, hx646, hf1⟩ := mx_bd hf1
      obtain ⟨gx646, ex646⟩ := mx_ldI hx646
      refine gw_sld C hXs hbl hbA d_Law_law_646 gx646 ?_
      refine gw_topi ex646 ?_
      obtain ⟨q647, hq647, hf1⟩ := mx_bd hf1
      refine gw_callI C (c_Hat_ringAt _ hg k_0_0 hq647) d_Law_law_647 1 qw_813 qw_814 qw_815 qw_1 qw_816 k_0_0 (by decide) rfl hd_Hat_ringAt rfl rfl (Nat.le_of_ble_eq_true rfl) ⟨rfl, rfl, Nat.le_of_ble_eq_true rfl, Nat.le_of_ble_eq_true rfl⟩ (by first | exact hA0 | exact hA1) ?_
      refine gw_aload_n C 2 d_Law_law_650 rfl rfl ?_
      refine gw_aload_n C 0 d_Law_law_651 rfl rfl ?_
      refine gw_iload C 4 d_Law_law_652 rfl ?_
      refine gw_iconst C (1 : Int32) d_Law_law_654 (by decide) ?_
      refine gw_iadd C d_Law_law_655 ?_
      obtain ⟨x656, hx656, hf1⟩ := mx_bd hf1
      obtain ⟨gx656, ex656⟩ := mx_ldI hx656
      refine gw_sld C hXs hbl hbA d_Law_law_656 gx656 ?_
      refine gw_topi ex656 ?_
      obtain ⟨q657, hq657, hf1⟩ := mx_bd hf1
      refine gw_callI C (c_Mod_ringAt _ hg k_169_0 hq657) d_Law_law_657 1 qw_1478 qw_1479 qw_1480 qw_12 qw_1481 k_169_0 (by decide) rfl hd_Mod_ringAt rfl rfl (Nat.le_of_ble_eq_true rfl) ⟨rfl, rfl, Nat.le_of_ble_eq_true rfl, Nat.le_of_ble_eq_true rfl⟩ (by first | exact hA0 | exact hA1) ?_
      refine gw_icmp_eq C 1381 d_Law_law_660 (by decide) (fun hc => ?_) (fun hc => ?_)
      · replace hf1 := mx_t hc hf1
        obtain ⟨x1381, ex1381, hf1⟩ := mx_lt hf1
        refine gw_iinc C 4 [(4, .int x1381), (0, .ref b), (1, .ref (ly_a L 0)), (2, .ref (ly_a L 169)), (3, .ref (ly_a L 190))] d_Law_law_1381 rfl (by rw [ex1381]; rfl) (by decide) rfl ?_
        refine gw_goto C 23 d_Law_law_1384 (by decide) ?_
        obtain ⟨hB1, hB2, hB3⟩ := lw_more hn gx36 ex1381
        exact gw_widen (by first | exact hB2.1 | exact hB3.1) (by first | exact hB2.2 | exact hB3.2) (gw_go [1, 2, 3, 4, 0] (ih23 (x1381, q657.2) (hb23.trans hf1.symm) hB1) rfl)
      · replace hf1 := mx_f hc hf1
        refine gw_iconst C (0 : Int32) d_Law_law_663 (by decide) ?_
        have hr23 := hx23 _ (hb23.trans hf1.symm)
        subst hr23
        replace hf0 := mx_sl hf0
        exact absurd (Option.some.inj hf0) (by decide)
    replace hf1 := mx_f hc11 hf1
    have hn11 := lv_neT hc11 (show ((11 : Int32)).toInt = 11 by decide)
    by_cases hc12 : x40 = (12 : Int32)
    · replace hf1 := mx_t hc12 hf1
      refine gw_tabEq (off := 625) C 665 hc12 d_Law_law_40 (by decide) (by decide) (by decide) (by decide) ?_
      refine gw_aload_n C 1 d_Law_law_665 rfl rfl ?_
      obtain ⟨q666, hq666, hf1⟩ := mx_bd hf1
      refine gw_callI C (c_Hat_trade _ hg k_0_0 hq666) d_Law_law_666 0 qw_817 qw_818 qw_819 qw_1 qw_820 k_0_0 (by decide) rfl hd_Hat_trade rfl rfl (Nat.le_of_ble_eq_true rfl) ⟨rfl, rfl, Nat.le_of_ble_eq_true rfl, Nat.le_of_ble_eq_true rfl⟩ (by first | exact hA0 | exact hA1) ?_
      refine gw_aload_n C 2 d_Law_law_669 rfl rfl ?_
      obtain ⟨q670, hq670, hf1⟩ := mx_bd hf1
      refine gw_callI C (c_Mod_trade _ hg k_169_0 hq670) d_Law_law_670 0 qw_1482 qw_1483 qw_1484 qw_12 qw_1485 k_169_0 (by decide) rfl hd_Mod_trade rfl rfl (Nat.le_of_ble_eq_true rfl) ⟨rfl, rfl, Nat.le_of_ble_eq_true rfl, Nat.le_of_ble_eq_true rfl⟩ (by first | exact hA0 | exact hA1) ?_
      refine gw_icmp_eq C 1381 d_Law_law_673 (by decide) (fun hc => ?_) (fun hc => ?_)
      · replace hf1 := mx_t hc hf1
        obtain ⟨x1381, ex1381, hf1⟩ := mx_lt hf1
        refine gw_iinc C 4 [(4, .int x1381), (0, .ref b), (1, .ref (ly_a L 0)), (2, .ref (ly_a L 169)), (3, .ref (ly_a L 190))] d_Law_law_1381 rfl (by rw [ex1381]; rfl) (by decide) rfl ?_
        refine gw_goto C 23 d_Law_law_1384 (by decide) ?_
        obtain ⟨hB1, hB2, hB3⟩ := lw_more hn gx36 ex1381
        exact gw_widen (by first | exact hB2.1 | exact hB3.1) (by first | exact hB2.2 | exact hB3.2) (gw_go [1, 2, 3, 4, 0] (ih23 (x1381, q670.2) (hb23.trans hf1.symm) hB1) rfl)
      · replace hf1 := mx_f hc hf1
        refine gw_iconst C (0 : Int32) d_Law_law_676 (by decide) ?_
        have hr23 := hx23 _ (hb23.trans hf1.symm)
        subst hr23
        replace hf0 := mx_sl hf0
        exact absurd (Option.some.inj hf0) (by decide)
    replace hf1 := mx_f hc12 hf1
    have hn12 := lv_neT hc12 (show ((12 : Int32)).toInt = 12 by decide)
    by_cases hc13 : x40 = (13 : Int32)
    · replace hf1 := mx_t hc13 hf1
      refine gw_tabEq (off := 638) C 678 hc13 d_Law_law_40 (by decide) (by decide) (by decide) (by decide) ?_
      refine gw_aload_n C 1 d_Law_law_678 rfl rfl ?_
      obtain ⟨q679, hq679, hf1⟩ := mx_bd hf1
      refine gw_callI C (c_Hat_book _ hg k_0_0 hq679) d_Law_law_679 0 qw_696 qw_697 qw_698 qw_1 qw_699 k_0_0 (by decide) rfl hd_Hat_book rfl rfl (Nat.le_of_ble_eq_true rfl) ⟨rfl, rfl, Nat.le_of_ble_eq_true rfl, Nat.le_of_ble_eq_true rfl⟩ (by first | exact hA0 | exact hA1) ?_
      refine gw_aload_n C 2 d_Law_law_682 rfl rfl ?_
      obtain ⟨q683, hq683, hf1⟩ := mx_bd hf1
      refine gw_callI C (c_Mod_book _ hg k_169_0 hq683) d_Law_law_683 0 qw_1494 qw_1495 qw_1496 qw_12 qw_1497 k_169_0 (by decide) rfl hd_Mod_book rfl rfl (Nat.le_of_ble_eq_true rfl) ⟨rfl, rfl, Nat.le_of_ble_eq_true rfl, Nat.le_of_ble_eq_true rfl⟩ (by first | exact hA0 | exact hA1) ?_
      refine gw_icmp_eq C 1381 d_Law_law_686 (by decide) (fun hc => ?_) (fun hc => ?_)
      · replace hf1 := mx_t hc hf1
        obtain ⟨x1381, ex1381, hf1⟩ := mx_lt hf1
        refine gw_iinc C 4 [(4, .int x1381), (0, .ref b), (1, .ref (ly_a L 0)), (2, .ref (ly_a L 169)), (3, .ref (ly_a L 190))] d_Law_law_1381 rfl (by rw [ex1381]; rfl) (by decide) rfl ?_
        refine gw_goto C 23 d_Law_law_1384 (by decide) ?_
        obtain ⟨hB1, hB2, hB3⟩ := lw_more hn gx36 ex1381
        exact gw_widen (by first | exact hB2.1 | exact hB3.1) (by first | exact hB2.2 | exact hB3.2) (gw_go [1, 2, 3, 4, 0] (ih23 (x1381, q683.2) (hb23.trans hf1.symm) hB1) rfl)
      · replace hf1 := mx_f hc hf1
        refine gw_iconst C (0 : Int32) d_Law_law_689 (by decide) ?_
        have hr23 := hx23 _ (hb23.trans hf1.symm)
        subst hr23
        replace hf0 := mx_sl hf0
        exact absurd (Option.some.inj hf0) (by decide)
    replace hf1 := mx_f hc13 hf1
    have hn13 := lv_neT hc13 (show ((13 : Int32)).toInt = 13 by decide)
    by_cases hc14 : x40 = (14 : Int32)
    · replace hf1 := mx_t hc14 hf1
      refine gw_tabEq (off := 651) C 691 hc14 d_Law_law_40 (by decide) (by decide) (by decide) (by decide) ?_
      refine gw_aload_n C 1 d_Law_law_691 rfl rfl ?_
      refine gw_aload_n C 0 d_Law_law_692 rfl rfl ?_
      refine gw_iload C 4 d_Law_law_693 rfl ?_
      refine gw_iconst C (1 : Int32) d_Law_law_695 (by decide) ?_
      refine gw_iadd C d_Law_law_696 ?_
      obtain ⟨x697, hx697, hf1⟩ := mx_bd hf1
      obtain ⟨gx697, ex697⟩ := mx_ldI hx697
      refine gw_sld C hXs hbl hbA d_Law_law_697 gx697 ?_
      refine gw_topi ex697 ?_
      obtain ⟨q698, hq698, hf1⟩ := mx_bd hf1
      refine gw_callI C (c_Hat_go _ hg k_0_0 hq698) d_Law_law_698 1 qw_839 qw_840 qw_841 qw_1 qw_842 k_0_0 (by decide) rfl hd_Hat_go rfl rfl (Nat.le_of_ble_eq_true rfl) ⟨rfl, rfl, Nat.le_of_ble_eq_true rfl, Nat.le_of_ble_eq_true rfl⟩ (by first | exact hA0 | exact hA1) ?_
      refine gw_aload_n C 2 d_Law_law_701 rfl rfl ?_
      refine gw_aload_n C 0 d_Law_law_702 rfl rfl ?_
      refine gw_iload C 4 d_Law_law_703 rfl ?_
      refine gw_iconst C (1 : Int32) d_Law_law_705 (by decide) ?_
      refine gw_iadd C d_Law_law_706 ?_
      obtain ⟨x707, hx707, hf1⟩ := mx_bd hf1
      obtain ⟨gx707, ex707⟩ := mx_ldI hx707
      refine gw_sld C hXs hbl hbA d_Law_law_707 gx707 ?_
      refine gw_topi ex707 ?_
      obtain ⟨q708, hq708, hf1⟩ := mx_bd hf1
      refine gw_callI C (c_Mod_go _ hg k_169_0 hq708) d_Law_law_708 1 qw_1502 qw_1503 qw_1504 qw_12 qw_1505 k_169_0 (by decide) rfl hd_Mod_go rfl rfl (Nat.le_of_ble_eq_true rfl) ⟨rfl, rfl, Nat.le_of_ble_eq_true rfl, Nat.le_of_ble_eq_true rfl⟩ (by first | exact hA0 | exact hA1) ?_
      refine gw_icmp_eq C 1381 d_Law_law_711 (by decide) (fun hc => ?_) (fun hc => ?_)
      · replace hf1 := mx_t hc hf1
        obtain ⟨x1381, ex1381, hf1⟩ := mx_lt hf1
        refine gw_iinc C 4 [(4, .int x1381), (0, .ref b), (1, .ref (ly_a L 0)), (2, .ref (ly_a L 169)), (3, .ref (ly_a L 190))] d_Law_law_1381 rfl (by rw [ex1381]; rfl) (by decide) rfl ?_
        refine gw_goto C 23 d_Law_law_1384 (by decide) ?_
        obtain ⟨hB1, hB2, hB3⟩ := lw_more hn gx36 ex1381
        exact gw_widen (by first | exact hB2.1 | exact hB3.1) (by first | exact hB2.2 | exact hB3.2) (gw_go [1, 2, 3, 4, 0] (ih23 (x1381, q708.2) (hb23.trans hf1.symm) hB1) rfl)
      · replace hf1 := mx_f hc hf1
        refine gw_iconst C (0 : Int32) d_Law_law_714 (by decide) ?_
        have hr23 := hx23 _ (hb23.trans hf1.symm)
        subst hr23
        replace hf0 := mx_sl hf0
        exact absurd (Option.some.inj hf0) (by decide)
    replace hf1 := mx_f hc14 hf1
    have hn14 := lv_neT hc14 (show ((14 : Int32)).toInt = 14 by decide)
    by_cases hc15 : x40 = (15 : Int32)
    · replace hf1 := mx_t hc15 hf1
      refine gw_tabEq (off := 676) C 716 hc15 d_Law_law_40 (by decide) (by decide) (by decide) (by decide) ?_
      refine gw_aload_n C 1 d_Law_law_716 rfl rfl ?_
      refine gw_aload_n C 0 d_Law_law_717 rfl rfl ?_
      refine gw_iload C 4 d_Law_law_718 rfl ?_
      refine gw_iconst C (1 : Int32) d_Law_law_720 (by decide) ?_
      refine gw_iadd C d_Law_law_721 ?_
      obtain ⟨x722, hx722, hf1⟩ := mx_bd hf1
      obtain ⟨gx722, ex722⟩ := mx_ldI hx722
      refine gw_sld C hXs hbl hbA d_Law_law_722 gx722 ?_
      refine gw_topi ex722 ?_
      obtain ⟨q723, hq723, hf1⟩ := mx_bd hf1
      refine gw_callI C (c_Hat_went _ hg k_0_0 hq723) d_Law_law_723 1 qw_879 qw_880 qw_881 qw_1 qw_882 k_0_0 (by decide) rfl hd_Hat_went rfl rfl (Nat.le_of_ble_eq_true rfl) ⟨rfl, rfl, Nat.le_of_ble_eq_true rfl, Nat.le_of_ble_eq_true rfl⟩ (by first | exact hA0 | exact hA1) ?_
      refine gw_aload_n C 2 d_Law_law_726 rfl rfl ?_
      refine gw_aload_n C 0 d_Law_law_727 rfl rfl ?_
      refine gw_iload C 4 d_Law_law_728 rfl ?_
      refine gw_iconst C (1 : Int32) d_Law_law_730 (by decide) ?_
      refine gw_iadd C d_Law_law_731 ?_
      obtain ⟨x732, hx732, hf1⟩ := mx_bd hf1
      obtain ⟨gx732, ex732⟩ := mx_ldI hx732
      refine gw_sld C hXs hbl hbA d_Law_law_732 gx732 ?_
      refine gw_topi ex732 ?_
      obtain ⟨q733, hq733, hf1⟩ := mx_bd hf1
      refine gw_callI C (c_Mod_went _ hg k_169_0 hq733) d_Law_law_733 1 qw_1514 qw_1515 qw_1516 qw_12 qw_1517 k_169_0 (by decide) rfl hd_Mod_went rfl rfl (Nat.le_of_ble_eq_true rfl) ⟨rfl, rfl, Nat.le_of_ble_eq_true rfl, Nat.le_of_ble_eq_true rfl⟩ (by first | exact hA0 | exact hA1) ?_
      refine gw_icmp_eq C 1381 d_Law_law_736 (by decide) (fun hc => ?_) (fun hc => ?_)
      · replace hf1 := mx_t hc hf1
        obtain ⟨x1381, ex1381, hf1⟩ := mx_lt hf1
        refine gw_iinc C 4 [(4, .int x1381), (0, .ref b), (1, .ref (ly_a L 0)), (2, .ref (ly_a L 169)), (3, .ref (ly_a L 190))] d_Law_law_1381 rfl (by rw [ex1381]; rfl) (by decide) rfl ?_
        refine gw_goto C 23 d_Law_law_1384 (by decide) ?_
        obtain ⟨hB1, hB2, hB3⟩ := lw_more hn gx36 ex1381
        exact gw_widen (by first | exact hB2.1 | exact hB3.1) (by first | exact hB2.2 | exact hB3.2) (gw_go [1, 2, 3, 4, 0] (ih23 (x1381, q733.2) (hb23.trans hf1.symm) hB1) rfl)
      · replace hf1 := mx_f hc hf1
        refine gw_iconst C (0 : Int32) d_Law_law_739 (by decide) ?_
        have hr23 := hx23 _ (hb23.trans hf1.symm)
        subst hr23
        replace hf0 := mx_sl hf0
        exact absurd (Option.some.inj hf0) (by decide)
    replace hf1 := mx_f hc15 hf1
    have hn15 := lv_neT hc15 (show ((15 : Int32)).toInt = 15 by decide)
    by_cases hc16 : x40 = (16 : Int32)
    · replace hf1 := mx_t hc16 hf1
      refine gw_tabEq (off := 701) C 741 hc16 d_Law_law_40 (by decide) (by decide) (by decide) (by decide) ?_
      refine gw_aload_n C 1 d_Law_law_741 rfl rfl ?_
      refine gw_aload_n C 0 d_Law_law_742 rfl rfl ?_
      refine gw_iload C 4 d_Law_law_743 rfl ?_
      refine gw_iconst C (1 : Int32) d_Law_law_745 (by decide) ?_
      refine gw_iadd C d_Law_law_746 ?_
      obtain ⟨x747, hx747, hf1⟩ := mx_bd hf1
      obtain ⟨gx747, ex747⟩ := mx_ldI hx747
      refine gw_sld C hXs hbl hbA d_Law_law_747 gx747 ?_
      refine gw_topi ex747 ?_
      refine gw_aload_n C 0 d_Law_law_748 rfl rfl ?_
      refine gw_iload C 4 d_Law_law_749 rfl ?_
      refine gw_iconst C (2 : Int32) d_Law_law_751 (by decide) ?_
      refine gw_iadd C d_Law_law_752 ?_
      obtain ⟨x753, hx753, hf1⟩ := mx_bd hf1
      obtain ⟨gx753, ex753⟩ := mx_ldI hx753
      refine gw_sld C hXs hbl hbA d_Law_law_753 gx753 ?_
      refine gw_topi ex753 ?_
      obtain ⟨q754, hq754, hf1⟩ := mx_bd hf1
      refine gw_callI C (c_Hat_keeper _ hg k_0_0 hq754) d_Law_law_754 2 qw_741 qw_742 qw_743 qw_1 qw_744 k_0_0 (by decide) rfl hd_Hat_keeper rfl rfl (Nat.le_of_ble_eq_true rfl) ⟨rfl, rfl, Nat.le_of_ble_eq_true rfl, Nat.le_of_ble_eq_true rfl⟩ (by first | exact hA0 | exact hA1) ?_
      refine gw_aload_n C 2 d_Law_law_757 rfl rfl ?_
      refine gw_aload_n C 0 d_Law_law_758 rfl rfl ?_
      refine gw_iload C 4 d_Law_law_759 rfl ?_
      refine gw_iconst C (1 : Int32) d_Law_law_761 (by decide) ?_
      refine gw_iadd C d_Law_law_762 ?_
      obtain ⟨x763, hx763, hf1⟩ := mx_bd hf1
      obtain ⟨gx763, ex763⟩ := mx_ldI hx763
      refine gw_sld C hXs hbl hbA d_Law_law_763 gx763 ?_
      refine gw_topi ex763 ?_
      refine gw_aload_n C 0 d_Law_law_764 rfl rfl ?_
      refine gw_iload C 4 d_Law_law_765 rfl ?_
      refine gw_iconst C (2 : Int32) d_Law_law_767 (by decide) ?_
      refine gw_iadd C d_Law_law_768 ?_
      obtain ⟨x769, hx769, hf1⟩ := mx_bd hf1
      obtain ⟨gx769, ex769⟩ := mx_ldI hx769
      refine gw_sld C hXs hbl hbA d_Law_law_769 gx769 ?_
      refine gw_topi ex769 ?_
      obtain ⟨q770, hq770, hf1⟩ := mx_bd hf1
      refine gw_callI C (c_Mod_keeper _ hg k_169_0 hq770) d_Law_law_770 2 qw_1446 qw_1447 qw_1448 qw_12 qw_1449 k_169_0 (by decide) rfl hd_Mod_keeper rfl rfl (Nat.le_of_ble_eq_true rfl) ⟨rfl, rfl, Nat.le_of_ble_eq_true rfl, Nat.le_of_ble_eq_true rfl⟩ (by first | exact hA0 | exact hA1) ?_
      refine gw_icmp_eq C 1381 d_Law_law_773 (by decide) (fun hc => ?_) (fun hc => ?_)
      · replace hf1 := mx_t hc hf1
        obtain ⟨x1381, ex1381, hf1⟩ := mx_lt hf1
        refine gw_iinc C 4 [(4, .int x1381), (0, .ref b), (1, .ref (ly_a L 0)), (2, .ref (ly_a L 169)), (3, .ref (ly_a L 190))] d_Law_law_1381 rfl (by rw [ex1381]; rfl) (by decide) rfl ?_
        refine gw_goto C 23 d_Law_law_1384 (by decide) ?_
        obtain ⟨hB1, hB2, hB3⟩ := lw_more hn gx36 ex1381
        exact gw_widen (by first | exact hB2.1 | exact hB3.1) (by first | exact hB2.2 | exact hB3.2) (gw_go [1, 2, 3, 4, 0] (ih23 (x1381, q770.2) (hb23.trans hf1.symm) hB1) rfl)
      · replace hf1 := mx_f hc hf1
        refine gw_iconst C (0 : Int32) d_Law_law_776 (by decide) ?_
        have hr23 := hx23 _ (hb23.trans hf1.symm)
        subst hr23
        replace hf0 := mx_sl hf0
        exact absurd (Option.some.inj hf0) (by decide)
    replace hf1 := mx_f hc16 hf1
    have hn16 := lv_neT hc16 (show ((16 : Int32)).toInt = 16 by decide)
    by_cases hc17 : x40 = (17 : Int32)
    · replace hf1 := mx_t hc17 hf1
      refine gw_tabEq (off := 738) C 778 hc17 d_Law_law_40 (by decide) (by decide) (by decide) (by decide) ?_
      refine gw_aload_n C 1 d_Law_law_778 rfl rfl ?_
      refine gw_aload_n C 0 d_Law_law_779 rfl rfl ?_
      refine gw_iload C 4 d_Law_law_780 rfl ?_
      refine gw_iconst C (1 : Int32) d_Law_law_782 (by decide) ?_
      refine gw_iadd C d_Law_law_783 ?_
      obtain ⟨x784, hx784, hf1⟩ := mx_bd hf1
      obtain ⟨gx784, ex784⟩ := mx_ldI hx784
      refine gw_sld C hXs hbl hbA d_Law_law_784 gx784 ?_
      refine gw_topi ex784 ?_
      obtain ⟨q785, hq785, hf1⟩ := mx_bd hf1
      refine gw_callI C (c_Hat_envy _ hg k_0_0 hq785) d_Law_law_785 1 qw_750 qw_751 qw_752 qw_1 qw_753 k_0_0 (by decide) rfl hd_Hat_envy rfl rfl (Nat.le_of_ble_eq_true rfl) ⟨rfl, rfl, Nat.le_of_ble_eq_true rfl, Nat.le_of_ble_eq_true rfl⟩ (by first | exact hA0 | exact hA1) ?_
      refine gw_aload_n C 2 d_Law_law_788 rfl rfl ?_
      refine gw_aload_n C 0 d_Law_law_789 rfl rfl ?_
      refine gw_iload C 4 d_Law_law_790 rfl ?_
      refine gw_iconst C (1 : Int32) d_Law_law_792 (by decide) ?_
      refine gw_iadd C d_Law_law_793 ?_
      obtain ⟨x794, hx794, hf1⟩ := mx_bd hf1
      obtain ⟨gx794, ex794⟩ := mx_ldI hx794
      refine gw_sld C hXs hbl hbA d_Law_law_794 gx794 ?_
      refine gw_topi ex794 ?_
      obtain ⟨q795, hq795, hf1⟩ := mx_bd hf1
      refine gw_callI C (c_Mod_envy _ hg k_169_0 hq795) d_Law_law_795 1 qw_1522 qw_1523 qw_1524 qw_12 qw_1525 k_169_0 (by decide) rfl hd_Mod_envy rfl rfl (Nat.le_of_ble_eq_true rfl) ⟨rfl, rfl, Nat.le_of_ble_eq_true rfl, Nat.le_of_ble_eq_true rfl⟩ (by first | exact hA0 | exact hA1) ?_
      refine gw_icmp_eq C 1381 d_Law_law_798 (by decide) (fun hc => ?_) (fun hc => ?_)
      · replace hf1 := mx_t hc hf1
        obtain ⟨x1381, ex1381, hf1⟩ := mx_lt hf1
        refine gw_iinc C 4 [(4, .int x1381), (0, .ref b), (1, .ref (ly_a L 0)), (2, .ref (ly_a L 169)), (3, .ref (ly_a L 190))] d_Law_law_1381 rfl (by rw [ex1381]; rfl) (by decide) rfl ?_
        refine gw_goto C 23 d_Law_law_1384 (by decide) ?_
        obtain ⟨hB1, hB2, hB3⟩ := lw_more hn gx36 ex1381
        exact gw_widen (by first | exact hB2.1 | exact hB3.1) (by first | exact hB2.2 | exact hB3.2) (gw_go [1, 2, 3, 4, 0] (ih23 (x1381, q795.2) (hb23.trans hf1.symm) hB1) rfl)
      · replace hf1 := mx_f hc hf1
        refine gw_iconst C (0 : Int32) d_Law_law_801 (by decide) ?_
        have hr23 := hx23 _ (hb23.trans hf1.symm)
        subst hr23
        replace hf0 := mx_sl hf0
        exact absurd (Option.some.inj hf0) (by decide)
    replace hf1 := mx_f hc17 hf1
    have hn17 := lv_neT hc17 (show ((17 : Int32)).toInt = 17 by decide)
    by_cases hc18 : x40 = (18 : Int32)
    · replace hf1 := mx_t hc18 hf1
      refine gw_tabEq (off := 763) C 803 hc18 d_Law_law_40 (by decide) (by decide) (by decide) (by decide) ?_
      refine gw_aload_n C 1 d_Law_law_803 rfl rfl ?_
      obtain ⟨q804, hq804, hf1⟩ := mx_bd hf1
      refine gw_callI C (c_Hat_worth _ hg k_0_0 hq804) d_Law_law_804 0 qw_766 qw_767 qw_768 qw_1 qw_769 k_0_0 (by decide) rfl hd_Hat_worth rfl rfl (Nat.le_of_ble_eq_true rfl) ⟨rfl, rfl, Nat.le_of_ble_eq_true rfl, Nat.le_of_ble_eq_true rfl⟩ (by first | exact hA0 | exact hA1) ?_
      refine gw_aload_n C 2 d_Law_law_807 rfl rfl ?_
      obtain ⟨q808, hq808, hf1⟩ := mx_bd hf1
      refine gw_callI C (c_Mod_worth _ hg k_169_0 hq808) d_Law_law_808 0 qw_1518 qw_1519 qw_1520 qw_12 qw_1521 k_169_0 (by decide) rfl hd_Mod_worth rfl rfl (Nat.le_of_ble_eq_true rfl) ⟨rfl, rfl, Nat.le_of_ble_eq_true rfl, Nat.le_of_ble_eq_true rfl⟩ (by first | exact hA0 | exact hA1) ?_
      refine gw_icmp_eq C 1381 d_Law_law_811 (by decide) (fun hc => ?_) (fun hc => ?_)
      · replace hf1 := mx_t hc hf1
        obtain ⟨x1381, ex1381, hf1⟩ := mx_lt hf1
        refine gw_iinc C 4 [(4, .int x1381), (0, .ref b), (1, .ref (ly_a L 0)), (2, .ref (ly_a L 169)), (3, .ref (ly_a L 190))] d_Law_law_1381 rfl (by rw [ex1381]; rfl) (by decide) rfl ?_
        refine gw_goto C 23 d_Law_law_1384 (by decide) ?_
        obtain ⟨hB1, hB2, hB3⟩ := lw_more hn gx36 ex1381
        exact gw_widen (by first | exact hB2.1 | exact hB3.1) (by first | exact hB2.2 | exact hB3.2) (gw_go [1, 2, 3, 4, 0] (ih23 (x1381, q808.2) (hb23.trans hf1.symm) hB1) rfl)
      · replace hf1 := mx_f hc hf1
        refine gw_iconst C (0 : Int32) d_Law_law_814 (by decide) ?_
        have hr23 := hx23 _ (hb23.trans hf1.symm)
        subst hr23
        replace hf0 := mx_sl hf0
        exact absurd (Option.some.inj hf0) (by decide)
    replace hf1 := mx_f hc18 hf1
    have hn18 := lv_neT hc18 (show ((18 : Int32)).toInt = 18 by decide)
    by_cases hc19 : x40 = (19 : Int32)
    · replace hf1 := mx_t hc19 hf1
      refine gw_tabEq (off := 776) C 816 hc19 d_Law_law_40 (by decide) (by decide) (by decide) (by decide) ?_
      refine gw_aload_n C 1 d_Law_law_816 rfl rfl ?_
      refine gw_aload_n C 0 d_Law_law_817 rfl rfl ?_
      refine gw_iload C 4 d_Law_law_818 rfl ?_
      refine gw_iconst C (1 : Int32) d_Law_law_820 (by decide) ?_
      refine gw_iadd C d_Law_law_821 ?_
      obtain ⟨x822, hx822, hf1⟩ := mx_bd hf1
      obtain ⟨gx822, ex822⟩ := mx_ldI hx822
      refine gw_sld C hXs hbl hbA d_Law_law_822 gx822 ?_
      refine gw_topi ex822 ?_
      refine gw_aload_n C 0 d_Law_law_823 rfl rfl ?_
      refine gw_iload C 4 d_Law_law_824 rfl ?_
      refine gw_iconst C (2 : Int32) d_Law_law_826 (by decide) ?_
      refine gw_iadd C d_Law_law_827 ?_
      obtain ⟨x828, hx828, hf1⟩ := mx_bd hf1
      obtain ⟨gx828, ex828⟩ := mx_ldI hx828
      refine gw_sld C hXs hbl hbA d_Law_law_828 gx828 ?_
      refine gw_topi ex828 ?_
      refine gw_aload_n C 3 d_Law_law_829 rfl rfl ?_
      obtain ⟨q830, hq830, hf1⟩ := mx_bd hf1
      refine gw_callW C hX (c_Law_waiting _ hl hg k_0_0 k_190_0 hq830) d_Law_law_830 4 qw_1079 qw_1080 qw_0 qw_1081 hd_Law_waiting rfl rfl (Nat.le_of_ble_eq_true rfl) ⟨rfl, rfl, (Nat.le_of_ble_eq_true rfl), (Nat.le_of_ble_eq_true rfl)⟩ hA1 ?_
      refine gw_istore C [(5, .int q830.1), (0, .ref b), (1, .ref (ly_a L 0)), (2, .ref (ly_a L 169)), (3, .ref (ly_a L 190)), (4, .int s23.1)] d_Law_law_833 (by decide) rfl ?_
      refine gw_aload_n C 3 d_Law_law_835 rfl rfl ?_
      refine gw_aload_n C 1 d_Law_law_836 rfl rfl ?_
      refine gw_iload C 5 d_Law_law_837 rfl ?_
      refine gw_iconst C (1 : Int32) d_Law_law_839 (by decide) ?_
      refine gw_iadd C d_Law_law_840 ?_
      obtain ⟨x841, hx841, hf1⟩ := mx_bd hf1
      obtain ⟨gx841, ex841⟩ := mx_ldI hx841
      refine gw_sld C hXs hbl hbA d_Law_law_841 gx841 ?_
      refine gw_topi ex841 ?_
      refine gw_aload_n C 1 d_Law_law_842 rfl rfl ?_
      refine gw_iload C 5 d_Law_law_843 rfl ?_
      refine gw_iconst C (2 : Int32) d_Law_law_845 (by decide) ?_
      refine gw_iadd C d_Law_law_846 ?_
      obtain ⟨x847, hx847, hf1⟩ := mx_bd hf1
      obtain ⟨gx847, ex847⟩ := mx_ldI hx847
      refine gw_sld C hXs hbl hbA d_Law_law_847 gx847 ?_
      refine gw_topi ex847 ?_
      obtain ⟨q848, hq848, hf1⟩ := mx_bd hf1
      refine gw_callI C (c_Mod_waiting _ hg k_169_0 hq848) d_Law_law_848 2 qw_1526 qw_1527 qw_1528 qw_12 qw_1529 k_169_0 (by decide) rfl hd_Mod_waiting rfl rfl (Nat.le_of_ble_eq_true rfl) ⟨rfl, rfl, Nat.le_of_ble_eq_true rfl, Nat.le_of_ble_eq_true rfl⟩ (by first | exact hA0 | exact hA1) ?_
      refine gw_istore C [(6, .int q848.1), (5, .int q830.1), (0, .ref b), (1, .ref (ly_a L 0)), (2, .ref (ly_a L 169)), (3, .ref (ly_a L 190)), (4, .int s23.1)] d_Law_law_851 (by decide) rfl ?_
      refine gw_aload_n C 4 d_Law_law_853 rfl rfl ?_
      obtain ⟨q854, hq854, hf1⟩ := mx_bd hf1
      refine gw_callI C (c_Mod_thrown _ hg k_169_0 hq854) d_Law_law_854 0 qw_1126 qw_1127 qw_1128 qw_12 qw_1129 k_169_0 (by decide) rfl hd_Mod_thrown rfl rfl (Nat.le_of_ble_eq_true rfl) ⟨rfl, rfl, Nat.le_of_ble_eq_true rfl, Nat.le_of_ble_eq_true rfl⟩ (by first | exact hA0 | exact hA1) ?_
      refine gw_iload C 1 d_Law_law_857 rfl ?_
      refine gw_icmp_eq C 864 d_Law_law_859 (by decide) (fun hc => ?_) (fun hc => ?_)
      · replace hf1 := mx_t hc hf1
        refine gw_iload C 1 d_Law_law_864 rfl ?_
        refine gw_if_ne C 881 d_Law_law_866 (by decide) (fun hc => ?_) (fun hc => ?_)
        · replace hf1 := mx_f hc hf1
          refine gw_goto C 1381 d_Law_law_881 (by decide) ?_
          obtain ⟨x1381, ex1381, hf1⟩ := mx_lt hf1
          refine gw_iinc C 6 [(4, .int x1381), (6, .int q848.1), (5, .int q830.1), (0, .ref b), (1, .ref (ly_a L 0)), (2, .ref (ly_a L 169)), (3, .ref (ly_a L 190))] d_Law_law_1381 rfl (by rw [ex1381]; rfl) (by decide) rfl ?_
          refine gw_goto C 23 d_Law_law_1384 (by decide) ?_
          obtain ⟨hB1, hB2, hB3⟩ := lw_more hn gx36 ex1381
          exact gw_widen (by first | exact hB2.1 | exact hB3.1) (by first | exact hB2.2 | exact hB3.2) (gw_go [3, 4, 5, 6, 0] (ih23 (x1381, q848.2) (hb23.trans hf1.symm) hB1) rfl)
        · replace hf1 := mx_t hc hf1
          refine gw_aload_n C 5 d_Law_law_869 rfl rfl ?_
          refine gw_iconst C (0 : Int32) d_Law_law_870 (by decide) ?_
          obtain ⟨x871, hx871, hf1⟩ := mx_bd hf1
          obtain ⟨gx871, ex871⟩ := mx_ldL hx871
          refine gw_lald C d_Law_law_871 k_190_0 gx871 ex871 ?_
          refine gw_iload C 0 d_Law_law_872 rfl ?_
          refine gw_i2l C d_Law_law_874 ?_
          refine gw_lcmp C d_Law_law_875 ?_
          refine gw_if_eq C 881 d_Law_law_876 (by decide) (fun hc => ?_) (fun hc => ?_)
          · replace hf1 := mx_t hc hf1
            refine gw_goto C 1381 d_Law_law_881 (by decide) ?_
            obtain ⟨x1381, ex1381, hf1⟩ := mx_lt hf1
            refine gw_iinc C 6 [(4, .int x1381), (6, .int q848.1), (5, .int q830.1), (0, .ref b), (1, .ref (ly_a L 0)), (2, .ref (ly_a L 169)), (3, .ref (ly_a L 190))] d_Law_law_1381 rfl (by rw [ex1381]; rfl) (by decide) rfl ?_
            refine gw_goto C 23 d_Law_law_1384 (by decide) ?_
            obtain ⟨hB1, hB2, hB3⟩ := lw_more hn gx36 ex1381
            exact gw_widen (by first | exact hB2.1 | exact hB3.1) (by first | exact hB2.2 | exact hB3.2) (gw_go [3, 4, 5, 6, 0] (ih23 (x1381, q848.2) (hb23.trans hf1.symm) hB1) rfl)
          · replace hf1 := mx_f hc hf1
            refine gw_iconst C (0 : Int32) d_Law_law_879 (by decide) ?_
            have hr23 := hx23 _ (hb23.trans hf1.symm)
            subst hr23
            replace hf0 := mx_sl hf0
            exact absurd (Option.some.inj hf0) (by decide)
      · replace hf1 := mx_f hc hf1
        refine gw_iconst C (0 : Int32) d_Law_law_862 (by decide) ?_
        have hr23 := hx23 _ (hb23.trans hf1.symm)
        subst hr23
        replace hf0 := mx_sl hf0
        exact absurd (Option.some.inj hf0) (by decide)
    replace hf1 := mx_f hc19 hf1
    have hn19 := lv_neT hc19 (show ((19 : Int32)).toInt = 19 by decide)
    by_cases hc20 : x40 = (20 : Int32)
    · replace hf1 := mx_t hc20 hf1
      refine gw_tabEq (off := 844) C 884 hc20 d_Law_law_40 (by decide) (by decide) (by decide) (by decide) ?_
      refine gw_aload_n C 1 d_Law_law_884 rfl rfl ?_
      refine gw_aload_n C 0 d_Law_law_885 rfl rfl ?_
      refine gw_iload C 4 d_Law_law_886 rfl ?_
      refine gw_iconst C (1 : Int32) d_Law_law_888 (by decide) ?_
      refine gw_iadd C d_Law_law_889 ?_
      obtain ⟨x890, hx890, hf1⟩ := mx_bd hf1
      obtain ⟨gx890, ex890⟩ := mx_ldI hx890
      refine gw_sld C hXs hbl hbA d_Law_law_890 gx890 ?_
      refine gw_topi ex890 ?_
      refine gw_aload_n C 0 d_Law_law_891 rfl rfl ?_
      refine gw_iload C 4 d_Law_law_892 rfl ?_
      refine gw_iconst C (2 : Int32) d_Law_law_894 (by decide) ?_
      refine gw_iadd C d_Law_law_895 ?_
      obtain ⟨x896, hx896, hf1⟩ := mx_bd hf1
      obtain ⟨gx896, ex896⟩ := mx_ldI hx896
      refine gw_sld C hXs hbl hbA d_Law_law_896 gx896 ?_
      refine gw_topi ex896 ?_
      refine gw_aload_n C 0 d_Law_law_897 rfl rfl ?_
      refine gw_iload C 4 d_Law_law_898 rfl ?_
      refine gw_iconst C (3 : Int32) d_Law_law_900 (by decide) ?_
      refine gw_iadd C d_Law_law_901 ?_
      obtain ⟨x902, hx902, hf1⟩ := mx_bd hf1
      obtain ⟨gx902, ex902⟩ := mx_ldI hx902
      refine gw_sld C hXs hbl hbA d_Law_law_902 gx902 ?_
      refine gw_topi ex902 ?_
      refine gw_aload_n C 0 d_Law_law_903 rfl rfl ?_
      refine gw_iload C 4 d_Law_law_904 rfl ?_
      refine gw_iconst C (4 : Int32) d_Law_law_906 (by decide) ?_
      refine gw_iadd C d_Law_law_907 ?_
      obtain ⟨x908, hx908, hf1⟩ := mx_bd hf1
      obtain ⟨gx908, ex908⟩ := mx_ldI hx908
      refine gw_sld C hXs hbl hbA d_Law_law_908 gx908 ?_
      refine gw_topi ex908 ?_
      refine gw_aload_n C 3 d_Law_law_909 rfl rfl ?_
      obtain ⟨q910, hq910, hf1⟩ := mx_bd hf1
      refine gw_callW C hX (c_Law_wedding _ hl hg k_0_0 k_190_0 hq910) d_Law_law_910 6 qw_1093 qw_1094 qw_0 qw_1095 hd_Law_wedding rfl rfl (Nat.le_of_ble_eq_true rfl) ⟨rfl, rfl, (Nat.le_of_ble_eq_true rfl), (Nat.le_of_ble_eq_true rfl)⟩ hA1 ?_
      refine gw_istore C [(5, .int q910.1), (0, .ref b), (1, .ref (ly_a L 0)), (2, .ref (ly_a L 169)), (3, .ref (ly_a L 190)), (4, .int s23.1)] d_Law_law_913 (by decide) rfl ?_
      refine gw_aload_n C 3 d_Law_law_915 rfl rfl ?_
      refine gw_aload_n C 1 d_Law_law_916 rfl rfl ?_
      refine gw_iload C 5 d_Law_law_917 rfl ?_
      refine gw_iconst C (1 : Int32) d_Law_law_919 (by decide) ?_
      refine gw_iadd C d_Law_law_920 ?_
      obtain ⟨x921, hx921, hf1⟩ := mx_bd hf1
      obtain ⟨gx921, ex921⟩ := mx_ldI hx921
      refine gw_sld C hXs hbl hbA d_Law_law_921 gx921 ?_
      refine gw_topi ex921 ?_
      refine gw_aload_n C 1 d_Law_law_922 rfl rfl ?_
      refine gw_iload C 5 d_Law_law_923 rfl ?_
      refine gw_iconst C (2 : Int32) d_Law_law_925 (by decide) ?_
      refine gw_iadd C d_Law_law_926 ?_
      obtain ⟨x927, hx927, hf1⟩ := mx_bd hf1
      obtain ⟨gx927, ex927⟩ := mx_ldI hx927
      refine gw_sld C hXs hbl hbA d_Law_law_927 gx927 ?_
      refine gw_topi ex927 ?_
      refine gw_aload_n C 1 d_Law_law_928 rfl rfl ?_
      refine gw_iload C 5 d_Law_law_929 rfl ?_
      refine gw_iconst C (3 : Int32) d_Law_law_931 (by decide) ?_
      refine gw_iadd C d_Law_law_932 ?_
      obtain ⟨x933, hx933, hf1⟩ := mx_bd hf1
      obtain ⟨gx933, ex933⟩ := mx_ldI hx933
      refine gw_sld C hXs hbl hbA d_Law_law_933 gx933 ?_
      refine gw_topi ex933 ?_
      refine gw_aload_n C 1 d_Law_law_934 rfl rfl ?_
      refine gw_iload C 5 d_Law_law_935 rfl ?_
      refine gw_iconst C (4 : Int32) d_Law_law_937 (by decide) ?_
      refine gw_iadd C d_Law_law_938 ?_
      obtain ⟨x939, hx939, hf1⟩ := mx_bd hf1
      obtain ⟨gx939, ex939⟩ := mx_ldI hx939
      refine gw_sld C hXs hbl hbA d_Law_law_939 gx939 ?_
      refine gw_topi ex939 ?_
      obtain ⟨q940, hq940, hf1⟩ := mx_bd hf1
      refine gw_callI C (c_Mod_wedding _ hg k_169_0 hq940) d_Law_law_940 4 qw_1536 qw_1537 qw_1538 qw_12 qw_1539 k_169_0 (by decide) rfl hd_Mod_wedding rfl rfl (Nat.le_of_ble_eq_true rfl) ⟨rfl, rfl, Nat.le_of_ble_eq_true rfl, Nat.le_of_ble_eq_true rfl⟩ (by first | exact hA0 | exact hA1) ?_
      refine gw_istore C [(6, .int q940.1), (5, .int q910.1), (0, .ref b), (1, .ref (ly_a L 0)), (2, .ref (ly_a L 169)), (3, .ref (ly_a L 190)), (4, .int s23.1)] d_Law_law_943 (by decide) rfl ?_
      refine gw_aload_n C 4 d_Law_law_945 rfl rfl ?_
      obtain ⟨q946, hq946, hf1⟩ := mx_bd hf1
      refine gw_callI C (c_Mod_thrown _ hg k_169_0 hq946) d_Law_law_946 0 qw_1126 qw_1127 qw_1128 qw_12 qw_1129 k_169_0 (by decide) rfl hd_Mod_thrown rfl rfl (Nat.le_of_ble_eq_true rfl) ⟨rfl, rfl, Nat.le_of_ble_eq_true rfl, Nat.le_of_ble_eq_true rfl⟩ (by first | exact hA0 | exact hA1) ?_
      refine gw_iload C 1 d_Law_law_949 rfl ?_
      refine gw_icmp_eq C 956 d_Law_law_951 (by decide) (fun hc => ?_) (fun hc => ?_)
      · replace hf1 := mx_t hc hf1
        refine gw_iload C 1 d_Law_law_956 rfl ?_
        refine gw_if_ne C 973 d_Law_law_958 (by decide) (fun hc => ?_) (fun hc => ?_)
        · replace hf1 := mx_f hc hf1
          refine gw_goto C 1381 d_Law_law_973 (by decide) ?_
          obtain ⟨x1381, ex1381, hf1⟩ := mx_lt hf1
          refine gw_iinc C 6 [(4, .int x1381), (6, .int q940.1), (5, .int q910.1), (0, .ref b), (1, .ref (ly_a L 0)), (2, .ref (ly_a L 169)), (3, .ref (ly_a L 190))] d_Law_law_1381 rfl (by rw [ex1381]; rfl) (by decide) rfl ?_
          refine gw_goto C 23 d_Law_law_1384 (by decide) ?_
          obtain ⟨hB1, hB2, hB3⟩ := lw_more hn gx36 ex1381
          exact gw_widen (by first | exact hB2.1 | exact hB3.1) (by first | exact hB2.2 | exact hB3.2) (gw_go [3, 4, 5, 6, 0] (ih23 (x1381, q940.2) (hb23.trans hf1.symm) hB1) rfl)
        · replace hf1 := mx_t hc hf1
          refine gw_aload_n C 5 d_Law_law_961 rfl rfl ?_
          refine gw_iconst C (0 : Int32) d_Law_law_962 (by decide) ?_
          obtain ⟨x963, hx963, hf1⟩ := mx_bd hf1
          obtain ⟨gx963, ex963⟩ := mx_ldL hx963
          refine gw_lald C d_Law_law_963 k_190_0 gx963 ex963 ?_
          refine gw_iload C 0 d_Law_law_964 rfl ?_
          refine gw_i2l C d_Law_law_966 ?_
          refine gw_lcmp C d_Law_law_967 ?_
          refine gw_if_eq C 973 d_Law_law_968 (by decide) (fun hc => ?_) (fun hc => ?_)
          · replace hf1 := mx_t hc hf1
            refine gw_goto C 1381 d_Law_law_973 (by decide) ?_
            obtain ⟨x1381, ex1381, hf1⟩ := mx_lt hf1
            refine gw_iinc C 6 [(4, .int x1381), (6, .int q940.1), (5, .int q910.1), (0, .ref b), (1, .ref (ly_a L 0)), (2, .ref (ly_a L 169)), (3, .ref (ly_a L 190))] d_Law_law_1381 rfl (by rw [ex1381]; rfl) (by decide) rfl ?_
            refine gw_goto C 23 d_Law_law_1384 (by decide) ?_
            obtain ⟨hB1, hB2, hB3⟩ := lw_more hn gx36 ex1381
            exact gw_widen (by first | exact hB2.1 | exact hB3.1) (by first | exact hB2.2 | exact hB3.2) (gw_go [3, 4, 5, 6, 0] (ih23 (x1381, q940.2) (hb23.trans hf1.symm) hB1) rfl)
          · replace hf1 := mx_f hc hf1
            refine gw_iconst C (0 : Int32) d_Law_law_971 (by decide) ?_
            have hr23 := hx23 _ (hb23.trans hf1.symm)
            subst hr23
            replace hf0 := mx_sl hf0
            exact absurd (Option.some.inj hf0) (by decide)
      · replace hf1 := mx_f hc hf1
        refine gw_iconst C (0 : Int32) d_Law_law_954 (by decide) ?_
        have hr23 := hx23 _ (hb23.trans hf1.symm)
        subst hr23
        replace hf0 := mx_sl hf0
        exact absurd (Option.some.inj hf0) (by decide)
    replace hf1 := mx_f hc20 hf1
    have hn20 := lv_neT hc20 (show ((20 : Int32)).toInt = 20 by decide)
    by_cases hc21 : x40 = (21 : Int32)
    · replace hf1 := mx_t hc21 hf1
      refine gw_tabEq (off := 936) C 976 hc21 d_Law_law_40 (by decide) (by decide) (by decide) (by decide) ?_
      refine gw_aload_n C 1 d_Law_law_976 rfl rfl ?_
      obtain ⟨q977, hq977, hf1⟩ := mx_bd hf1
      refine gw_callI C (c_Hat_broken _ hg k_0_0 hq977) d_Law_law_977 0 qw_883 qw_884 qw_885 qw_1 qw_886 k_0_0 (by decide) rfl hd_Hat_broken rfl rfl (Nat.le_of_ble_eq_true rfl) ⟨rfl, rfl, Nat.le_of_ble_eq_true rfl, Nat.le_of_ble_eq_true rfl⟩ (by first | exact hA0 | exact hA1) ?_
      refine gw_aload_n C 2 d_Law_law_980 rfl rfl ?_
      obtain ⟨q981, hq981, hf1⟩ := mx_bd hf1
      refine gw_callI C (c_Mod_broken _ hg k_169_0 hq981) d_Law_law_981 0 qw_1540 qw_1541 qw_1542 qw_12 qw_1543 k_169_0 (by decide) rfl hd_Mod_broken rfl rfl (Nat.le_of_ble_eq_true rfl) ⟨rfl, rfl, Nat.le_of_ble_eq_true rfl, Nat.le_of_ble_eq_true rfl⟩ (by first | exact hA0 | exact hA1) ?_
      refine gw_icmp_eq C 1381 d_Law_law_984 (by decide) (fun hc => ?_) (fun hc => ?_)
      · replace hf1 := mx_t hc hf1
        obtain ⟨x1381, ex1381, hf1⟩ := mx_lt hf1
        refine gw_iinc C 4 [(4, .int x1381), (0, .ref b), (1, .ref (ly_a L 0)), (2, .ref (ly_a L 169)), (3, .ref (ly_a L 190))] d_Law_law_1381 rfl (by rw [ex1381]; rfl) (by decide) rfl ?_
        refine gw_goto C 23 d_Law_law_1384 (by decide) ?_
        obtain ⟨hB1, hB2, hB3⟩ := lw_more hn gx36 ex1381
        exact gw_widen (by first | exact hB2.1 | exact hB3.1) (by first | exact hB2.2 | exact hB3.2) (gw_go [1, 2, 3, 4, 0] (ih23 (x1381, q981.2) (hb23.trans hf1.symm) hB1) rfl)
      · replace hf1 := mx_f hc hf1
        refine gw_iconst C (0 : Int32) d_Law_law_987 (by decide) ?_
        have hr23 := hx23 _ (hb23.trans hf1.symm)
        subst hr23
        replace hf0 := mx_sl hf0
        exact absurd (Option.some.inj hf0) (by decide)
    replace hf1 := mx_f hc21 hf1
    have hn21 := lv_neT hc21 (show ((21 : Int32)).toInt = 21 by decide)
    by_cases hc22 : x40 = (22 : Int32)
    · replace hf1 := mx_t hc22 hf1
      refine gw_tabEq (off := 949) C 989 hc22 d_Law_law_40 (by decide) (by decide) (by decide) (by decide) ?_
      refine gw_aload_n C 1 d_Law_law_989 rfl rfl ?_
      obtain ⟨q990, hq990, hf1⟩ := mx_bd hf1
      refine gw_callI C (c_Hat_seats _ hg k_0_0 hq990) d_Law_law_990 0 qw_892 qw_893 qw_894 qw_1 qw_895 k_0_0 (by decide) rfl hd_Hat_seats rfl rfl (Nat.le_of_ble_eq_true rfl) ⟨rfl, rfl, Nat.le_of_ble_eq_true rfl, Nat.le_of_ble_eq_true rfl⟩ (by first | exact hA0 | exact hA1) ?_
      refine gw_aload_n C 2 d_Law_law_993 rfl rfl ?_
      obtain ⟨q994, hq994, hf1⟩ := mx_bd hf1
      refine gw_callI C (c_Mod_seats _ hg k_169_0 hq994) d_Law_law_994 0 qw_1548 qw_1549 qw_1550 qw_12 qw_1551 k_169_0 (by decide) rfl hd_Mod_seats rfl rfl (Nat.le_of_ble_eq_true rfl) ⟨rfl, rfl, Nat.le_of_ble_eq_true rfl, Nat.le_of_ble_eq_true rfl⟩ (by first | exact hA0 | exact hA1) ?_
      refine gw_icmp_eq C 1381 d_Law_law_997 (by decide) (fun hc => ?_) (fun hc => ?_)
      · replace hf1 := mx_t hc hf1
        obtain ⟨x1381, ex1381, hf1⟩ := mx_lt hf1
        refine gw_iinc C 4 [(4, .int x1381), (0, .ref b), (1, .ref (ly_a L 0)), (2, .ref (ly_a L 169)), (3, .ref (ly_a L 190))] d_Law_law_1381 rfl (by rw [ex1381]; rfl) (by decide) rfl ?_
        refine gw_goto C 23 d_Law_law_1384 (by decide) ?_
        obtain ⟨hB1, hB2, hB3⟩ := lw_more hn gx36 ex1381
        exact gw_widen (by first | exact hB2.1 | exact hB3.1) (by first | exact hB2.2 | exact hB3.2) (gw_go [1, 2, 3, 4, 0] (ih23 (x1381, q994.2) (hb23.trans hf1.symm) hB1) rfl)
      · replace hf1 := mx_f hc hf1
        refine gw_iconst C (0 : Int32) d_Law_law_1000 (by decide) ?_
        have hr23 := hx23 _ (hb23.trans hf1.symm)
        subst hr23
        replace hf0 := mx_sl hf0
        exact absurd (Option.some.inj hf0) (by decide)
    replace hf1 := mx_f hc22 hf1
    have hn22 := lv_neT hc22 (show ((22 : Int32)).toInt = 22 by decide)
    by_cases hc23 : x40 = (23 : Int32)
    · replace hf1 := mx_t hc23 hf1
      refine gw_tabEq (off := 962) C 1002 hc23 d_Law_law_40 (by decide) (by decide) (by decide) (by decide) ?_
      refine gw_aload_n C 1 d_Law_law_1002 rfl rfl ?_
      refine gw_aload_n C 0 d_Law_law_1003 rfl rfl ?_
      refine gw_iload C 4 d_Law_law_1004 rfl ?_
      refine gw_iconst C (1 : Int32) d_Law_law_1006 (by decide) ?_
      refine gw_iadd C d_Law_law_1007 ?_
      obtain ⟨x1008, hx1008, hf1⟩ := mx_bd hf1
      obtain ⟨gx1008, ex1008⟩ := mx_ldI hx1008
      refine gw_sld C hXs hbl hbA d_Law_law_1008 gx1008 ?_
      refine gw_topi ex1008 ?_
      obtain ⟨q1009, hq1009, hf1⟩ := mx_bd hf1
      refine gw_callI C (c_Hat_seatOf _ hg k_0_0 hq1009) d_Law_law_1009 1 qw_909 qw_910 qw_911 qw_1 qw_912 k_0_0 (by decide) rfl hd_Hat_seatOf rfl rfl (Nat.le_of_ble_eq_true rfl) ⟨rfl, rfl, Nat.le_of_ble_eq_true rfl, Nat.le_of_ble_eq_true rfl⟩ (by first | exact hA0 | exact hA1) ?_
      refine gw_aload_n C 2 d_Law_law_1012 rfl rfl ?_
      refine gw_aload_n C 0 d_Law_law_1013 rfl rfl ?_
      refine gw_iload C 4 d_Law_law_1014 rfl ?_
      refine gw_iconst C (1 : Int32) d_Law_law_1016 (by decide) ?_
      refine gw_iadd C d_Law_law_1017 ?_
      obtain ⟨x1018, hx1018, hf1⟩ := mx_bd hf1
      obtain ⟨gx1018, ex1018⟩ := mx_ldI hx1018
      refine gw_sld C hXs hbl hbA d_Law_law_1018 gx1018 ?_
      refine gw_topi ex1018 ?_
      obtain ⟨q1019, hq1019, hf1⟩ := mx_bd hf1
      refine gw_callI C (c_Mod_seatOf _ hg k_169_0 hq1019) d_Law_law_1019 1 qw_1557 qw_1558 qw_1559 qw_12 qw_1560 k_169_0 (by decide) rfl hd_Mod_seatOf rfl rfl (Nat.le_of_ble_eq_true rfl) ⟨rfl, rfl, Nat.le_of_ble_eq_true rfl, Nat.le_of_ble_eq_true rfl⟩ (by first | exact hA0 | exact hA1) ?_
      refine gw_icmp_eq C 1381 d_Law_law_1022 (by decide) (fun hc => ?_) (fun hc => ?_)
      · replace hf1 := mx_t hc hf1
        obtain ⟨x1381, ex1381, hf1⟩ := mx_lt hf1
        refine gw_iinc C 4 [(4, .int x1381), (0, .ref b), (1, .ref (ly_a L 0)), (2, .ref (ly_a L 169)), (3, .ref (ly_a L 190))] d_Law_law_1381 rfl (by rw [ex1381]; rfl) (by decide) rfl ?_
        refine gw_goto C 23 d_Law_law_1384 (by decide) ?_
        obtain ⟨hB1, hB2, hB3⟩ := lw_more hn gx36 ex1381
        exact gw_widen (by first | exact hB2.1 | exact hB3.1) (by first | exact hB2.2 | exact hB3.2) (gw_go [1, 2, 3, 4, 0] (ih23 (x1381, q1019.2) (hb23.trans hf1.symm) hB1) rfl)
      · replace hf1 := mx_f hc hf1
        refine gw_iconst C (0 : Int32) d_Law_law_1025 (by decide) ?_
        have hr23 := hx23 _ (hb23.trans hf1.symm)
        subst hr23
        replace hf0 := mx_sl hf0
        exact absurd (Option.some.inj hf0) (by decide)
    replace hf1 := mx_f hc23 hf1
    have hn23 := lv_neT hc23 (show ((23 : Int32)).toInt = 23 by decide)
    by_cases hc24 : x40 = (24 : Int32)
    · replace hf1 := mx_t hc24 hf1
      refine gw_tabEq (off := 987) C 1027 hc24 d_Law_law_40 (by decide) (by decide) (by decide) (by decide) ?_
      refine gw_aload_n C 1 d_Law_law_1027 rfl rfl ?_
      obtain ⟨q1028, hq1028, hf1⟩ := mx_bd hf1
      refine gw_callI C (c_Hat_sit _ hg k_0_0 hq1028) d_Law_law_1028 0 qw_913 qw_914 qw_915 qw_1 qw_916 k_0_0 (by decide) rfl hd_Hat_sit rfl rfl (Nat.le_of_ble_eq_true rfl) ⟨rfl, rfl, Nat.le_of_ble_eq_true rfl, Nat.le_of_ble_eq_true rfl⟩ (by first | exact hA0 | exact hA1) ?_
      refine gw_aload_n C 2 d_Law_law_1031 rfl rfl ?_
      obtain ⟨q1032, hq1032, hf1⟩ := mx_bd hf1
      refine gw_callI C (c_Mod_sit _ hg k_169_0 hq1032) d_Law_law_1032 0 qw_1561 qw_1562 qw_1563 qw_12 qw_1564 k_169_0 (by decide) rfl hd_Mod_sit rfl rfl (Nat.le_of_ble_eq_true rfl) ⟨rfl, rfl, Nat.le_of_ble_eq_true rfl, Nat.le_of_ble_eq_true rfl⟩ (by first | exact hA0 | exact hA1) ?_
      refine gw_icmp_eq C 1381 d_Law_law_1035 (by decide) (fun hc => ?_) (fun hc => ?_)
      · replace hf1 := mx_t hc hf1
        obtain ⟨x1381, ex1381, hf1⟩ := mx_lt hf1
        refine gw_iinc C 4 [(4, .int x1381), (0, .ref b), (1, .ref (ly_a L 0)), (2, .ref (ly_a L 169)), (3, .ref (ly_a L 190))] d_Law_law_1381 rfl (by rw [ex1381]; rfl) (by decide) rfl ?_
        refine gw_goto C 23 d_Law_law_1384 (by decide) ?_
        obtain ⟨hB1, hB2, hB3⟩ := lw_more hn gx36 ex1381
        exact gw_widen (by first | exact hB2.1 | exact hB3.1) (by first | exact hB2.2 | exact hB3.2) (gw_go [1, 2, 3, 4, 0] (ih23 (x1381, q1032.2) (hb23.trans hf1.symm) hB1) rfl)
      · replace hf1 := mx_f hc hf1
        refine gw_iconst C (0 : Int32) d_Law_law_1038 (by decide) ?_
        have hr23 := hx23 _ (hb23.trans hf1.symm)
        subst hr23
        replace hf0 := mx_sl hf0
        exact absurd (Option.some.inj hf0) (by decide)
    replace hf1 := mx_f hc24 hf1
    have hn24 := lv_neT hc24 (show ((24 : Int32)).toInt = 24 by decide)
    by_cases hc25 : x40 = (25 : Int32)
    · replace hf1 := mx_t hc25 hf1
      refine gw_tabEq (off := 1000) C 1040 hc25 d_Law_law_40 (by decide) (by decide) (by decide) (by decide) ?_
      refine gw_aload_n C 1 d_Law_law_1040 rfl rfl ?_
      obtain ⟨q1041, hq1041, hf1⟩ := mx_bd hf1
      refine gw_callI C (c_Hat_roll _ hg k_0_0 hq1041) d_Law_law_1041 0 qw_700 qw_701 qw_702 qw_1 qw_703 k_0_0 (by decide) rfl hd_Hat_roll rfl rfl (Nat.le_of_ble_eq_true rfl) ⟨rfl, rfl, Nat.le_of_ble_eq_true rfl, Nat.le_of_ble_eq_true rfl⟩ (by first | exact hA0 | exact hA1) ?_
      refine gw_aload_n C 2 d_Law_law_1044 rfl rfl ?_
      obtain ⟨q1045, hq1045, hf1⟩ := mx_bd hf1
      refine gw_callI C (c_Mod_roll _ hg k_169_0 hq1045) d_Law_law_1045 0 qw_1565 qw_1566 qw_1567 qw_12 qw_1568 k_169_0 (by decide) rfl hd_Mod_roll rfl rfl (Nat.le_of_ble_eq_true rfl) ⟨rfl, rfl, Nat.le_of_ble_eq_true rfl, Nat.le_of_ble_eq_true rfl⟩ (by first | exact hA0 | exact hA1) ?_
      refine gw_icmp_eq C 1381 d_Law_law_1048 (by decide) (fun hc => ?_) (fun hc => ?_)
      · replace hf1 := mx_t hc hf1
        obtain ⟨x1381, ex1381, hf1⟩ := mx_lt hf1
        refine gw_iinc C 4 [(4, .int x1381), (0, .ref b), (1, .ref (ly_a L 0)), (2, .ref (ly_a L 169)), (3, .ref (ly_a L 190))] d_Law_law_1381 rfl (by rw [ex1381]; rfl) (by decide) rfl ?_
        refine gw_goto C 23 d_Law_law_1384 (by decide) ?_
        obtain ⟨hB1, hB2, hB3⟩ := lw_more hn gx36 ex1381
        exact gw_widen (by first | exact hB2.1 | exact hB3.1) (by first | exact hB2.2 | exact hB3.2) (gw_go [1, 2, 3, 4, 0] (ih23 (x1381, q1045.2) (hb23.trans hf1.symm) hB1) rfl)
      · replace hf1 := mx_f hc hf1
        refine gw_iconst C (0 : Int32) d_Law_law_1051 (by decide) ?_
        have hr23 := hx23 _ (hb23.trans hf1.symm)
        subst hr23
        replace hf0 := mx_sl hf0
        exact absurd (Option.some.inj hf0) (by decide)
    replace hf1 := mx_f hc25 hf1
    have hn25 := lv_neT hc25 (show ((25 : Int32)).toInt = 25 by decide)
    by_cases hc26 : x40 = (26 : Int32)
    · replace hf1 := mx_t hc26 hf1
      refine gw_tabEq (off := 1013) C 1053 hc26 d_Law_law_40 (by decide) (by decide) (by decide) (by decide) ?_
      refine gw_aload_n C 1 d_Law_law_1053 rfl rfl ?_
      obtain ⟨q1054, hq1054, hf1⟩ := mx_bd hf1
      refine gw_callI C (c_Hat_dealings _ hg k_0_0 hq1054) d_Law_law_1054 0 qw_917 qw_918 qw_919 qw_1 qw_920 k_0_0 (by decide) rfl hd_Hat_dealings rfl rfl (Nat.le_of_ble_eq_true rfl) ⟨rfl, rfl, Nat.le_of_ble_eq_true rfl, Nat.le_of_ble_eq_true rfl⟩ (by first | exact hA0 | exact hA1) ?_
      refine gw_aload_n C 2 d_Law_law_1057 rfl rfl ?_
      obtain ⟨q1058, hq1058, hf1⟩ := mx_bd hf1
      refine gw_callI C (c_Mod_dealings _ hg k_169_0 hq1058) d_Law_law_1058 0 qw_1573 qw_1574 qw_1575 qw_12 qw_1576 k_169_0 (by decide) rfl hd_Mod_dealings rfl rfl (Nat.le_of_ble_eq_true rfl) ⟨rfl, rfl, Nat.le_of_ble_eq_true rfl, Nat.le_of_ble_eq_true rfl⟩ (by first | exact hA0 | exact hA1) ?_
      refine gw_icmp_eq C 1381 d_Law_law_1061 (by decide) (fun hc => ?_) (fun hc => ?_)
      · replace hf1 := mx_t hc hf1
        obtain ⟨x1381, ex1381, hf1⟩ := mx_lt hf1
        refine gw_iinc C 4 [(4, .int x1381), (0, .ref b), (1, .ref (ly_a L 0)), (2, .ref (ly_a L 169)), (3, .ref (ly_a L 190))] d_Law_law_1381 rfl (by rw [ex1381]; rfl) (by decide) rfl ?_
        refine gw_goto C 23 d_Law_law_1384 (by decide) ?_
        obtain ⟨hB1, hB2, hB3⟩ := lw_more hn gx36 ex1381
        exact gw_widen (by first | exact hB2.1 | exact hB3.1) (by first | exact hB2.2 | exact hB3.2) (gw_go [1, 2, 3, 4, 0] (ih23 (x1381, q1058.2) (hb23.trans hf1.symm) hB1) rfl)
      · replace hf1 := mx_f hc hf1
        refine gw_iconst C (0 : Int32) d_Law_law_1064 (by decide) ?_
        have hr23 := hx23 _ (hb23.trans hf1.symm)
        subst hr23
        replace hf0 := mx_sl hf0
        exact absurd (Option.some.inj hf0) (by decide)
    replace hf1 := mx_f hc26 hf1
    have hn26 := lv_neT hc26 (show ((26 : Int32)).toInt = 26 by decide)
    by_cases hc27 : x40 = (27 : Int32)
    · replace hf1 := mx_t hc27 hf1
      refine gw_tabEq (off := 1026) C 1066 hc27 d_Law_law_40 (by decide) (by decide) (by decide) (by decide) ?_
      refine gw_aload_n C 1 d_Law_law_1066 rfl rfl ?_
      refine gw_aload_n C 0 d_Law_law_1067 rfl rfl ?_
      refine gw_iload C 4 d_Law_law_1068 rfl ?_
      refine gw_iconst C (1 : Int32) d_Law_law_1070 (by decide) ?_
      refine gw_iadd C d_Law_law_1071 ?_
      obtain ⟨x1072, hx1072, hf1⟩ := mx_bd hf1
      obtain ⟨gx1072, ex1072⟩ := mx_ldI hx1072
      refine gw_sld C hXs hbl hbA d_Law_law_1072 gx1072 ?_
      refine gw_topi ex1072 ?_
      refine gw_aload_n C 0 d_Law_law_1073 rfl rfl ?_
      refine gw_iload C 4 d_Law_law_1074 rfl ?_
      refine gw_iconst C (2 : Int32) d_Law_law_1076 (by decide) ?_
      refine gw_iadd C d_Law_law_1077 ?_
      obtain ⟨x1078, hx1078, hf1⟩ := mx_bd hf1
      obtain ⟨gx1078, ex1078⟩ := mx_ldI hx1078
      refine gw_sld C hXs hbl hbA d_Law_law_1078 gx1078 ?_
      refine gw_topi ex1078 ?_
      obtain ⟨q1079, hq1079, hf1⟩ := mx_bd hf1
      refine gw_callI C (c_Hat_dealt _ hg k_0_0 hq1079) d_Law_law_1079 2 qw_932 qw_933 qw_934 qw_1 qw_935 k_0_0 (by decide) rfl hd_Hat_dealt rfl rfl (Nat.le_of_ble_eq_true rfl) ⟨rfl, rfl, Nat.le_of_ble_eq_true rfl, Nat.le_of_ble_eq_true rfl⟩ (by first | exact hA0 | exact hA1) ?_
      refine gw_aload_n C 2 d_Law_law_1082 rfl rfl ?_
      refine gw_aload_n C 0 d_Law_law_1083 rfl rfl ?_
      refine gw_iload C 4 d_Law_law_1084 rfl ?_
      refine gw_iconst C (1 : Int32) d_Law_law_1086 (by decide) ?_
      refine gw_iadd C d_Law_law_1087 ?_
      obtain ⟨x1088, hx1088, hf1⟩ := mx_bd hf1
      obtain ⟨gx1088, ex1088⟩ := mx_ldI hx1088
      refine gw_sld C hXs hbl hbA d_Law_law_1088 gx1088 ?_
      refine gw_topi ex1088 ?_
      refine gw_aload_n C 0 d_Law_law_1089 rfl rfl ?_
      refine gw_iload C 4 d_Law_law_1090 rfl ?_
      refine gw_iconst C (2 : Int32) d_Law_law_1092 (by decide) ?_
      refine gw_iadd C d_Law_law_1093 ?_
      obtain ⟨x1094, hx1094, hf1⟩ := mx_bd hf1
      obtain ⟨gx1094, ex1094⟩ := mx_ldI hx1094
      refine gw_sld C hXs hbl hbA d_Law_law_1094 gx1094 ?_
      refine gw_topi ex1094 ?_
      obtain ⟨q1095, hq1095, hf1⟩ := mx_bd hf1
      refine gw_callI C (c_Mod_dealt _ hg k_169_0 hq1095) d_Law_law_1095 2 qw_1581 qw_1582 qw_1583 qw_12 qw_1584 k_169_0 (by decide) rfl hd_Mod_dealt rfl rfl (Nat.le_of_ble_eq_true rfl) ⟨rfl, rfl, Nat.le_of_ble_eq_true rfl, Nat.le_of_ble_eq_true rfl⟩ (by first | exact hA0 | exact hA1) ?_
      refine gw_icmp_eq C 1381 d_Law_law_1098 (by decide) (fun hc => ?_) (fun hc => ?_)
      · replace hf1 := mx_t hc hf1
        obtain ⟨x1381, ex1381, hf1⟩ := mx_lt hf1
        refine gw_iinc C 4 [(4, .int x1381), (0, .ref b), (1, .ref (ly_a L 0)), (2, .ref (ly_a L 169)), (3, .ref (ly_a L 190))] d_Law_law_1381 rfl (by rw [ex1381]; rfl) (by decide) rfl ?_
        refine gw_goto C 23 d_Law_law_1384 (by decide) ?_
        obtain ⟨hB1, hB2, hB3⟩ := lw_more hn gx36 ex1381
        exact gw_widen (by first | exact hB2.1 | exact hB3.1) (by first | exact hB2.2 | exact hB3.2) (gw_go [1, 2, 3, 4, 0] (ih23 (x1381, q1095.2) (hb23.trans hf1.symm) hB1) rfl)
      · replace hf1 := mx_f hc hf1
        refine gw_iconst C (0 : Int32) d_Law_law_1101 (by decide) ?_
        have hr23 := hx23 _ (hb23.trans hf1.symm)
        subst hr23
        replace hf0 := mx_sl hf0
        exact absurd (Option.some.inj hf0) (by decide)
    replace hf1 := mx_f hc27 hf1
    have hn27 := lv_neT hc27 (show ((27 : Int32)).toInt = 27 by decide)
    by_cases hc28 : x40 = (28 : Int32)
    · replace hf1 := mx_t hc28 hf1
      refine gw_tabEq (off := 1063) C 1103 hc28 d_Law_law_40 (by decide) (by decide) (by decide) (by decide) ?_
      refine gw_aload_n C 1 d_Law_law_1103 rfl rfl ?_
      refine gw_aload_n C 0 d_Law_law_1104 rfl rfl ?_
      refine gw_iload C 4 d_Law_law_1105 rfl ?_
      refine gw_iconst C (1 : Int32) d_Law_law_1107 (by decide) ?_
      refine gw_iadd C d_Law_law_1108 ?_
      obtain ⟨x1109, hx1109, hf1⟩ := mx_bd hf1
      obtain ⟨gx1109, ex1109⟩ := mx_ldI hx1109
      refine gw_sld C hXs hbl hbA d_Law_law_1109 gx1109 ?_
      refine gw_topi ex1109 ?_
      obtain ⟨q1110, hq1110, hf1⟩ := mx_bd hf1
      refine gw_callI C (c_Hat_could _ hg k_0_0 hq1110) d_Law_law_1110 1 qw_940 qw_941 qw_942 qw_1 qw_943 k_0_0 (by decide) rfl hd_Hat_could rfl rfl (Nat.le_of_ble_eq_true rfl) ⟨rfl, rfl, Nat.le_of_ble_eq_true rfl, Nat.le_of_ble_eq_true rfl⟩ (by first | exact hA0 | exact hA1) ?_
      refine gw_aload_n C 2 d_Law_law_1113 rfl rfl ?_
      refine gw_aload_n C 0 d_Law_law_1114 rfl rfl ?_
      refine gw_iload C 4 d_Law_law_1115 rfl ?_
      refine gw_iconst C (1 : Int32) d_Law_law_1117 (by decide) ?_
      refine gw_iadd C d_Law_law_1118 ?_
      obtain ⟨x1119, hx1119, hf1⟩ := mx_bd hf1
      obtain ⟨gx1119, ex1119⟩ := mx_ldI hx1119
      refine gw_sld C hXs hbl hbA d_Law_law_1119 gx1119 ?_
      refine gw_topi ex1119 ?_
      obtain ⟨q1120, hq1120, hf1⟩ := mx_bd hf1
      refine gw_callI C (c_Mod_could _ hg k_169_0 hq1120) d_Law_law_1120 1 qw_1585 qw_1586 qw_1587 qw_12 qw_1588 k_169_0 (by decide) rfl hd_Mod_could rfl rfl (Nat.le_of_ble_eq_true rfl) ⟨rfl, rfl, Nat.le_of_ble_eq_true rfl, Nat.le_of_ble_eq_true rfl⟩ (by first | exact hA0 | exact hA1) ?_
      refine gw_icmp_eq C 1381 d_Law_law_1123 (by decide) (fun hc => ?_) (fun hc => ?_)
      · replace hf1 := mx_t hc hf1
        obtain ⟨x1381, ex1381, hf1⟩ := mx_lt hf1
        refine gw_iinc C 4 [(4, .int x1381), (0, .ref b), (1, .ref (ly_a L 0)), (2, .ref (ly_a L 169)), (3, .ref (ly_a L 190))] d_Law_law_1381 rfl (by rw [ex1381]; rfl) (by decide) rfl ?_
        refine gw_goto C 23 d_Law_law_1384 (by decide) ?_
        obtain ⟨hB1, hB2, hB3⟩ := lw_more hn gx36 ex1381
        exact gw_widen (by first | exact hB2.1 | exact hB3.1) (by first | exact hB2.2 | exact hB3.2) (gw_go [1, 2, 3, 4, 0] (ih23 (x1381, q1120.2) (hb23.trans hf1.symm) hB1) rfl)
      · replace hf1 := mx_f hc hf1
        refine gw_iconst C (0 : Int32) d_Law_law_1126 (by decide) ?_
        have hr23 := hx23 _ (hb23.trans hf1.symm)
        subst hr23
        replace hf0 := mx_sl hf0
        exact absurd (Option.some.inj hf0) (by decide)
    replace hf1 := mx_f hc28 hf1
    have hn28 := lv_neT hc28 (show ((28 : Int32)).toInt = 28 by decide)
    by_cases hc29 : x40 = (29 : Int32)
    · replace hf1 := mx_t hc29 hf1
      refine gw_tabEq (off := 1088) C 1128 hc29 d_Law_law_40 (by decide) (by decide) (by decide) (by decide) ?_
      refine gw_aload_n C 1 d_Law_law_1128 rfl rfl ?_
      obtain ⟨q1129, hq1129, hf1⟩ := mx_bd hf1
      refine gw_callI C (c_Hat_grave _ hg k_0_0 hq1129) d_Law_law_1129 0 qw_944 qw_945 qw_946 qw_1 qw_947 k_0_0 (by decide) rfl hd_Hat_grave rfl rfl (Nat.le_of_ble_eq_true rfl) ⟨rfl, rfl, Nat.le_of_ble_eq_true rfl, Nat.le_of_ble_eq_true rfl⟩ (by first | exact hA0 | exact hA1) ?_
      refine gw_aload_n C 2 d_Law_law_1132 rfl rfl ?_
      obtain ⟨q1133, hq1133, hf1⟩ := mx_bd hf1
      refine gw_callI C (c_Mod_grave _ hg k_169_0 hq1133) d_Law_law_1133 0 qw_1589 qw_1590 qw_1591 qw_12 qw_1592 k_169_0 (by decide) rfl hd_Mod_grave rfl rfl (Nat.le_of_ble_eq_true rfl) ⟨rfl, rfl, Nat.le_of_ble_eq_true rfl, Nat.le_of_ble_eq_true rfl⟩ (by first | exact hA0 | exact hA1) ?_
      refine gw_icmp_eq C 1381 d_Law_law_1136 (by decide) (fun hc => ?_) (fun hc => ?_)
      · replace hf1 := mx_t hc hf1
        obtain ⟨x1381, ex1381, hf1⟩ := mx_lt hf1
        refine gw_iinc C 4 [(4, .int x1381), (0, .ref b), (1, .ref (ly_a L 0)), (2, .ref (ly_a L 169)), (3, .ref (ly_a L 190))] d_Law_law_1381 rfl (by rw [ex1381]; rfl) (by decide) rfl ?_
        refine gw_goto C 23 d_Law_law_1384 (by decide) ?_
        obtain ⟨hB1, hB2, hB3⟩ := lw_more hn gx36 ex1381
        exact gw_widen (by first | exact hB2.1 | exact hB3.1) (by first | exact hB2.2 | exact hB3.2) (gw_go [1, 2, 3, 4, 0] (ih23 (x1381, q1133.2) (hb23.trans hf1.symm) hB1) rfl)
      · replace hf1 := mx_f hc hf1
        refine gw_iconst C (0 : Int32) d_Law_law_1139 (by decide) ?_
        have hr23 := hx23 _ (hb23.trans hf1.symm)
        subst hr23
        replace hf0 := mx_sl hf0
        exact absurd (Option.some.inj hf0) (by decide)
    replace hf1 := mx_f hc29 hf1
    have hn29 := lv_neT hc29 (show ((29 : Int32)).toInt = 29 by decide)
    by_cases hc30 : x40 = (30 : Int32)
    · replace hf1 := mx_t hc30 hf1
      refine gw_tabEq (off := 1101) C 1141 hc30 d_Law_law_40 (by decide) (by decide) (by decide) (by decide) ?_
      refine gw_aload_n C 1 d_Law_law_1141 rfl rfl ?_
      refine gw_aload_n C 0 d_Law_law_1142 rfl rfl ?_
      refine gw_iload C 4 d_Law_law_1143 rfl ?_
      refine gw_iconst C (1 : Int32) d_Law_law_1145 (by decide) ?_
      refine gw_iadd C d_Law_law_1146 ?_
      obtain ⟨x1147, hx1147, hf1⟩ := mx_bd hf1
      obtain ⟨gx1147, ex1147⟩ := mx_ldI hx1147
      refine gw_sld C hXs hbl hbA d_Law_law_1147 gx1147 ?_
      refine gw_topi ex1147 ?_
      obtain ⟨q1148, hq1148, hf1⟩ := mx_bd hf1
      refine gw_callI C (c_Hat_lapsed _ hg k_0_0 hq1148) d_Law_law_1148 1 qw_949 qw_950 qw_951 qw_1 qw_952 k_0_0 (by decide) rfl hd_Hat_lapsed rfl rfl (Nat.le_of_ble_eq_true rfl) ⟨rfl, rfl, Nat.le_of_ble_eq_true rfl, Nat.le_of_ble_eq_true rfl⟩ (by first | exact hA0 | exact hA1) ?_
      refine gw_aload_n C 2 d_Law_law_1151 rfl rfl ?_
      refine gw_aload_n C 0 d_Law_law_1152 rfl rfl ?_
      refine gw_iload C 4 d_Law_law_1153 rfl ?_
      refine gw_iconst C (1 : Int32) d_Law_law_1155 (by decide) ?_
      refine gw_iadd C d_Law_law_1156 ?_
      obtain ⟨x1157, hx1157, hf1⟩ := mx_bd hf1
      obtain ⟨gx1157, ex1157⟩ := mx_ldI hx1157
      refine gw_sld C hXs hbl hbA d_Law_law_1157 gx1157 ?_
      refine gw_topi ex1157 ?_
      obtain ⟨q1158, hq1158, hf1⟩ := mx_bd hf1
      refine gw_callI C (c_Mod_lapsed _ hg k_169_0 hq1158) d_Law_law_1158 1 qw_1597 qw_1598 qw_1599 qw_12 qw_1600 k_169_0 (by decide) rfl hd_Mod_lapsed rfl rfl (Nat.le_of_ble_eq_true rfl) ⟨rfl, rfl, Nat.le_of_ble_eq_true rfl, Nat.le_of_ble_eq_true rfl⟩ (by first | exact hA0 | exact hA1) ?_
      refine gw_icmp_eq C 1381 d_Law_law_1161 (by decide) (fun hc => ?_) (fun hc => ?_)
      · replace hf1 := mx_t hc hf1
        obtain ⟨x1381, ex1381, hf1⟩ := mx_lt hf1
        refine gw_iinc C 4 [(4, .int x1381), (0, .ref b), (1, .ref (ly_a L 0)), (2, .ref (ly_a L 169)), (3, .ref (ly_a L 190))] d_Law_law_1381 rfl (by rw [ex1381]; rfl) (by decide) rfl ?_
        refine gw_goto C 23 d_Law_law_1384 (by decide) ?_
        obtain ⟨hB1, hB2, hB3⟩ := lw_more hn gx36 ex1381
        exact gw_widen (by first | exact hB2.1 | exact hB3.1) (by first | exact hB2.2 | exact hB3.2) (gw_go [1, 2, 3, 4, 0] (ih23 (x1381, q1158.2) (hb23.trans hf1.symm) hB1) rfl)
      · replace hf1 := mx_f hc hf1
        refine gw_iconst C (0 : Int32) d_Law_law_1164 (by decide) ?_
        have hr23 := hx23 _ (hb23.trans hf1.symm)
        subst hr23
        replace hf0 := mx_sl hf0
        exact absurd (Option.some.inj hf0) (by decide)
    replace hf1 := mx_f hc30 hf1
    have hn30 := lv_neT hc30 (show ((30 : Int32)).toInt = 30 by decide)
    by_cases hc31 : x40 = (31 : Int32)
    · replace hf1 := mx_t hc31 hf1
      refine gw_tabEq (off := 1126) C 1166 hc31 d_Law_law_40 (by decide) (by decide) (by decide) (by decide) ?_
      refine gw_aload_n C 1 d_Law_law_1166 rfl rfl ?_
      refine gw_aload_n C 0 d_Law_law_1167 rfl rfl ?_
      refine gw_iload C 4 d_Law_law_1168 rfl ?_
      refine gw_iconst C (1 : Int32) d_Law_law_1170 (by decide) ?_
      refine gw_iadd C d_Law_law_1171 ?_
      obtain ⟨x1172, hx1172, hf1⟩ := mx_bd hf1
      obtain ⟨gx1172, ex1172⟩ := mx_ldI hx1172
      refine gw_sld C hXs hbl hbA d_Law_law_1172 gx1172 ?_
      refine gw_topi ex1172 ?_
      refine gw_aload_n C 0 d_Law_law_1173 rfl rfl ?_
      refine gw_iload C 4 d_Law_law_1174 rfl ?_
      refine gw_iconst C (2 : Int32) d_Law_law_1176 (by decide) ?_
      refine gw_iadd C d_Law_law_1177 ?_
      obtain ⟨x1178, hx1178, hf1⟩ := mx_bd hf1
      obtain ⟨gx1178, ex1178⟩ := mx_ldI hx1178
      refine gw_sld C hXs hbl hbA d_Law_law_1178 gx1178 ?_
      refine gw_topi ex1178 ?_
      refine gw_aload_n C 0 d_Law_law_1179 rfl rfl ?_
      refine gw_iload C 4 d_Law_law_1180 rfl ?_
      refine gw_iconst C (3 : Int32) d_Law_law_1182 (by decide) ?_
      refine gw_iadd C d_Law_law_1183 ?_
      obtain ⟨x1184, hx1184, hf1⟩ := mx_bd hf1
      obtain ⟨gx1184, ex1184⟩ := mx_ldI hx1184
      refine gw_sld C hXs hbl hbA d_Law_law_1184 gx1184 ?_
      refine gw_topi ex1184 ?_
      refine gw_aload_n C 3 d_Law_law_1185 rfl rfl ?_
      obtain ⟨q1186, hq1186, hf1⟩ := mx_bd hf1
      refine gw_callW C hX (c_Law_luck _ hl hg k_0_0 k_190_0 hq1186) d_Law_law_1186 5 qw_1118 qw_1119 qw_0 qw_1120 hd_Law_luck rfl rfl (Nat.le_of_ble_eq_true rfl) ⟨rfl, rfl, (Nat.le_of_ble_eq_true rfl), (Nat.le_of_ble_eq_true rfl)⟩ hA1 ?_
      refine gw_istore C [(5, .int q1186.1), (0, .ref b), (1, .ref (ly_a L 0)), (2, .ref (ly_a L 169)), (3, .ref (ly_a L 190)), (4, .int s23.1)] d_Law_law_1189 (by decide) rfl ?_
      refine gw_aload_n C 3 d_Law_law_1191 rfl rfl ?_
      refine gw_aload_n C 1 d_Law_law_1192 rfl rfl ?_
      refine gw_iload C 5 d_Law_law_1193 rfl ?_
      refine gw_iconst C (1 : Int32) d_Law_law_1195 (by decide) ?_
      refine gw_iadd C d_Law_law_1196 ?_
      obtain ⟨x1197, hx1197, hf1⟩ := mx_bd hf1
      obtain ⟨gx1197, ex1197⟩ := mx_ldI hx1197
      refine gw_sld C hXs hbl hbA d_Law_law_1197 gx1197 ?_
      refine gw_topi ex1197 ?_
      refine gw_aload_n C 1 d_Law_law_1198 rfl rfl ?_
      refine gw_iload C 5 d_Law_law_1199 rfl ?_
      refine gw_iconst C (2 : Int32) d_Law_law_1201 (by decide) ?_
      refine gw_iadd C d_Law_law_1202 ?_
      obtain ⟨x1203, hx1203, hf1⟩ := mx_bd hf1
      obtain ⟨gx1203, ex1203⟩ := mx_ldI hx1203
      refine gw_sld C hXs hbl hbA d_Law_law_1203 gx1203 ?_
      refine gw_topi ex1203 ?_
      refine gw_aload_n C 1 d_Law_law_1204 rfl rfl ?_
      refine gw_iload C 5 d_Law_law_1205 rfl ?_
      refine gw_iconst C (3 : Int32) d_Law_law_1207 (by decide) ?_
      refine gw_iadd C d_Law_law_1208 ?_
      obtain ⟨x1209, hx1209, hf1⟩ := mx_bd hf1
      obtain ⟨gx1209, ex1209⟩ := mx_ldI hx1209
      refine gw_sld C hXs hbl hbA d_Law_law_1209 gx1209 ?_
      refine gw_topi ex1209 ?_
      obtain ⟨q1210, hq1210, hf1⟩ := mx_bd hf1
      refine gw_callL C (c_Mod_luck _ hg k_169_0 hq1210) d_Law_law_1210 3 qw_1601 qw_1602 qw_1603 qw_12 qw_1604 k_169_0 (by decide) rfl hd_Mod_luck rfl rfl (Nat.le_of_ble_eq_true rfl) ⟨rfl, rfl, Nat.le_of_ble_eq_true rfl, Nat.le_of_ble_eq_true rfl⟩ (by first | exact hA0 | exact hA1) ?_
      refine gw_lstore C [(6, .long q1210.1), (5, .int q1186.1), (0, .ref b), (1, .ref (ly_a L 0)), (2, .ref (ly_a L 169)), (3, .ref (ly_a L 190)), (4, .int s23.1)] d_Law_law_1213 (by decide) rfl ?_
      refine gw_aload_n C 4 d_Law_law_1215 rfl rfl ?_
      obtain ⟨q1216, hq1216, hf1⟩ := mx_bd hf1
      refine gw_callI C (c_Mod_thrown _ hg k_169_0 hq1216) d_Law_law_1216 0 qw_1126 qw_1127 qw_1128 qw_12 qw_1129 k_169_0 (by decide) rfl hd_Mod_thrown rfl rfl (Nat.le_of_ble_eq_true rfl) ⟨rfl, rfl, Nat.le_of_ble_eq_true rfl, Nat.le_of_ble_eq_true rfl⟩ (by first | exact hA0 | exact hA1) ?_
      refine gw_iload C 1 d_Law_law_1219 rfl ?_
      refine gw_icmp_eq C 1226 d_Law_law_1221 (by decide) (fun hc => ?_) (fun hc => ?_)
      · replace hf1 := mx_t hc hf1
        refine gw_iload C 1 d_Law_law_1226 rfl ?_
        refine gw_if_ne C 1242 d_Law_law_1228 (by decide) (fun hc => ?_) (fun hc => ?_)
        · replace hf1 := mx_f hc hf1
          refine gw_goto C 1381 d_Law_law_1242 (by decide) ?_
          obtain ⟨x1381, ex1381, hf1⟩ := mx_lt hf1
          refine gw_iinc C 6 [(4, .int x1381), (6, .long q1210.1), (5, .int q1186.1), (0, .ref b), (1, .ref (ly_a L 0)), (2, .ref (ly_a L 169)), (3, .ref (ly_a L 190))] d_Law_law_1381 rfl (by rw [ex1381]; rfl) (by decide) rfl ?_
          refine gw_goto C 23 d_Law_law_1384 (by decide) ?_
          obtain ⟨hB1, hB2, hB3⟩ := lw_more hn gx36 ex1381
          exact gw_widen (by first | exact hB2.1 | exact hB3.1) (by first | exact hB2.2 | exact hB3.2) (gw_go [3, 4, 5, 6, 0] (ih23 (x1381, q1210.2) (hb23.trans hf1.symm) hB1) rfl)
        · replace hf1 := mx_t hc hf1
          refine gw_aload_n C 5 d_Law_law_1231 rfl rfl ?_
          refine gw_iconst C (0 : Int32) d_Law_law_1232 (by decide) ?_
          obtain ⟨x1233, hx1233, hf1⟩ := mx_bd hf1
          obtain ⟨gx1233, ex1233⟩ := mx_ldL hx1233
          refine gw_lald C d_Law_law_1233 k_190_0 gx1233 ex1233 ?_
          refine gw_lload C 0 d_Law_law_1234 rfl ?_
          refine gw_lcmp C d_Law_law_1236 ?_
          refine gw_if_eq C 1242 d_Law_law_1237 (by decide) (fun hc => ?_) (fun hc => ?_)
          · replace hf1 := mx_t hc hf1
            refine gw_goto C 1381 d_Law_law_1242 (by decide) ?_
            obtain ⟨x1381, ex1381, hf1⟩ := mx_lt hf1
            refine gw_iinc C 6 [(4, .int x1381), (6, .long q1210.1), (5, .int q1186.1), (0, .ref b), (1, .ref (ly_a L 0)), (2, .ref (ly_a L 169)), (3, .ref (ly_a L 190))] d_Law_law_1381 rfl (by rw [ex1381]; rfl) (by decide) rfl ?_
            refine gw_goto C 23 d_Law_law_1384 (by decide) ?_
            obtain ⟨hB1, hB2, hB3⟩ := lw_more hn gx36 ex1381
            exact gw_widen (by first | exact hB2.1 | exact hB3.1) (by first | exact hB2.2 | exact hB3.2) (gw_go [3, 4, 5, 6, 0] (ih23 (x1381, q1210.2) (hb23.trans hf1.symm) hB1) rfl)
          · replace hf1 := mx_f hc hf1
            refine gw_iconst C (0 : Int32) d_Law_law_1240 (by decide) ?_
            have hr23 := hx23 _ (hb23.trans hf1.symm)
            subst hr23
            replace hf0 := mx_sl hf0
            exact absurd (Option.some.inj hf0) (by decide)
      · replace hf1 := mx_f hc hf1
        refine gw_iconst C (0 : Int32) d_Law_law_1224 (by decide) ?_
        have hr23 := hx23 _ (hb23.trans hf1.symm)
        subst hr23
        replace hf0 := mx_sl hf0
        exact absurd (Option.some.inj hf0) (by decide)
    replace hf1 := mx_f hc31 hf1
    have hn31 := lv_neT hc31 (show ((31 : Int32)).toInt = 31 by decide)
    by_cases hc32 : x40 = (32 : Int32)
    · replace hf1 := mx_t hc32 hf1
      refine gw_tabEq (off := 1205) C 1245 hc32 d_Law_law_40 (by decide) (by decide) (by decide) (by decide) ?_
      refine gw_aload_n C 1 d_Law_law_1245 rfl rfl ?_
      refine gw_aload_n C 0 d_Law_law_1246 rfl rfl ?_
      refine gw_iload C 4 d_Law_law_1247 rfl ?_
      refine gw_iconst C (1 : Int32) d_Law_law_1249 (by decide) ?_
      refine gw_iadd C d_Law_law_1250 ?_
      obtain ⟨x1251, hx1251, hf1⟩ := mx_bd hf1
      obtain ⟨gx1251, ex1251⟩ := mx_ldI hx1251
      refine gw_sld C hXs hbl hbA d_Law_law_1251 gx1251 ?_
      refine gw_topi ex1251 ?_
      refine gw_aload_n C 0 d_Law_law_1252 rfl rfl ?_
      refine gw_iload C 4 d_Law_law_1253 rfl ?_
      refine gw_iconst C (2 : Int32) d_Law_law_1255 (by decide) ?_
      refine gw_iadd C d_Law_law_1256 ?_
      obtain ⟨x1257, hx1257, hf1⟩ := mx_bd hf1
      obtain ⟨gx1257, ex1257⟩ := mx_ldI hx1257
      refine gw_sld C hXs hbl hbA d_Law_law_1257 gx1257 ?_
      refine gw_topi ex1257 ?_
      refine gw_aload_n C 0 d_Law_law_1258 rfl rfl ?_
      refine gw_iload C 4 d_Law_law_1259 rfl ?_
      refine gw_iconst C (3 : Int32) d_Law_law_1261 (by decide) ?_
      refine gw_iadd C d_Law_law_1262 ?_
      obtain ⟨x1263, hx1263, hf1⟩ := mx_bd hf1
      obtain ⟨gx1263, ex1263⟩ := mx_ldI hx1263
      refine gw_sld C hXs hbl hbA d_Law_law_1263 gx1263 ?_
      refine gw_topi ex1263 ?_
      refine gw_aload_n C 0 d_Law_law_1264 rfl rfl ?_
      refine gw_iload C 4 d_Law_law_1265 rfl ?_
      refine gw_iconst C (4 : Int32) d_Law_law_1267 (by decide) ?_
      refine gw_iadd C d_Law_law_1268 ?_
      obtain ⟨x1269, hx1269, hf1⟩ := mx_bd hf1
      obtain ⟨gx1269, ex1269⟩ := mx_ldI hx1269
      refine gw_sld C hXs hbl hbA d_Law_law_1269 gx1269 ?_
      refine gw_topi ex1269 ?_
      obtain ⟨q1270, hq1270, hf1⟩ := mx_bd hf1
      refine gw_callI C (c_Hat_unfair _ hg k_0_0 hq1270) d_Law_law_1270 4 qw_953 qw_954 qw_955 qw_1 qw_956 k_0_0 (by decide) rfl hd_Hat_unfair rfl rfl (Nat.le_of_ble_eq_true rfl) ⟨rfl, rfl, Nat.le_of_ble_eq_true rfl, Nat.le_of_ble_eq_true rfl⟩ (by first | exact hA0 | exact hA1) ?_
      refine gw_aload_n C 2 d_Law_law_1273 rfl rfl ?_
      refine gw_aload_n C 0 d_Law_law_1274 rfl rfl ?_
      refine gw_iload C 4 d_Law_law_1275 rfl ?_
      refine gw_iconst C (1 : Int32) d_Law_law_1277 (by decide) ?_
      refine gw_iadd C d_Law_law_1278 ?_
      obtain ⟨x1279, hx1279, hf1⟩ := mx_bd hf1
      obtain ⟨gx1279, ex1279⟩ := mx_ldI hx1279
      refine gw_sld C hXs hbl hbA d_Law_law_1279 gx1279 ?_
      refine gw_topi ex1279 ?_
      refine gw_aload_n C 0 d_Law_law_1280 rfl rfl ?_
      refine gw_iload C 4 d_Law_law_1281 rfl ?_
      refine gw_iconst C (2 : Int32) d_Law_law_1283 (by decide) ?_
      refine gw_iadd C d_Law_law_1284 ?_
      obtain ⟨x1285, hx1285, hf1⟩ := mx_bd hf1
      obtain ⟨gx1285, ex1285⟩ := mx_ldI hx1285
      refine gw_sld C hXs hbl hbA d_Law_law_1285 gx1285 ?_
      refine gw_topi ex1285 ?_
      refine gw_aload_n C 0 d_Law_law_1286 rfl rfl ?_
      refine gw_iload C 4 d_Law_law_1287 rfl ?_
      refine gw_iconst C (3 : Int32) d_Law_law_1289 (by decide) ?_
      refine gw_iadd C d_Law_law_1290 ?_
      obtain ⟨x1291, hx1291, hf1⟩ := mx_bd hf1
      obtain ⟨gx1291, ex1291⟩ := mx_ldI hx1291
      refine gw_sld C hXs hbl hbA d_Law_law_1291 gx1291 ?_
      refine gw_topi ex1291 ?_
      refine gw_aload_n C 0 d_Law_law_1292 rfl rfl ?_
      refine gw_iload C 4 d_Law_law_1293 rfl ?_
      refine gw_iconst C (4 : Int32) d_Law_law_1295 (by decide) ?_
      refine gw_iadd C d_Law_law_1296 ?_
      obtain ⟨x1297, hx1297, hf1⟩ := mx_bd hf1
      obtain ⟨gx1297, ex1297⟩ := mx_ldI hx1297
      refine gw_sld C hXs hbl hbA d_Law_law_1297 gx1297 ?_
      refine gw_topi ex1297 ?_
      obtain ⟨q1298, hq1298, hf1⟩ := mx_bd hf1
      refine gw_callI C (c_Mod_unfair _ hg k_169_0 hq1298) d_Law_law_1298 4 qw_1609 qw_1610 qw_1611 qw_12 qw_1612 k_169_0 (by decide) rfl hd_Mod_unfair rfl rfl (Nat.le_of_ble_eq_true rfl) ⟨rfl, rfl, Nat.le_of_ble_eq_true rfl, Nat.le_of_ble_eq_true rfl⟩ (by first | exact hA0 | exact hA1) ?_
      refine gw_icmp_eq C 1381 d_Law_law_1301 (by decide) (fun hc => ?_) (fun hc => ?_)
      · replace hf1 := mx_t hc hf1
        obtain ⟨x1381, ex1381, hf1⟩ := mx_lt hf1
        refine gw_iinc C 4 [(4, .int x1381), (0, .ref b), (1, .ref (ly_a L 0)), (2, .ref (ly_a L 169)), (3, .ref (ly_a L 190))] d_Law_law_1381 rfl (by rw [ex1381]; rfl) (by decide) rfl ?_
        refine gw_goto C 23 d_Law_law_1384 (by decide) ?_
        obtain ⟨hB1, hB2, hB3⟩ := lw_more hn gx36 ex1381
        exact gw_widen (by first | exact hB2.1 | exact hB3.1) (by first | exact hB2.2 | exact hB3.2) (gw_go [1, 2, 3, 4, 0] (ih23 (x1381, q1298.2) (hb23.trans hf1.symm) hB1) rfl)
      · replace hf1 := mx_f hc hf1
        refine gw_iconst C (0 : Int32) d_Law_law_1304 (by decide) ?_
        have hr23 := hx23 _ (hb23.trans hf1.symm)
        subst hr23
        replace hf0 := mx_sl hf0
        exact absurd (Option.some.inj hf0) (by decide)
    replace hf1 := mx_f hc32 hf1
    have hn32 := lv_neT hc32 (show ((32 : Int32)).toInt = 32 by decide)
    by_cases hc33 : x40 = (33 : Int32)
    · replace hf1 := mx_t hc33 hf1
      refine gw_tabEq (off := 1266) C 1306 hc33 d_Law_law_40 (by decide) (by decide) (by decide) (by decide) ?_
      refine gw_aload_n C 1 d_Law_law_1306 rfl rfl ?_
      refine gw_aload_n C 0 d_Law_law_1307 rfl rfl ?_
      refine gw_iload C 4 d_Law_law_1308 rfl ?_
      refine gw_iconst C (1 : Int32) d_Law_law_1310 (by decide) ?_
      refine gw_iadd C d_Law_law_1311 ?_
      obtain ⟨x1312, hx1312, hf1⟩ := mx_bd hf1
      obtain ⟨gx1312, ex1312⟩ := mx_ldI hx1312
      refine gw_sld C hXs hbl hbA d_Law_law_1312 gx1312 ?_
      refine gw_topi ex1312 ?_
      obtain ⟨q1313, hq1313, hf1⟩ := mx_bd hf1
      refine gw_callI C (c_Hat_image _ hg k_0_0 hq1313) d_Law_law_1313 1 qw_977 qw_978 qw_979 qw_1 qw_980 k_0_0 (by decide) rfl hd_Hat_image rfl rfl (Nat.le_of_ble_eq_true rfl) ⟨rfl, rfl, Nat.le_of_ble_eq_true rfl, Nat.le_of_ble_eq_true rfl⟩ (by first | exact hA0 | exact hA1) ?_
      refine gw_aload_n C 2 d_Law_law_1316 rfl rfl ?_
      refine gw_aload_n C 0 d_Law_law_1317 rfl rfl ?_
      refine gw_iload C 4 d_Law_law_1318 rfl ?_
      refine gw_iconst C (1 : Int32) d_Law_law_1320 (by decide) ?_
      refine gw_iadd C d_Law_law_1321 ?_
      obtain ⟨x1322, hx1322, hf1⟩ := mx_bd hf1
      obtain ⟨gx1322, ex1322⟩ := mx_ldI hx1322
      refine gw_sld C hXs hbl hbA d_Law_law_1322 gx1322 ?_
      refine gw_topi ex1322 ?_
      obtain ⟨q1323, hq1323, hf1⟩ := mx_bd hf1
      refine gw_callI C (c_Mod_image _ hg k_169_0 hq1323) d_Law_law_1323 1 qw_1613 qw_1614 qw_1615 qw_12 qw_1616 k_169_0 (by decide) rfl hd_Mod_image rfl rfl (Nat.le_of_ble_eq_true rfl) ⟨rfl, rfl, Nat.le_of_ble_eq_true rfl, Nat.le_of_ble_eq_true rfl⟩ (by first | exact hA0 | exact hA1) ?_
      refine gw_icmp_eq C 1381 d_Law_law_1326 (by decide) (fun hc => ?_) (fun hc => ?_)
      · replace hf1 := mx_t hc hf1
        obtain ⟨x1381, ex1381, hf1⟩ := mx_lt hf1
        refine gw_iinc C 4 [(4, .int x1381), (0, .ref b), (1, .ref (ly_a L 0)), (2, .ref (ly_a L 169)), (3, .ref (ly_a L 190))] d_Law_law_1381 rfl (by rw [ex1381]; rfl) (by decide) rfl ?_
        refine gw_goto C 23 d_Law_law_1384 (by decide) ?_
        obtain ⟨hB1, hB2, hB3⟩ := lw_more hn gx36 ex1381
        exact gw_widen (by first | exact hB2.1 | exact hB3.1) (by first | exact hB2.2 | exact hB3.2) (gw_go [1, 2, 3, 4, 0] (ih23 (x1381, q1323.2) (hb23.trans hf1.symm) hB1) rfl)
      · replace hf1 := mx_f hc hf1
        refine gw_iconst C (0 : Int32) d_Law_law_1329 (by decide) ?_
        have hr23 := hx23 _ (hb23.trans hf1.symm)
        subst hr23
        replace hf0 := mx_sl hf0
        exact absurd (Option.some.inj hf0) (by decide)
    replace hf1 := mx_f hc33 hf1
    have hn33 := lv_neT hc33 (show ((33 : Int32)).toInt = 33 by decide)
    by_cases hc34 : x40 = (34 : Int32)
    · replace hf1 := mx_t hc34 hf1
      refine gw_tabEq (off := 1291) C 1331 hc34 d_Law_law_40 (by decide) (by decide) (by decide) (by decide) ?_
      refine gw_aload_n C 1 d_Law_law_1331 rfl rfl ?_
      refine gw_aload_n C 0 d_Law_law_1332 rfl rfl ?_
      refine gw_iload C 4 d_Law_law_1333 rfl ?_
      refine gw_iconst C (1 : Int32) d_Law_law_1335 (by decide) ?_
      refine gw_iadd C d_Law_law_1336 ?_
      obtain ⟨x1337, hx1337, hf1⟩ := mx_bd hf1
      obtain ⟨gx1337, ex1337⟩ := mx_ldI hx1337
      refine gw_sld C hXs hbl hbA d_Law_law_1337 gx1337 ?_
      refine gw_topi ex1337 ?_
      obtain ⟨q1338, hq1338, hf1⟩ := mx_bd hf1
      refine gw_callI C (c_Hat_restore _ hg k_0_0 hq1338) d_Law_law_1338 1 qw_981 qw_982 qw_983 qw_1 qw_984 k_0_0 (by decide) rfl hd_Hat_restore rfl rfl (Nat.le_of_ble_eq_true rfl) ⟨rfl, rfl, Nat.le_of_ble_eq_true rfl, Nat.le_of_ble_eq_true rfl⟩ (by first | exact hA0 | exact hA1) ?_
      refine gw_aload_n C 2 d_Law_law_1341 rfl rfl ?_
      refine gw_aload_n C 0 d_Law_law_1342 rfl rfl ?_
      refine gw_iload C 4 d_Law_law_1343 rfl ?_
      refine gw_iconst C (1 : Int32) d_Law_law_1345 (by decide) ?_
      refine gw_iadd C d_Law_law_1346 ?_
      obtain ⟨x1347, hx1347, hf1⟩ := mx_bd hf1
      obtain ⟨gx1347, ex1347⟩ := mx_ldI hx1347
      refine gw_sld C hXs hbl hbA d_Law_law_1347 gx1347 ?_
      refine gw_topi ex1347 ?_
      obtain ⟨q1348, hq1348, hf1⟩ := mx_bd hf1
      refine gw_callI C (c_Mod_restore _ hg k_169_0 hq1348) d_Law_law_1348 1 qw_1617 qw_1618 qw_1619 qw_12 qw_1620 k_169_0 (by decide) rfl hd_Mod_restore rfl rfl (Nat.le_of_ble_eq_true rfl) ⟨rfl, rfl, Nat.le_of_ble_eq_true rfl, Nat.le_of_ble_eq_true rfl⟩ (by first | exact hA0 | exact hA1) ?_
      refine gw_icmp_eq C 1381 d_Law_law_1351 (by decide) (fun hc => ?_) (fun hc => ?_)
      · replace hf1 := mx_t hc hf1
        obtain ⟨x1381, ex1381, hf1⟩ := mx_lt hf1
        refine gw_iinc C 4 [(4, .int x1381), (0, .ref b), (1, .ref (ly_a L 0)), (2, .ref (ly_a L 169)), (3, .ref (ly_a L 190))] d_Law_law_1381 rfl (by rw [ex1381]; rfl) (by decide) rfl ?_
        refine gw_goto C 23 d_Law_law_1384 (by decide) ?_
        obtain ⟨hB1, hB2, hB3⟩ := lw_more hn gx36 ex1381
        exact gw_widen (by first | exact hB2.1 | exact hB3.1) (by first | exact hB2.2 | exact hB3.2) (gw_go [1, 2, 3, 4, 0] (ih23 (x1381, q1348.2) (hb23.trans hf1.symm) hB1) rfl)
      · replace hf1 := mx_f hc hf1
        refine gw_iconst C (0 : Int32) d_Law_law_1354 (by decide) ?_
        have hr23 := hx23 _ (hb23.trans hf1.symm)
        subst hr23
        replace hf0 := mx_sl hf0
        exact absurd (Option.some.inj hf0) (by decide)
    replace hf1 := mx_f hc34 hf1
    have hn34 := lv_neT hc34 (show ((34 : Int32)).toInt = 34 by decide)
    by_cases hc35 : x40 = (35 : Int32)
    · replace hf1 := mx_t hc35 hf1
      refine gw_tabEq (off := 1316) C 1356 hc35 d_Law_law_40 (by decide) (by decide) (by decide) (by decide) ?_
      refine gw_aload_n C 1 d_Law_law_1356 rfl rfl ?_
      refine gw_aload_n C 0 d_Law_law_1357 rfl rfl ?_
      refine gw_iload C 4 d_Law_law_1358 rfl ?_
      refine gw_iconst C (1 : Int32) d_Law_law_1360 (by decide) ?_
      refine gw_iadd C d_Law_law_1361 ?_
      obtain ⟨x1362, hx1362, hf1⟩ := mx_bd hf1
      obtain ⟨gx1362, ex1362⟩ := mx_ldI hx1362
      refine gw_sld C hXs hbl hbA d_Law_law_1362 gx1362 ?_
      refine gw_topi ex1362 ?_
      obtain ⟨q1363, hq1363, hf1⟩ := mx_bd hf1
      refine gw_callI C (c_Hat_count _ hg k_0_0 hq1363) d_Law_law_1363 1 qw_985 qw_986 qw_987 qw_1 qw_988 k_0_0 (by decide) rfl hd_Hat_count rfl rfl (Nat.le_of_ble_eq_true rfl) ⟨rfl, rfl, Nat.le_of_ble_eq_true rfl, Nat.le_of_ble_eq_true rfl⟩ (by first | exact hA0 | exact hA1) ?_
      refine gw_aload_n C 2 d_Law_law_1366 rfl rfl ?_
      refine gw_aload_n C 0 d_Law_law_1367 rfl rfl ?_
      refine gw_iload C 4 d_Law_law_1368 rfl ?_
      refine gw_iconst C (1 : Int32) d_Law_law_1370 (by decide) ?_
      refine gw_iadd C d_Law_law_1371 ?_
      obtain ⟨x1372, hx1372, hf1⟩ := mx_bd hf1
      obtain ⟨gx1372, ex1372⟩ := mx_ldI hx1372
      refine gw_sld C hXs hbl hbA d_Law_law_1372 gx1372 ?_
      refine gw_topi ex1372 ?_
      obtain ⟨q1373, hq1373, hf1⟩ := mx_bd hf1
      refine gw_callI C (c_Mod_count _ hg k_169_0 hq1373) d_Law_law_1373 1 qw_1621 qw_1622 qw_1623 qw_12 qw_1624 k_169_0 (by decide) rfl hd_Mod_count rfl rfl (Nat.le_of_ble_eq_true rfl) ⟨rfl, rfl, Nat.le_of_ble_eq_true rfl, Nat.le_of_ble_eq_true rfl⟩ (by first | exact hA0 | exact hA1) ?_
      refine gw_icmp_eq C 1381 d_Law_law_1376 (by decide) (fun hc => ?_) (fun hc => ?_)
      · replace hf1 := mx_t hc hf1
        obtain ⟨x1381, ex1381, hf1⟩ := mx_lt hf1
        refine gw_iinc C 4 [(4, .int x1381), (0, .ref b), (1, .ref (ly_a L 0)), (2, .ref (ly_a L 169)), (3, .ref (ly_a L 190))] d_Law_law_1381 rfl (by rw [ex1381]; rfl) (by decide) rfl ?_
        refine gw_goto C 23 d_Law_law_1384 (by decide) ?_
        obtain ⟨hB1, hB2, hB3⟩ := lw_more hn gx36 ex1381
        exact gw_widen (by first | exact hB2.1 | exact hB3.1) (by first | exact hB2.2 | exact hB3.2) (gw_go [1, 2, 3, 4, 0] (ih23 (x1381, q1373.2) (hb23.trans hf1.symm) hB1) rfl)
      · replace hf1 := mx_f hc hf1
        refine gw_iconst C (0 : Int32) d_Law_law_1379 (by decide) ?_
        have hr23 := hx23 _ (hb23.trans hf1.symm)
        subst hr23
        replace hf0 := mx_sl hf0
        exact absurd (Option.some.inj hf0) (by decide)
    replace hf1 := mx_f hc35 hf1
    have hn35 := lv_neT hc35 (show ((35 : Int32)).toInt = 35 by decide)
    refine gw_tabOut C 1381 d_Law_law_40 (by omega) (by decide) ?_
    obtain ⟨x1381, ex1381, hf1⟩ := mx_lt hf1
    refine gw_iinc C 4 [(4, .int x1381), (0, .ref b), (1, .ref (ly_a L 0)), (2, .ref (ly_a L 169)), (3, .ref (ly_a L 190))] d_Law_law_1381 rfl (by rw [ex1381]; rfl) (by decide) rfl ?_
    refine gw_goto C 23 d_Law_law_1384 (by decide) ?_
    obtain ⟨hB1, hB2, hB3⟩ := lw_more hn gx36 ex1381
    exact gw_widen (by first | exact hB2.1 | exact hB3.1) (by first | exact hB2.2 | exact hB3.2) (gw_go [1, 2, 3, 4, 0] (ih23 (x1381, s23.2) (hb23.trans hf1.symm) hB1) rfl)
