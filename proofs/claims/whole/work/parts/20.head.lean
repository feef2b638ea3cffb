/-! the law's own beginning: two objects and a row of one long, one behind the other -/
def WB (L : Ly) (σ : Mm) (h n : Nat) : va_W := (List.range n).map (fun o => (h + o, cl_e L (ly_k L o) o (σ.1 o) (σ.2 o)))
theorem WB_len {L : Ly} {σ : Mm} {h n : Nat} : (WB L σ h n).length = n := by simp [WB]
theorem WB_at {L : Ly} {σ : Mm} {h n o : Nat} (h2 : o < n) : (WB L σ h n)[o]? = some (h + o, cl_e L (ly_k L o) o (σ.1 o) (σ.2 o)) := by simp [WB, h2]
theorem WB_addr {L : Ly} {σ : Mm} {h n : Nat} {k : Nat} {x : Nat × va_E} (hx : (WB L σ h n)[k]? = some x) : x.1 = h + k ∧ k < n := by
  have hk : k < n := by have := (List.getElem?_eq_some_iff.mp hx).1; rw [WB_len] at this; exact this
  rw [WB_at hk] at hx; cases hx; exact ⟨rfl, hk⟩
theorem WB_c {L : Ly} {σ : Mm} {h n : Nat} : wl_c h (WB L σ h n) := fun k x hx => (WB_addr hx).1
theorem WB_full {L : Ly} {σ : Mm} {h n : Nat} (ha : ly_a L = fun o => h + o) (hn : ly_n L = n) : WB L σ h n = wl L σ := by
  unfold WB wl; rw [ha, hn]
theorem WB_push {L : Ly} {σ : Mm} {h n : Nat} {e : va_E} (he : e = cl_e L (ly_k L n) n (σ.1 n) (σ.2 n)) : WB L σ h n ++ [(h + n, e)] = WB L σ h (n + 1) := by
  apply List.ext_getElem?
  intro k
  by_cases hk : k < n
  · rw [List.getElem?_append_left (by rw [WB_len]; exact hk), WB_at hk, WB_at (by omega)]
  · rw [List.getElem?_append_right (by rw [WB_len]; omega), WB_len]
    by_cases hk2 : k = n
    · subst hk2
      rw [Nat.sub_self, WB_at (by omega), he]; rfl
    · rw [List.getElem?_eq_none (by simp; omega), List.getElem?_eq_none (by rw [WB_len]; omega)]
theorem WB_app {L Lc : Ly} {σ σc : Mm} {h n size : Nat} (hs : ly_n Lc = size) (hac : ly_a Lc = fun o => h + n + o) (ha : ly_a L = fun o => h + o) (hcc : ly_c Lc = ly_c L) (hk : ∀ o, o < size → ly_k L (n + o) = ly_k Lc o) (hz : ∀ o, o < size → ly_z L (n + o) = ly_z Lc o) (h1 : ∀ o, o < size → σ.1 (n + o) = σc.1 o) (h2 : ∀ o, o < size → σ.2 (n + o) = σc.2 o) : WB L σ h n ++ wl Lc σc = WB L σ h (n + size) := by
  apply List.ext_getElem?
  intro k
  by_cases hkn : k < n
  · rw [List.getElem?_append_left (by rw [WB_len]; exact hkn), WB_at hkn, WB_at (by omega)]
  · rw [List.getElem?_append_right (by rw [WB_len]; omega), WB_len]
    by_cases hks : k < n + size
    · obtain ⟨j, rfl⟩ : ∃ j, k = n + j := ⟨k - n, by omega⟩
      have hj : j < size := by omega
      rw [WB_at hks, show n + j - n = j by omega, wl_at Lc σc (by rw [hs]; exact hj), hac, hk j hj, h1 j hj, h2 j hj]
      congr 1
      refine Prod.ext (by show h + n + j = h + (n + j); omega) ?_
      show cl_e Lc _ _ _ _ = cl_e L _ _ _ _
      unfold cl_e
      rw [hcc, hz j hj]
      have : fd_row (ly_a Lc) (fd_T.getD (ly_k Lc j) []) j (σc.1 j) (σc.2 j) = fd_row (ly_a L) (fd_T.getD (ly_k Lc j) []) (n + j) (σc.1 j) (σc.2 j) := by
        unfold fd_row
        rw [hac, ha]
        congr 1
        funext k q
        by_cases hq : q.1 = 0
        · simp only [hq, if_true]
          show Value.ref (h + n + (j + q.2)) = Value.ref (h + (n + j + q.2))
          rw [Nat.add_assoc h n, Nat.add_assoc n j]
        · simp only [hq, if_false]
      rw [this]
    · rw [List.getElem?_eq_none (by simp [wl]; omega), List.getElem?_eq_none (by rw [WB_len]; omega)]
theorem lg_hs {E : Fx} {H : Heap} {locs : List Loc} {cs sl h n : Nat} {D : va_G} {ws : va_W} {A : Nat → Prop} (hP : va_P D cl_all ws H) (hS : va_S A (fx_s E).heap H locs) (hz : (fx_s E).heap.size = h) (hw : wl_c h ws) (hn : ws.length = n) (hcn : cs = n) (T : State) (hT : T.heap = H) (X : Stand (fx_p E) (fx_l E) (fx_e E) (fx_R E) (fx_s E) (fx_m E) (fx_a E) (fx_b E) (fx_t E) (fx_c E) T locs cs sl) : H.size = h + n := by
  have h1 := X.same.2.2.1
  have h2 : (T.setVm (fx_s E).vm).heap.size = T.heap.size := rfl
  rw [hT] at h2
  have h3 := hS.1
  by_cases h0 : n = 0
  · omega
  have hl0 : ∃ x, ws[n - 1]? = some x := ⟨ws[n - 1], by rw [List.getElem?_eq_getElem]⟩
  obtain ⟨x, hx⟩ := hl0
  have hxa := hw _ _ hx
  have hxl := (hP _ _ hx).lt
  omega
section LGR
variable {E : Fx} {L : Ly} {h : Nat} {cc : ByteArray} {nL cs sl : Nat} {own : String} {ret : Option FieldType} {rm : Room} {Q : State → Prop} {ws : va_W} {pc : Nat} {lv : List (Nat × Value)} {st st0 : List Value} {σ σc : Mm} {n K : Nat} {fs : List Value}

theorem lg_astore_n {j : Fin 4} {i : Nat} {x : Nat} (C : Cx E L (fun q => h ≤ q) cc nL own ret rm) (lv' : List (Nat × Value)) (d : decode cc pc = .ok (.astore_n j, 1)) (hi : (j : Nat) = i) (hn : i < nL) (h9 : (i, Value.ref x) :: lv.filter (fun q => !(q.1 == i) && !(q.1 + 1 == i && q.2.category == 2)) = lv') (k : GC E L (fun q => h ≤ q) nL (cs) (sl) Q (ws) (pc + 1) (lv') (st)) : GC E L (fun q => h ≤ q) nL (cs) (sl) Q (ws) (pc) (lv) (.ref x :: st) := fun H locs ls hP hS hl => lv_astore_n (cx_x C) (cx_c C) d hi hl hn h9 (fun ls hl => k H locs ls hP hS hl)
theorem lg_new {K9 N9 i : Nat} {C9 : String} {T9 : u_T} {fs9 : List Value} (ty9 : Nat → FieldType) (C : Cx E L (fun q => h ≤ q) cc nL own ret rm) (hz : (fx_s E).heap.size = h) (hw : wl_c h ws) (hn : ws.length = n) (hcn : cs = n) (d : decode cc pc = .ok (.new i, 3)) (hc : cl_all[K9]? = some (C9, T9, N9)) (hi : ∀ w ∈ u_ws C9 T9 N9, w ∈ tb_G) (hty : ∀ k, k < N9 → parseFieldDescriptor (T9 k).2.2.1 = some (ty9 k)) (hw1 : Cond.classLink own i C9 ∈ tb_G) (hw2 : Cond.instantiable C9 N9 ∈ tb_G) (hw3 : Cond.initialized C9 ∈ tb_G) (hfs : ∀ j, j < N9 → defaultValue (ty9 j) = vp_V fs9 j) (hcs : cs + 1 ≤ rm.cells) (hsl : sl + N9 ≤ rm.slots) (k : GC E L (fun q => h ≤ q) nL (cs + 1) (sl + N9) Q (ws ++ [(h + n, .inr (K9, fs9))]) (pc + 3) (lv) (.ref (h + n) :: st)) : GC E L (fun q => h ≤ q) nL (cs) (sl) Q (ws) (pc) (lv) (st) := by
  intro H locs ls hP hS hl
  have hKn := (cx_K C).1 K9 _ hc
  refine gc_at (fun T hT X => lg_hs hP hS hz hw hn hcn T hT X) (fun hsz => ?_)
  refine W.newcK (cx_x C) (cx_c C) (cx_o C) (cx_w C _ hw1) (cx_w C _ hw2) (cx_w C _ hw3) rfl d (by rw [cx_R C]; exact hcs) (by rw [cx_R C]; exact hsl) hKn.2.1 hsz (fun H1 kC hkC e1 z1 o1 => ?_)
  have hk : ∀ (k : Nat) (x : Nat × va_E), ws[k]? = some x → H1[x.1]? = H[x.1]? := fun k x hx => o1 x.1 (by have := (hP k x hx).lt; omega)
  refine k H1 locs ls ((hP.kept hk).app (fun k x hx => ?_)) ⟨Nat.le_trans hS.1 (by omega), fun x h1 h2 => (o1 x (by have := hS.1; omega)).trans (hS.2.1 x h1 h2), hS.2.2⟩ hl
  have hz : k < 1 := (List.getElem?_eq_some_iff.mp hx).1
  rw [show k = 0 by omega] at hx
  cases hx
  exact ⟨_, hc, (u_born ty9 (cx_w C) hi hKn hkC e1 hty).to hfs⟩
theorem lg_newa {N9 : Nat} {x : Int32} {atype : ArrayType} {ty : FieldType} (ti : Nat) (a0 : vp_A) (C : Cx E L (fun q => h ≤ q) cc nL own ret rm) (hz : (fx_s E).heap.size = h) (hw : wl_c h ws) (hn : ws.length = n) (hcn : cs = n) (d : decode cc pc = .ok (.newarray atype, 2)) (hty : newarray.typeOf atype = ty) (ht : (ly_t L)[ti]? = some (ly_c L ti, ty)) (hra : ∀ U cA, va_RA U cA ty → U.vm.findClass ("[" ++ ty.toString) = some cA) (hwa : Cond.arrayClass ty ∈ tb_G) (ha : ∀ cA : ClassId, vp_cell cA a0 = arrV cA N9 (fun _ => defaultValue ty)) (hx0 : ¬ x < 0) (hxN : x.toNatClampNeg = N9) (hby : N9 * componentBytes ty ≤ 536870912) (hcs : cs + 1 ≤ rm.cells) (hsl : sl + N9 ≤ rm.slots) (k : GC E L (fun q => h ≤ q) nL (cs + 1) (sl + N9) Q (ws ++ [(h + n, .inl (ly_c L ti, a0))]) (pc + 2) (lv) (.ref (h + n) :: st)) : GC E L (fun q => h ≤ q) nL (cs) (sl) Q (ws) (pc) (lv) (.int x :: st) := by
  intro H locs ls hP hS hl
  subst hty
  refine gc_at (fun T hT X => lg_hs hP hS hz hw hn hcn T hT X) (fun hsz => ?_)
  refine va_newaK (cx_x C) (cx_c C) (cx_w C _ hwa) rfl d rfl hx0 hxN hby (by rw [cx_R C]; exact hcs) (by rw [cx_R C]; exact hsl) hsz (fun H1 cA e1 z1 o1 hAr hNm => ?_)
  have hcA : cA = ly_c L ti := Option.some.inj (hNm.symm.trans (hra _ _ ((cx_K C).2 ti _ ht).2))
  subst hcA
  have hk : ∀ (k : Nat) (x : Nat × va_E), ws[k]? = some x → H1[x.1]? = H[x.1]? := fun k x hx => o1 x.1 (by have := (hP k x hx).lt; omega)
  refine k H1 locs ls ((hP.kept hk).app (fun k x hx => ?_)) ⟨Nat.le_trans hS.1 (by omega), fun x h1 h2 => (o1 x (by have := hS.1; omega)).trans (hS.2.1 x h1 h2), hS.2.2⟩ hl
  have hz : k < 1 := (List.getElem?_eq_some_iff.mp hx).1
  rw [show k = 0 by omega] at hx
  cases hx
  show H1[h + n]? = some (vp_cell _ _)
  rw [ha]
  exact e1
theorem lg_call {y : MethodName} {cy : ByteArray} {ny i K9 size9 : Nat} {kd9 z9 : Nat → Nat} {rmy : Room} {As dfl9 : List Value} (C : Cx E L (fun q => h ≤ q) cc nL own ret rm) (hz : (fx_s E).heap.size = h) (hM : CtC (fx_l E) y cy ny rmy K9 kd9 z9 size9 As dfl9 σc) (d : decode cc pc = .ok (.invokespecial i, 3)) (n9 : Nat) (hw1 : Cond.methodLink own i y ∈ tb_G) (hw2 : Cond.instanceMethod y ∈ tb_G) (hw4 : Cond.initialized y.cls ∈ tb_G) (hw5 : Cond.code y cy ny none ∈ tb_G) (hyn : y.name = "<init>") (hd : y.cls ≠ "java/lang/invoke/MethodHandle" ∧ y.cls ≠ "java/lang/invoke/VarHandle" ∧ (parseMethodDescriptor y.desc).map (fun d => d.parameters.length) = some n9) (hna : As.length = n9) (hst : st0 = As.reverse ++ .ref (h + n) :: st) (hsm : (st.map fun v => v.category).sum ≤ 8) (hrm : rmy.frames + 1 ≤ rm.frames ∧ 8 + (ny + 11) + rmy.locals ≤ rm.locals) (hcs : cs + rmy.cells ≤ rm.cells ∧ sl + rmy.slots ≤ rm.slots) (hcn : cs = n + 1) (ha : ly_a L = fun o => h + o)
    (hk : ∀ o, o < size9 → ly_k L (n + o) = kd9 o) (hzz : ∀ o, o < size9 → ly_z L (n + o) = z9 o) (h1 : ∀ o, o < size9 → σ.1 (n + o) = σc.1 o) (h2 : ∀ o, o < size9 → σ.2 (n + o) = σc.2 o)
    (k : GC E L (fun q => h ≤ q) nL (cs + rmy.cells) (sl + rmy.slots) Q (WB L σ h (n + size9)) (pc + 3) lv st) : GC E L (fun q => h ≤ q) nL cs sl Q (WB L σ h n ++ [(h + n, .inr (K9, dfl9))]) pc lv st0 := by
  intro H locs ls hP hS hl
  subst hst
  intro T hT X
  have hlast : (WB L σ h n ++ [(h + n, (.inr (K9, dfl9) : va_E))])[n]? = some (h + n, .inr (K9, dfl9)) := by
    rw [List.getElem?_append_right (by rw [WB_len]; exact Nat.le_refl n), WB_len, Nat.sub_self]; rfl
  have hxl := (hP _ _ hlast).lt
  have hsz : H.size = h + n + 1 := by
    have := gc_size X (q := h + n) (by rw [hT]; exact hxl) (by rw [hz]; omega)
    rw [hT] at this; exact this
  have hG : GoodIn tb_G (Cond.code y cy ny none :: tb_G) := tb_good (fun w hw => by rcases List.mem_cons.mp hw with rfl | h; exact hw5; exact h)
  let Lc : Ly := lyT L.1 (ly_c L) kd9 z9 size9 (ly_s L) (h + n)
  have hle : ∀ q, h + n ≤ q → h ≤ q := fun q hq => by omega
  have hPc : va_P L.1 cl_all [(h + n, .inr (K9, dfl9))] H := fun k x hx => by
    have hz0 : k < 1 := (List.getElem?_eq_some_iff.mp hx).1
    rw [show k = 0 by omega] at hx
    cases hx
    exact hP n _ hlast
  have hpre : ∀ U : State, U.heap = H → (fx_s E).WarmedH U.vm → va_Pc (.ref (h + n) :: As) (fun U => U.heap.size = h + n + 1 ∧ va_P L.1 cl_all [(h + n, .inr (K9, dfl9))] U.heap ∧ va_K L.1 cl_all (ly_t Lc) U ∧ tb_ok U ∧ st_ok Lc (fun q => h + n ≤ q) U U.heap) (Value.ref (h + n) :: As).toArray U := by
    intro U hU hW
    subst hU
    refine ⟨rfl, hsz, hPc, va_K.moved hW.alike (cx_K C), tb_ok_warm hW (cx_N C), ?_⟩
    have h9 := st_warm hW (st_narrow (st_kept (cx_S C) hS.2.1) hle)
    exact ⟨h9.1, h9.2.1, h9.2.2.1, h9.2.2.2⟩
  have hbl : FrameBlind (va_Pc (.ref (h + n) :: As) (fun U => U.heap.size = h + n + 1 ∧ va_P L.1 cl_all [(h + n, .inr (K9, dfl9))] U.heap ∧ va_K L.1 cl_all (ly_t Lc) U ∧ tb_ok U ∧ st_ok Lc (fun q => h + n ≤ q) U U.heap)) := fun x U g mk q => ⟨q.1, q.2.1, q.2.2.1, va_K.moved (u := U) (U := U.calling g mk x) (Vm.Alike.refl U.vm) q.2.2.2.1, tb_ok_vm (s := U) (U := U.calling g mk x) rfl q.2.2.2.2.1, st_same (s := U) (U := U.calling g mk x) rfl q.2.2.2.2.2⟩
  refine va_callv (va_runI (As := As) (rest := st) ⟨cx_x C, cx_c C, cx_n C, cx_o C, cx_w C⟩ (hM L.1 (ly_c L) (ly_s L) (h + n)) ⟨callB_of n9 (cx_w C) hG rfl rfl rfl (cx_w C _ hw4) (cx_w C _ hw1) hd (by rw [cx_R C]; exact hrm), hyn, cx_w C _ hw2⟩ ⟨hbl, hpre⟩ rfl hna hl.1 rfl (lv_room hsm) d (by rw [cx_R C]; exact hcs)) hS (fun q _ hq => hle q hq) hle (fun u t H1 l1 ht hvm hp hB hz1 hkk hS1 => ?_) T hT X
  refine k H1 l1 ls ?_ hS1 hl
  have hB' : va_P L.1 cl_all (wl Lc σc) H1 := by rw [← ht]; exact hB
  rw [← WB_app (L := L) (Lc := Lc) (σ := σ) (σc := σc) (size := size9) rfl rfl ha rfl hk hzz h1 h2]
  refine va_P.app (fun k x hx => ?_) hB'
  have hxa := WB_addr hx
  have hx9 : (WB L σ h n ++ [(h + n, (.inr (K9, dfl9) : va_E))])[k]? = some x := by rw [List.getElem?_append_left (by rw [WB_len]; exact hxa.2)]; exact hx
  exact (hP k x hx9).kept (hkk x.1 (by omega) (by show ¬ h + n ≤ x.1; omega))
end LGR
def kl_Law : List Nat := kl_Hat ++ (kl_Mod ++ [21])
def zl_Law : List Nat := zl_Hat ++ (zl_Mod ++ [1])
abbrev kd_Law : Nat → Nat := fun o => kl_Law.getD o 99
abbrev z_Law : Nat → Nat := fun o => zl_Law.getD o 0
abbrev mm_Hat (σS : Mm) : Mm := mm_pl (mm_pl (mm_pl (mm_pl (mm_pl mm_0 1 39 (mm_pl mm_0 4 35 σS)) 47 11 (kI mm_0 0 1 (-1))) 60 35 σS) 95 35 σS) 130 35 σS
/-- both objects and the row as the law's loop finds them -/
def mm_Law (σS σM : Mm) : Mm := mm_pl (mm_pl mm_0 0 169 (mm_Hat σS)) 169 21 σM
set_option maxHeartbeats 4000000 in
theorem law_head {E : Fx} {L : Ly} {h b : Nat} {Q : State → Prop} {σS σM : Mm} (C : Cx E L (fun q => h ≤ q) code 8 "NameHatLaw" ret room_1) (hs : (fx_s E).heap.size = h) (ha : ly_a L = fun o => h + o) (hk : ly_k L = kd_Law) (hz : ly_z L = z_Law) (hn : ly_n L = 191) (hσS : f_State_clear z_State mm_0 0 = some σS) (hσM : f_Mod_init2 z_Mod (kI (kI mm_0 0 26 (-1)) 0 35 (-1)) 0 = some σM)
    (k9 : GW E L (fun q => h ≤ q) 8 (lw_cs 0) (lw_sl 0) Q (mm_Law σS σM) 23 [(0, .ref b), (1, .ref (ly_a L 0)), (2, .ref (ly_a L 169)), (3, .ref (ly_a L 190)), (4, .int 0)] []) : GC E L (fun q => h ≤ q) 8 0 0 Q [] 0 [(0, .ref b)] [] := by
  have e0 : ([] : va_W) = WB L (mm_Law σS σM) h 0 := rfl
  rw [e0]
  refine lg_new (n := 0) (K9 := 10) (N9 := 16) (C9 := R_Hat) (T9 := F_Hat) (fs9 := [.null, .int 0, .int 0, .null, .null, .null, .int 0, .null, .null, .null, .null, .int 0, .int 0, .null, .null, .null]) t_Hat C hs WB_c WB_len rfl d_Law_law_0 rfl i_Hat t_Hat_ok qw_24 qw_25 qw_1 (fun j hj => by rcases (show j = 0 ∨ j = 1 ∨ j = 2 ∨ j = 3 ∨ j = 4 ∨ j = 5 ∨ j = 6 ∨ j = 7 ∨ j = 8 ∨ j = 9 ∨ j = 10 ∨ j = 11 ∨ j = 12 ∨ j = 13 ∨ j = 14 ∨ j = 15 by omega) with rfl | rfl | rfl | rfl | rfl | rfl | rfl | rfl | rfl | rfl | rfl | rfl | rfl | rfl | rfl | rfl <;> rfl) (Nat.le_of_ble_eq_true rfl) (Nat.le_of_ble_eq_true rfl) ?_
  refine gc_dup C d_Law_law_3 rfl ?_
  refine lg_call (n := 0) (σ := mm_Law σS σM) C hs (c_Hat_init _ hσS) d_Law_law_4 0 qw_26 qw_27 qw_1 qw_28 rfl hd_Hat_init rfl rfl (Nat.le_of_ble_eq_true rfl) ⟨(Nat.le_of_ble_eq_true rfl), (Nat.le_of_ble_eq_true rfl)⟩ ⟨(Nat.le_of_ble_eq_true rfl), (Nat.le_of_ble_eq_true rfl)⟩ rfl ha (by rw [hk]; decide +kernel) (by rw [hz]; decide +kernel) (fun o ho => by unfold mm_Law; rw [pl_out1 (by omega), pl_in1 ho]) (fun o ho => by unfold mm_Law; rw [pl_out2 (by omega), pl_in2 ho]) ?_
  refine lg_astore_n C [(1, .ref (h + 0)), (0, .ref b)] d_Law_law_7 rfl (Nat.le_of_ble_eq_true rfl) rfl ?_
  refine lg_new (n := 169) (K9 := 11) (N9 := 45) (C9 := R_Mod) (T9 := F_Mod) (fs9 := [.int 0, .null, .int 0, .int 0, .int 0, .int 0, .null, .null, .null, .null, .null, .int 0, .int 0, .int 0, .int 0, .int 0, .int 0, .long 0, .int 0, .int 0, .int 0, .int 0, .int 0, .int 0, .null, .null, .int 0, .null, .null, .int 0, .null, .null, .int 0, .null, .null, .int 0, .null, .null, .long 0, .long 0, .int 0, .null, .null, .null, .null]) t_Mod C hs WB_c WB_len rfl d_Law_law_8 rfl i_Mod t_Mod_ok qw_1143 qw_1137 qw_12 (fun j hj => by rcases (show j = 0 ∨ j = 1 ∨ j = 2 ∨ j = 3 ∨ j = 4 ∨ j = 5 ∨ j = 6 ∨ j = 7 ∨ j = 8 ∨ j = 9 ∨ j = 10 ∨ j = 11 ∨ j = 12 ∨ j = 13 ∨ j = 14 ∨ j = 15 ∨ j = 16 ∨ j = 17 ∨ j = 18 ∨ j = 19 ∨ j = 20 ∨ j = 21 ∨ j = 22 ∨ j = 23 ∨ j = 24 ∨ j = 25 ∨ j = 26 ∨ j = 27 ∨ j = 28 ∨ j = 29 ∨ j = 30 ∨ j = 31 ∨ j = 32 ∨ j = 33 ∨ j = 34 ∨ j = 35 ∨ j = 36 ∨ j = 37 ∨ j = 38 ∨ j = 39 ∨ j = 40 ∨ j = 41 ∨ j = 42 ∨ j = 43 ∨ j = 44 by omega) with rfl | rfl | rfl | rfl | rfl | rfl | rfl | rfl | rfl | rfl | rfl | rfl | rfl | rfl | rfl | rfl | rfl | rfl | rfl | rfl | rfl | rfl | rfl | rfl | rfl | rfl | rfl | rfl | rfl | rfl | rfl | rfl | rfl | rfl | rfl | rfl | rfl | rfl | rfl | rfl | rfl | rfl | rfl | rfl | rfl <;> rfl) (Nat.le_of_ble_eq_true rfl) (Nat.le_of_ble_eq_true rfl) ?_
  refine gc_dup C d_Law_law_11 rfl ?_
  refine lg_call (n := 169) (σ := mm_Law σS σM) C hs (c_Mod_init _ hσM) d_Law_law_12 0 qw_1144 qw_1145 qw_12 qw_1146 rfl hd_Mod_init rfl rfl (Nat.le_of_ble_eq_true rfl) ⟨(Nat.le_of_ble_eq_true rfl), (Nat.le_of_ble_eq_true rfl)⟩ ⟨(Nat.le_of_ble_eq_true rfl), (Nat.le_of_ble_eq_true rfl)⟩ rfl ha (by rw [hk]; decide +kernel) (by rw [hz]; decide +kernel) (fun o ho => by unfold mm_Law; rw [pl_in1 ho]) (fun o ho => by unfold mm_Law; rw [pl_in2 ho]) ?_
  refine lg_astore_n C [(2, .ref (h + 169)), (1, .ref (h + 0)), (0, .ref b)] d_Law_law_15 rfl (Nat.le_of_ble_eq_true rfl) rfl ?_
  refine gc_iconst C 1 d_Law_law_16 (by decide) ?_
  refine lg_newa (n := 190) (N9 := 1) (ty := .long) 1 (1, .inr (.inl (fun _ => 0))) C hs WB_c WB_len rfl d_Law_law_17 rfl rfl (fun _ _ q => q) qw_121 (fun _ => rfl) (by decide) (by decide) (Nat.le_of_ble_eq_true rfl) (Nat.le_of_ble_eq_true rfl) (Nat.le_of_ble_eq_true rfl) ?_
  refine gc_ws (WB_push (by rw [hk]; show _ = Sum.inl (_, ly_z L 190, _); rw [hz]; unfold mm_Law; rw [pl_out2 (by decide), pl_out2 (by decide)]; rfl)) ?_
  refine lg_astore_n C [(3, .ref (h + 190)), (2, .ref (h + 169)), (1, .ref (h + 0)), (0, .ref b)] d_Law_law_19 rfl (Nat.le_of_ble_eq_true rfl) rfl ?_
  refine gc_ws (WB_full ha hn) ?_
  refine gc_gw ?_
  refine gw_iconst C 0 d_Law_law_20 (by decide) ?_
  refine gw_istore C [(4, .int 0), (3, .ref (h + 190)), (2, .ref (h + 169)), (1, .ref (h + 0)), (0, .ref b)] d_Law_law_21 (Nat.le_of_ble_eq_true rfl) rfl ?_
  refine gw_sub [4, 3, 2, 1, 0] (lv' := [(0, .ref b), (1, .ref (ly_a L 0)), (2, .ref (ly_a L 169)), (3, .ref (ly_a L 190)), (4, .int 0)]) (by rw [ha]; rfl) ?_
  exact gw_widen (Nat.le_of_ble_eq_true rfl) (Nat.le_of_ble_eq_true rfl) k9
