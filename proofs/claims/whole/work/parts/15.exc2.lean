/-! contracts of the methods that throw, and of the law's helpers that catch -/
def ct_PX (L : Ly) (As : List Value) (σ : Mm) (sz : Nat) : Array Value → State → Prop := va_Pc As (fun U => U.heap.size = sz ∧ WP L σ U ∧ ex_ok (va_A (wl L σ) U.heap.size) U U.heap)
theorem ct_blindX {L : Ly} {As : List Value} {σ : Mm} {sz : Nat} : FrameBlind (ct_PX L As σ sz) := fun x U g mk q => ⟨q.1, q.2.1, ⟨q.2.2.1.1, va_K.moved (u := U) (U := U.calling g mk x) (Vm.Alike.refl U.vm) q.2.2.1.2.1, q.2.2.1.2.2.1, tb_ok_vm (s := U) (U := U.calling g mk x) rfl q.2.2.1.2.2.2.1, st_same (s := U) (U := U.calling g mk x) rfl q.2.2.1.2.2.2.2⟩, ex_same (s := U) (U := U.calling g mk x) rfl q.2.2.2⟩
def ExT (E : Fx) (L : Ly) (A : Nat → Prop) (cc : ByteArray) (nL : Nat) (Q : State → Prop) (σ : Mm) : Prop := ∀ (pc : Nat) (lv : List (Nat × Value)) (is : Nat) (tx : String), (is, tx) ∈ ex_S → decode cc pc = .ok (.new 137, 3) → decode cc (pc + 3) = .ok (.dup, 1) → ((decode cc (pc + 4) = .ok (.ldc is, 2) ∧ decode cc (pc + 6) = .ok (.invokespecial 141, 3) ∧ decode cc (pc + 9) = .ok (.athrow, 1)) ∨ (decode cc (pc + 4) = .ok (.ldc_w is, 3) ∧ decode cc (pc + 7) = .ok (.invokespecial 141, 3) ∧ decode cc (pc + 10) = .ok (.athrow, 1))) → GW E L A nL 0 0 Q σ pc lv []
theorem ex_X_in : Cond.classLink "NameHat" 137 ex_X ∈ tb_G := qw_997
theorem ex_X_ini : Cond.initialized ex_X ∈ tb_G := qw_22

def CxI (l : Launch) (y : MethodName) (cc : ByteArray) (nL : Nat) (rm : Room) (L : Ly) (As : List Value) (σ : Mm) (res : Option (Int32 × Mm)) : Prop :=
  ∀ sz, vx_Met l y (Cond.code y cc nL (some .int) :: tb_G) rm (ct_PX L As σ sz) (va_Qi (fun r' (_ : Unit) => ∃ σ', res = some (r', σ')) (fun _ t => ∀ q, res = some q → va_P L.1 cl_all (wl L q.2) t.heap) (va_A (wl L σ) sz)) (vx_X (fun (_ : Unit) => res = none) (fun E' _ t => E' = ex_X ∧ va_P L.1 cl_all (wl L σ) t.heap) (va_A (wl L σ) sz)) 1 6 (va_A (wl L σ) sz)
set_option maxHeartbeats 2000000 in
theorem ct_xi {l : Launch} {y : MethodName} {cc : ByteArray} {nL : Nat} {rm : Room} {L : Ly} {As : List Value} {σ : Mm} {res : Option (Int32 × Mm)} (hl : l.stackTraces = false) (hg : gd_ok L) (hy : plainName y.cls = true) (hyc : y.cls = "NameHat") (hlen : (lg_sl As).length ≤ nL) (hrm : rm.cells = 1 ∧ rm.slots = 6 ∧ 5 < rm.frames ∧ 82 ≤ rm.locals)
    (body : ∀ (E : Fx) (A : Nat → Prop) (Q : State → Prop), fx_l E = l → Cx E L A cc nL y.cls (some .int) rm → (∀ r σ' pc lv, res = some (r, σ') → decode cc pc = .ok (.ireturn, 1) → GW E L A nL 0 0 Q σ' pc lv [.int r]) → (res = none → ExT E L A cc nL Q σ) → GW E L A nL 0 0 Q σ 0 (lv_args 0 As) []) : CxI l y cc nL rm L As σ res := by
  intro sz
  refine vx_ofW (cc := cc) (maxL := nL) (ret := some .int) hy rfl ?_
  intro p e s m args below meth c s₁ B hml htab hv
  obtain ⟨rfl, hsz, ⟨hP, hK, hD0, hN, hT0⟩, hX0⟩ := hv
  have hts := atoms_spec (ws := Cond.code y cc nL (some .int) :: tb_G) B.pre
  subst hsz
  rw [lg_entry_eq]
  have hl9 := lv_entry As (n := nL) hlen
  let E : Fx := (p, l, e, (headSpec (Cond.code y cc nL (some .int) :: tb_G) rm).room, s, m, As.toArray, below, meth, c)
  have C : Cx E L (va_A (wl L σ) s.heap.size) cc nL y.cls (some .int) rm := ⟨B.exec, B.bytes, hml, findClass_of_methodNamed B.named, fun w hw => hts w (List.mem_cons_of_mem _ hw), hN, hK, hg, wl_inj hD0, fun o ho => va_A.in (wl_at L σ ho), fun q hq => Or.inr hq, rfl, B.notSynchronized, B.returns, hT0⟩
  refine body E (va_A (wl L σ) s.heap.size) (vx_MQ below _ _ As.toArray s 1 6 _) rfl C ?_ ?_ s.heap [] _ hP va_S.rf hl9
  · intro r σ' pc lv hres d H locs ls hP9 hS9 hl9
    refine vx_ret (W.widen (k := 1) (n := 6) (Nat.zero_le _) (Nat.zero_le _) ?_)
    exact W.iret (cx_x C) (cx_c C) (cx_r C) (fun t ht hW => ⟨⟨_, (), rfl, ⟨σ', hres⟩, fun q hq => by subst ht; rw [hres] at hq; cases hq; exact hP9⟩, hS9.F ht⟩) hS9.2.2 d B.notSynchronized
  · intro hres pc lv is tx hin d0 d3 hd H locs ls hP9 hS9 hl9
    obtain ⟨sa, hsa⟩ := hX0.2.2.2 _ hin
    have hown : s.vm.findClass "NameHat" = some m.cls := by rw [← hyc]; exact cx_o C
    have hat : ∀ w ∈ ex_F, w.before As.toArray s = true := fun w hw => (ex_in w hw).elim (fun q => cx_w C w q) (fun q => va_Nw.use (ex_Nok w q) (hX0.2.2.1 w q))
    have hR : fx_R E = rm := rfl
    have hx : ∀ t : State, s.vm.Alike t.vm → H.size ≤ t.heap.size → (∀ q : Nat, q < H.size → t.heap[q]? = H[q]?) → vx_X (fun (_ : Unit) => res = none) (fun E' _ t => E' = ex_X ∧ va_P L.1 cl_all (wl L σ) t.heap) (va_A (wl L σ) s.heap.size) ex_X s t := fun t _ hz hk => ⟨(), hres, ⟨rfl, hP9.kept (fun k q hq => hk q.1 (hP9 k q hq).lt)⟩, Nat.le_trans hS9.1 hz, fun q hq hA => (hk q (Nat.lt_of_lt_of_le hq hS9.1)).trans (hS9.2.1 q hq hA)⟩
    rcases hd with ⟨d4, d6, d9⟩ | ⟨d4, d6, d9⟩
    · exact ex_throw (A := va_A (wl L σ) s.heap.size) (cx_x C) (cx_c C) hl hown (cx_w C _ ex_X_in) (cx_w C _ ex_X_ini) hsa hat hX0.1 hX0.2.1 hS9 (hl9.1.trans hml.symm) d0 d3 d4 d6 d9 (fun x q => (htab x q).elim) (by rw [hR]; exact hrm.2.2.1) (by rw [hR]; exact (by have h82 := hrm.2.2.2; show 0 + 82 ≤ rm.locals; omega)) (by rw [hR, hrm.1]; exact Nat.le_refl _) (by rw [hR, hrm.2.1]; exact Nat.le_refl _) B.notSynchronized hx hS9.2.2 (Nat.le_refl _) (Nat.le_refl _)
    · exact ex_throwW (A := va_A (wl L σ) s.heap.size) (cx_x C) (cx_c C) hl hown (cx_w C _ ex_X_in) (cx_w C _ ex_X_ini) hsa hat hX0.1 hX0.2.1 hS9 (hl9.1.trans hml.symm) d0 d3 d4 d6 d9 (fun x q => (htab x q).elim) (by rw [hR]; exact hrm.2.2.1) (by rw [hR]; exact (by have h82 := hrm.2.2.2; show 0 + 82 ≤ rm.locals; omega)) (by rw [hR, hrm.1]; exact Nat.le_refl _) (by rw [hR, hrm.2.1]; exact Nat.le_refl _) B.notSynchronized hx hS9.2.2 (Nat.le_refl _) (Nat.le_refl _)

def CxL (l : Launch) (y : MethodName) (cc : ByteArray) (nL : Nat) (rm : Room) (L : Ly) (As : List Value) (σ : Mm) (res : Option (Int64 × Mm)) : Prop :=
  ∀ sz, vx_Met l y (Cond.code y cc nL (some .long) :: tb_G) rm (ct_PX L As σ sz) (va_Ql (fun r' (_ : Unit) => ∃ σ', res = some (r', σ')) (fun _ t => ∀ q, res = some q → va_P L.1 cl_all (wl L q.2) t.heap) (va_A (wl L σ) sz)) (vx_X (fun (_ : Unit) => res = none) (fun E' _ t => E' = ex_X ∧ va_P L.1 cl_all (wl L σ) t.heap) (va_A (wl L σ) sz)) 1 6 (va_A (wl L σ) sz)
set_option maxHeartbeats 2000000 in
theorem ct_xl {l : Launch} {y : MethodName} {cc : ByteArray} {nL : Nat} {rm : Room} {L : Ly} {As : List Value} {σ : Mm} {res : Option (Int64 × Mm)} (hl : l.stackTraces = false) (hg : gd_ok L) (hy : plainName y.cls = true) (hyc : y.cls = "NameHat") (hlen : (lg_sl As).length ≤ nL) (hrm : rm.cells = 1 ∧ rm.slots = 6 ∧ 5 < rm.frames ∧ 82 ≤ rm.locals)
    (body : ∀ (E : Fx) (A : Nat → Prop) (Q : State → Prop), fx_l E = l → Cx E L A cc nL y.cls (some .long) rm → (∀ r σ' pc lv, res = some (r, σ') → decode cc pc = .ok (.lreturn, 1) → GW E L A nL 0 0 Q σ' pc lv [.long r]) → (res = none → ExT E L A cc nL Q σ) → GW E L A nL 0 0 Q σ 0 (lv_args 0 As) []) : CxL l y cc nL rm L As σ res := by
  intro sz
  refine vx_ofW (cc := cc) (maxL := nL) (ret := some .long) hy rfl ?_
  intro p e s m args below meth c s₁ B hml htab hv
  obtain ⟨rfl, hsz, ⟨hP, hK, hD0, hN, hT0⟩, hX0⟩ := hv
  have hts := atoms_spec (ws := Cond.code y cc nL (some .long) :: tb_G) B.pre
  subst hsz
  rw [lg_entry_eq]
  have hl9 := lv_entry As (n := nL) hlen
  let E : Fx := (p, l, e, (headSpec (Cond.code y cc nL (some .long) :: tb_G) rm).room, s, m, As.toArray, below, meth, c)
  have C : Cx E L (va_A (wl L σ) s.heap.size) cc nL y.cls (some .long) rm := ⟨B.exec, B.bytes, hml, findClass_of_methodNamed B.named, fun w hw => hts w (List.mem_cons_of_mem _ hw), hN, hK, hg, wl_inj hD0, fun o ho => va_A.in (wl_at L σ ho), fun q hq => Or.inr hq, rfl, B.notSynchronized, B.returns, hT0⟩
  refine body E (va_A (wl L σ) s.heap.size) (vx_MQ below _ _ As.toArray s 1 6 _) rfl C ?_ ?_ s.heap [] _ hP va_S.rf hl9
  · intro r σ' pc lv hres d H locs ls hP9 hS9 hl9
    refine vx_ret (W.widen (k := 1) (n := 6) (Nat.zero_le _) (Nat.zero_le _) ?_)
    exact W.lret (cx_x C) (cx_c C) (cx_r C) (fun t ht hW => ⟨⟨_, (), rfl, ⟨σ', hres⟩, fun q hq => by subst ht; rw [hres] at hq; cases hq; exact hP9⟩, hS9.F ht⟩) hS9.2.2 d B.notSynchronized
  · intro hres pc lv is tx hin d0 d3 hd H locs ls hP9 hS9 hl9
    obtain ⟨sa, hsa⟩ := hX0.2.2.2 _ hin
    have hown : s.vm.findClass "NameHat" = some m.cls := by rw [← hyc]; exact cx_o C
    have hat : ∀ w ∈ ex_F, w.before As.toArray s = true := fun w hw => (ex_in w hw).elim (fun q => cx_w C w q) (fun q => va_Nw.use (ex_Nok w q) (hX0.2.2.1 w q))
    have hR : fx_R E = rm := rfl
    have hx : ∀ t : State, s.vm.Alike t.vm → H.size ≤ t.heap.size → (∀ q : Nat, q < H.size → t.heap[q]? = H[q]?) → vx_X (fun (_ : Unit) => res = none) (fun E' _ t => E' = ex_X ∧ va_P L.1 cl_all (wl L σ) t.heap) (va_A (wl L σ) s.heap.size) ex_X s t := fun t _ hz hk => ⟨(), hres, ⟨rfl, hP9.kept (fun k q hq => hk q.1 (hP9 k q hq).lt)⟩, Nat.le_trans hS9.1 hz, fun q hq hA => (hk q (Nat.lt_of_lt_of_le hq hS9.1)).trans (hS9.2.1 q hq hA)⟩
    rcases hd with ⟨d4, d6, d9⟩ | ⟨d4, d6, d9⟩
    · exact ex_throw (A := va_A (wl L σ) s.heap.size) (cx_x C) (cx_c C) hl hown (cx_w C _ ex_X_in) (cx_w C _ ex_X_ini) hsa hat hX0.1 hX0.2.1 hS9 (hl9.1.trans hml.symm) d0 d3 d4 d6 d9 (fun x q => (htab x q).elim) (by rw [hR]; exact hrm.2.2.1) (by rw [hR]; exact (by have h82 := hrm.2.2.2; show 0 + 82 ≤ rm.locals; omega)) (by rw [hR, hrm.1]; exact Nat.le_refl _) (by rw [hR, hrm.2.1]; exact Nat.le_refl _) B.notSynchronized hx hS9.2.2 (Nat.le_refl _) (Nat.le_refl _)
    · exact ex_throwW (A := va_A (wl L σ) s.heap.size) (cx_x C) (cx_c C) hl hown (cx_w C _ ex_X_in) (cx_w C _ ex_X_ini) hsa hat hX0.1 hX0.2.1 hS9 (hl9.1.trans hml.symm) d0 d3 d4 d6 d9 (fun x q => (htab x q).elim) (by rw [hR]; exact hrm.2.2.1) (by rw [hR]; exact (by have h82 := hrm.2.2.2; show 0 + 82 ≤ rm.locals; omega)) (by rw [hR, hrm.1]; exact Nat.le_refl _) (by rw [hR, hrm.2.1]; exact Nat.le_refl _) B.notSynchronized hx hS9.2.2 (Nat.le_refl _) (Nat.le_refl _)

def CwI (l : Launch) (y : MethodName) (cc : ByteArray) (nL : Nat) (hh : List (Nat × Nat × Nat × Nat)) (rm : Room) (L : Ly) (As : List Value) (σ : Mm) (r : Int32) (σ' : Mm) : Prop :=
  ∀ sz, Met l y (Cond.codeWith y cc nL (some .int) hh :: tb_G) rm (ct_PX L As σ sz) (va_Qi (fun r' (_ : Unit) => r' = r) (fun _ t => va_P L.1 cl_all (wl L σ') t.heap) (va_A (wl L σ) sz)) 1 6 (va_A (wl L σ) sz)
theorem ex_ofWH {l : Launch} {y : MethodName} {ws ws' : List Cond} {rm : Room} {Pc : Array Value → State → Prop} {Qc : Array Value → State → Outcome → State → Prop} {mc ms : Nat} {free : Addr → Prop} {cc : ByteArray} {maxL : Nat} {ret : Option FieldType} {hh : List (Nat × Nat × Nat × Nat)}
    (hy : plainName y.cls = true) (hw : ws = Cond.codeWith y cc maxL ret hh :: ws')
    (body : ∀ p e s m args below meth c s₁, BodyLoose p l y (headSpec ws rm) cc maxL ret e s m args below meth c s₁ → c.maxLocals = maxL → Pc args s →
      W p l e (headSpec ws rm).room s m args below meth c s.heap [] 0 0 (MQ below Qc args s mc ms free) (entryFrame m args maxL)) : Met l y ws rm Pc Qc mc ms free := by
  refine MetFree.of_bodyS (code := cc) (maxLocals := maxL) (ret := ret) hy ?_ ?_
  · intro args s m h hn
    obtain ⟨m9, meth, c, hn9, h1, h2, h3, h4, -, h5, h6, -⟩ := Cond.codeWith_spec (atoms_spec (ws := ws) h _ (by rw [hw]; exact List.mem_cons_self))
    cases hn.symm.trans hn9
    exact ⟨meth, c, h1, h2, h3, h4, h5, h6⟩
  · intro p e s m args below meth c s₁ B hml hP _
    have hh0 : s₁.heap = s.heap := by rw [B.state]; rfl
    obtain ⟨t, a1, o, b1, b2, b3⟩ := body p e s m args below meth c s₁ B hml hP s₁ hh0 (Stand.of_body B)
    exact ⟨t, o, a1, b1, b2, ⟨b3.1, b3.2⟩⟩
set_option maxHeartbeats 2000000 in
theorem ct_w {l : Launch} {y : MethodName} {cc : ByteArray} {nL : Nat} {hh : List (Nat × Nat × Nat × Nat)} {rm : Room} {L : Ly} {As : List Value} {σ σ' : Mm} {r : Int32} (hg : gd_ok L) (hy : plainName y.cls = true) (hlen : (lg_sl As).length ≤ nL)
    (body : ∀ (E : Fx) (A : Nat → Prop) (Q : State → Prop), fx_l E = l → Cx E L A cc nL y.cls (some .int) rm → (fx_c E).exceptionTable.toList = tableOf hh → ex_ok A (fx_s E) (fx_s E).heap → (∀ pc lv, decode cc pc = .ok (.ireturn, 1) → GW E L A nL 1 6 Q σ' pc lv [.int r]) → GW E L A nL 0 0 Q σ 0 (lv_args 0 As) []) : CwI l y cc nL hh rm L As σ r σ' := by
  intro sz
  refine ex_ofWH (cc := cc) (maxL := nL) (ret := some .int) (hh := hh) hy rfl ?_
  intro p e s m args below meth c s₁ B hml hv
  obtain ⟨rfl, hsz, ⟨hP, hK, hD0, hN, hT0⟩, hX0⟩ := hv
  have hts := atoms_spec (ws := Cond.codeWith y cc nL (some .int) hh :: tb_G) B.pre
  have htab : c.exceptionTable.toList = tableOf hh := vx_table (x := y) B (hts _ List.mem_cons_self)
  subst hsz
  rw [lg_entry_eq]
  have hl9 := lv_entry As (n := nL) hlen
  let E : Fx := (p, l, e, (headSpec (Cond.codeWith y cc nL (some .int) hh :: tb_G) rm).room, s, m, As.toArray, below, meth, c)
  have C : Cx E L (va_A (wl L σ) s.heap.size) cc nL y.cls (some .int) rm := ⟨B.exec, B.bytes, hml, findClass_of_methodNamed B.named, fun w hw => hts w (List.mem_cons_of_mem _ hw), hN, hK, hg, wl_inj hD0, fun o ho => va_A.in (wl_at L σ ho), fun q hq => Or.inr hq, rfl, B.notSynchronized, B.returns, hT0⟩
  refine body E (va_A (wl L σ) s.heap.size) (MQ below _ As.toArray s 1 6 _) rfl C htab hX0 ?_ s.heap [] _ hP va_S.rf hl9
  intro pc lv d H locs ls hP9 hS9 hl9
  exact W.iret (cx_x C) (cx_c C) (cx_r C) (fun t ht hW => ⟨⟨_, (), rfl, rfl, by subst ht; exact hP9⟩, hS9.F ht⟩) hS9.2.2 d B.notSynchronized
section CATCH
variable {E : Fx} {L : Ly} {A : Nat → Prop} {cc : ByteArray} {nL cs sl : Nat} {own : String} {ret : Option FieldType} {rm : Room} {Q : State → Prop} {σ σ' : Mm} {pc : Nat} {lv : List (Nat × Value)} {st st0 : List Value}
theorem gw_preX (C : Cx E L A cc nL own ret rm) (hX : ex_ok A (fx_s E) (fx_s E).heap) {H : Heap} {locs : List Loc} {As : List Value} (hP : va_P L.1 cl_all (wl L σ) H) (hS : va_S A (fx_s E).heap H locs) : ∀ U : State, U.heap = H → (fx_s E).WarmedH U.vm → ct_PX L As σ H.size As.toArray U := by
  intro U hU hW
  subst hU
  exact ⟨rfl, rfl, ⟨hP, va_K.moved hW.alike (cx_K C), (cx_D C σ).weaken (fun _ _ _ _ => trivial), tb_ok_warm hW (cx_N C), st_warm hW (st_narrow (st_kept (cx_S C) hS.2.1) (gw_frA (σ := σ) C hS))⟩, ex_warm hW (ex_narrow (ex_kept hX hS.2.1) (gw_frA (σ := σ) C hS))⟩
theorem gw_widen {k n : Nat} (h1 : cs ≤ k) (h2 : sl ≤ n) (kk : GW E L A nL k n Q σ pc lv st) : GW E L A nL cs sl Q σ pc lv st := fun H locs ls hP hS hl => W.widen h1 h2 (kk H locs ls hP hS hl)

set_option maxHeartbeats 2000000 in
theorem gw_callXI {y : MethodName} {cy : ByteArray} {ny i o : Nat} {rmy : Room} {As : List Value} {N : Nat} {T : u_T} {res : Option (Int32 × Mm)} {x0 : ExceptionTableEntry} (C : Cx E L A cc nL own ret rm) (hX : ex_ok A (fx_s E) (fx_s E).heap) (hM : CxI (fx_l E) y cy ny rmy L (.ref (ly_a L o) :: As) σ res) (htab : (fx_c E).exceptionTable.toList = [x0]) (hcov : covers x0 pc = true) (h0 : x0.catchType ≠ 0) (hcl0 : Cond.classLink own x0.catchType ex_X ∈ tb_G) (d : decode cc pc = .ok (.invokevirtual i, 3)) (n : Nat) (hw1 : Cond.methodLink own i y ∈ tb_G) (hw2 : Cond.instanceMethod y ∈ tb_G) (hw3 : Cond.selects y.cls y y ∈ tb_G) (hw4 : Cond.initialized y.cls ∈ tb_G) (hw5 : Cond.code y cy ny (some .int) ∈ tb_G) (hk : ly_k L o = 10) (hc : cl_all[10]? = some (y.cls, T, N)) (hd : y.cls ≠ "java/lang/invoke/MethodHandle" ∧ y.cls ≠ "java/lang/invoke/VarHandle" ∧ (parseMethodDescriptor y.desc).map (fun d => d.parameters.length) = some n) (hn : As.length = n) (hst : st0 = As.reverse ++ .ref (ly_a L o) :: st) (hsm : (st.map fun v => v.category).sum ≤ 8) (hrm : rmy.cells = 1 ∧ rmy.slots = 6 ∧ rmy.frames + 1 ≤ rm.frames ∧ 8 + (ny + 11) + rmy.locals ≤ rm.locals) (hcs : cs + 1 ≤ rm.cells ∧ sl + 6 ≤ rm.slots)
    (kx : res = none → ∀ q, GW E L A nL (cs + 1) (sl + 6) Q σ x0.handlerPc lv [.ref q]) (k : ∀ r σ', res = some (r, σ') → GW E L A nL (cs + 1) (sl + 6) Q σ' (pc + 3) lv (.int r :: st)) : GW E L A nL cs sl Q σ pc lv st0 := by
  intro H locs ls hP hS hl
  subst hst
  have hF := gw_frA (σ := σ) C hS
  have hG : GoodIn tb_G (Cond.code y cy ny (some .int) :: tb_G) := tb_good (fun w hw => by rcases List.mem_cons.mp hw with rfl | h; exact hw5; exact h)
  have he := wl_at L σ (gd_lt (cx_g C) hk (by omega))
  rw [hk, cl_obj (K := 10) (by omega)] at he
  refine vx_calli (vx_runV (As := As) (rest := st) ⟨cx_x C, cx_c C, cx_n C, cx_o C, cx_w C⟩ (hM H.size) ⟨callB_of n (cx_w C) hG rfl hrm.1 hrm.2.1 (cx_w C _ hw4) (cx_w C _ hw1) hd (by rw [cx_R C]; exact hrm.2.2), cx_w C _ hw2, cx_w C _ hw3⟩ ⟨ct_blindX, va_recv (cx_K C) hP hc he, gw_preX C hX hP hS⟩ rfl hn hl.1 rfl (lv_room hsm) d (by rw [cx_R C]; exact hcs)) hS (fun q _ h => hF q h) hF (fun q _ h => hF q h) (fun E9 ce q9 u t H1 l1 ht hvm hp hB hz hkk hS1 hq9 hv9 hc9 => ?_) (fun r1 u t H1 l1 ht hvm hp hB hz hkk hS1 => ?_)
  · obtain ⟨rfl, hB⟩ := hB
    refine vx_catch (own := own) (name := ex_X) (E := ex_X) (cx_o C) [] x0 [] htab (fun z hz => by cases hz) hcov h0 (cx_w C _ hcl0) (va_Nw.use rfl (hX.2.2.1 _ (by decide +kernel))) hq9 hv9 hc9 ?_
    exact kx hp q9 H1 l1 ls (by rw [← ht]; exact hB) hS1 hl
  · obtain ⟨σ', hres⟩ := hp
    exact k r1 σ' hres H1 l1 ls (by rw [← ht]; exact hB _ hres) hS1 hl

set_option maxHeartbeats 2000000 in
theorem gw_callXL {y : MethodName} {cy : ByteArray} {ny i o : Nat} {rmy : Room} {As : List Value} {N : Nat} {T : u_T} {res : Option (Int64 × Mm)} {x0 : ExceptionTableEntry} (C : Cx E L A cc nL own ret rm) (hX : ex_ok A (fx_s E) (fx_s E).heap) (hM : CxL (fx_l E) y cy ny rmy L (.ref (ly_a L o) :: As) σ res) (htab : (fx_c E).exceptionTable.toList = [x0]) (hcov : covers x0 pc = true) (h0 : x0.catchType ≠ 0) (hcl0 : Cond.classLink own x0.catchType ex_X ∈ tb_G) (d : decode cc pc = .ok (.invokevirtual i, 3)) (n : Nat) (hw1 : Cond.methodLink own i y ∈ tb_G) (hw2 : Cond.instanceMethod y ∈ tb_G) (hw3 : Cond.selects y.cls y y ∈ tb_G) (hw4 : Cond.initialized y.cls ∈ tb_G) (hw5 : Cond.code y cy ny (some .long) ∈ tb_G) (hk : ly_k L o = 10) (hc : cl_all[10]? = some (y.cls, T, N)) (hd : y.cls ≠ "java/lang/invoke/MethodHandle" ∧ y.cls ≠ "java/lang/invoke/VarHandle" ∧ (parseMethodDescriptor y.desc).map (fun d => d.parameters.length) = some n) (hn : As.length = n) (hst : st0 = As.reverse ++ .ref (ly_a L o) :: st) (hsm : (st.map fun v => v.category).sum ≤ 8) (hrm : rmy.cells = 1 ∧ rmy.slots = 6 ∧ rmy.frames + 1 ≤ rm.frames ∧ 8 + (ny + 11) + rmy.locals ≤ rm.locals) (hcs : cs + 1 ≤ rm.cells ∧ sl + 6 ≤ rm.slots)
    (kx : res = none → ∀ q, GW E L A nL (cs + 1) (sl + 6) Q σ x0.handlerPc lv [.ref q]) (k : ∀ r σ', res = some (r, σ') → GW E L A nL (cs + 1) (sl + 6) Q σ' (pc + 3) lv (.long r :: st)) : GW E L A nL cs sl Q σ pc lv st0 := by
  intro H locs ls hP hS hl
  subst hst
  have hF := gw_frA (σ := σ) C hS
  have hG : GoodIn tb_G (Cond.code y cy ny (some .long) :: tb_G) := tb_good (fun w hw => by rcases List.mem_cons.mp hw with rfl | h; exact hw5; exact h)
  have he := wl_at L σ (gd_lt (cx_g C) hk (by omega))
  rw [hk, cl_obj (K := 10) (by omega)] at he
  refine vx_calll (vx_runV (As := As) (rest := st) ⟨cx_x C, cx_c C, cx_n C, cx_o C, cx_w C⟩ (hM H.size) ⟨callB_of n (cx_w C) hG rfl hrm.1 hrm.2.1 (cx_w C _ hw4) (cx_w C _ hw1) hd (by rw [cx_R C]; exact hrm.2.2), cx_w C _ hw2, cx_w C _ hw3⟩ ⟨ct_blindX, va_recv (cx_K C) hP hc he, gw_preX C hX hP hS⟩ rfl hn hl.1 rfl (lv_room hsm) d (by rw [cx_R C]; exact hcs)) hS (fun q _ h => hF q h) hF (fun q _ h => hF q h) (fun E9 ce q9 u t H1 l1 ht hvm hp hB hz hkk hS1 hq9 hv9 hc9 => ?_) (fun r1 u t H1 l1 ht hvm hp hB hz hkk hS1 => ?_)
  · obtain ⟨rfl, hB⟩ := hB
    refine vx_catch (own := own) (name := ex_X) (E := ex_X) (cx_o C) [] x0 [] htab (fun z hz => by cases hz) hcov h0 (cx_w C _ hcl0) (va_Nw.use rfl (hX.2.2.1 _ (by decide +kernel))) hq9 hv9 hc9 ?_
    exact kx hp q9 H1 l1 ls (by rw [← ht]; exact hB) hS1 hl
  · obtain ⟨σ', hres⟩ := hp
    exact k r1 σ' hres H1 l1 ls (by rw [← ht]; exact hB _ hres) hS1 hl

set_option maxHeartbeats 2000000 in
theorem gw_callW {y : MethodName} {cy : ByteArray} {ny i : Nat} {hh : List (Nat × Nat × Nat × Nat)} {rmy : Room} {As : List Value} {r : Int32} (C : Cx E L A cc nL own ret rm) (hX : ex_ok A (fx_s E) (fx_s E).heap) (hM : CwI (fx_l E) y cy ny hh rmy L As σ r σ') (d : decode cc pc = .ok (.invokestatic i, 3)) (n : Nat) (hw1 : Cond.methodLink own i y ∈ tb_G) (hw2 : Cond.static y ∈ tb_G) (hw4 : Cond.initialized y.cls ∈ tb_G) (hw5 : Cond.codeWith y cy ny (some .int) hh ∈ tb_G) (hd : y.cls ≠ "java/lang/invoke/MethodHandle" ∧ y.cls ≠ "java/lang/invoke/VarHandle" ∧ (parseMethodDescriptor y.desc).map (fun d => d.parameters.length) = some n) (hn : As.length = n) (hst : st0 = As.reverse ++ st) (hsm : (st.map fun v => v.category).sum ≤ 8) (hrm : rmy.cells = 1 ∧ rmy.slots = 6 ∧ rmy.frames + 1 ≤ rm.frames ∧ 8 + (ny + 11) + rmy.locals ≤ rm.locals) (hcs : cs + 1 ≤ rm.cells ∧ sl + 6 ≤ rm.slots)
    (k : GW E L A nL (cs + 1) (sl + 6) Q σ' (pc + 3) lv (.int r :: st)) : GW E L A nL cs sl Q σ pc lv st0 := by
  intro H locs ls hP hS hl
  subst hst
  have hF := gw_frA (σ := σ) C hS
  have hG : GoodIn tb_G (va_wsS own i y (Cond.codeWith y cy ny (some .int) hh :: tb_G)) := tb_good (fun w hw => by
    simp only [va_wsS, List.mem_append, List.mem_cons, List.not_mem_nil, or_false] at hw
    rcases hw with (rfl | rfl | rfl) | rfl | h
    · exact hw1
    · exact hw2
    · exact hw4
    · exact hw5
    · exact h)
  refine va_calli (vx_runSW (As := As) (rest := st) ⟨cx_x C, cx_c C, cx_n C, cx_o C, cx_w C⟩ (hM H.size) (vx_cwSW n (cx_w C) hG rfl hrm.1 hrm.2.1 hd (by rw [cx_R C]; exact hrm.2.2)) ⟨ct_blindX, gw_preX C hX hP hS⟩ rfl hn hl.1 rfl (lv_room hsm) d (by rw [cx_R C]; exact hcs)) hS (fun q _ h => hF q h) hF (fun r1 u t H1 l1 ht hvm hp hB hz hkk hS1 => ?_)
  subst hp
  exact k H1 l1 ls (by rw [← ht]; exact hB) hS1 hl
end CATCH
