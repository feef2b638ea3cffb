/-! constructors: a world that grows at one end; the object number k of a tree that begins at h lies at h + k -/
def lyT (D : va_G) (ca : Nat → ClassId) (kd z : Nat → Nat) (size : Nat) (sp : Nat × Nat) (h : Nat) : Ly := (D, fun o => h + o, ca, kd, z, size, sp)
def mm_0 : Mm := (fun _ _ => 0, fun _ _ => 0)
theorem gd_list {D : va_G} {ca : Nat → ClassId} {kl : List Nat} {z : Nat → Nat} {sp : Nat × Nat} {h : Nat} (h1 : ∀ q ∈ gd_T, ∀ o, o < kl.length → kl.getD o 99 = q.1 → kl.getD (o + q.2.1) 99 = q.2.2) (h2 : ∀ q ∈ gd_T, q.1 ≠ 99) : gd_ok (lyT D ca (fun o => kl.getD o 99) z kl.length sp h) := by
  refine ⟨fun q hq o ho => ?_, fun o ho => ?_⟩
  · have ho' : kl.getD o 99 = q.1 := ho
    by_cases hl : o < kl.length
    · exact h1 q hq o hl ho'
    · rw [List.getD_eq_getElem?_getD, List.getElem?_eq_none (by omega)] at ho'
      replace ho' : (99 : Nat) = q.1 := ho'
      exact absurd ho'.symm (h2 q hq)
  · have ho' : kl.getD o 99 ≠ 99 := ho
    show o < kl.length
    by_cases hl : o < kl.length
    · exact hl
    · rw [List.getD_eq_getElem?_getD, List.getElem?_eq_none (by omega)] at ho'
      exact absurd rfl ho'
def GC (E : Fx) (L : Ly) (A : Nat → Prop) (nL cs sl : Nat) (Q : State → Prop) (ws : va_W) (pc : Nat) (lv : List (Nat × Value)) (st : List Value) : Prop :=
  ∀ (H : Heap) (locs : List Loc) (ls : Array Slot), va_P L.1 cl_all ws H → va_S A (fx_s E).heap H locs → lv_has ls nL lv → WX E H locs cs sl Q (F0 (fx_m E) pc ls st)
/-- the object under construction, and its parts that are done -/
def W1 (L : Ly) (σ : Mm) (h n K : Nat) (fs : List Value) : va_W := (h, .inr (K, fs)) :: (List.range' 1 (n - 1)).map (fun o => (h + o, cl_e L (ly_k L o) o (σ.1 o) (σ.2 o)))
theorem W1_len {L : Ly} {σ : Mm} {h n K : Nat} {fs : List Value} (hn : 1 ≤ n) : (W1 L σ h n K fs).length = n := by simp [W1]; omega
theorem W1_0 {L : Ly} {σ : Mm} {h n K : Nat} {fs : List Value} : (W1 L σ h n K fs)[0]? = some (h, .inr (K, fs)) := rfl
theorem W1_at {L : Ly} {σ : Mm} {h n K : Nat} {fs : List Value} {o : Nat} (h1 : 1 ≤ o) (h2 : o < n) : (W1 L σ h n K fs)[o]? = some (h + o, cl_e L (ly_k L o) o (σ.1 o) (σ.2 o)) := by
  obtain ⟨j, rfl⟩ : ∃ j, o = j + 1 := ⟨o - 1, by omega⟩
  have hj : j < n - 1 := by omega
  simp only [W1, List.getElem?_cons_succ, List.getElem?_map]
  rw [List.getElem?_range' (by omega)]
  simp [Nat.add_comm]
theorem W1_addr {L : Ly} {σ : Mm} {h n K : Nat} {fs : List Value} (hn : 1 ≤ n) {k : Nat} {x : Nat × va_E} (hx : (W1 L σ h n K fs)[k]? = some x) : x.1 = h + k ∧ k < n := by
  have hk : k < n := by have := (List.getElem?_eq_some_iff.mp hx).1; rw [W1_len hn] at this; exact this
  by_cases h0 : k = 0
  · subst h0; rw [W1_0] at hx; cases hx; exact ⟨rfl, hk⟩
  · rw [W1_at (by omega) hk] at hx; cases hx; exact ⟨rfl, hk⟩
theorem W1_set {L : Ly} {σ : Mm} {h n K : Nat} {fs fs' : List Value} : (W1 L σ h n K fs).set 0 (h, .inr (K, fs')) = W1 L σ h n K fs' := rfl
/-- a list of cells that lie one behind another -/
def wl_c (h : Nat) (ws : va_W) : Prop := ∀ (k : Nat) (x : Nat × va_E), ws[k]? = some x → x.1 = h + k
theorem W1_c {L : Ly} {σ : Mm} {h n K : Nat} {fs : List Value} (hn : 1 ≤ n) : wl_c h (W1 L σ h n K fs) := fun k x hx => (W1_addr hn hx).1
theorem wl_c_app {h n : Nat} {ws : va_W} {e : va_E} (hw : wl_c h ws) (hl : ws.length = n) : wl_c h (ws ++ [(h + n, e)]) := by
  intro k x hx
  by_cases hk : k < ws.length
  · rw [List.getElem?_append_left hk] at hx; exact hw k x hx
  · rw [List.getElem?_append_right (by omega)] at hx
    have hz : k - ws.length < 1 := (List.getElem?_eq_some_iff.mp hx).1
    rw [show k - ws.length = 0 by omega] at hx
    cases hx
    show h + n = h + k
    omega
theorem wl_c_D {h : Nat} {ws : va_W} (hw : wl_c h ws) : va_D (fun q => h ≤ q) ws := by
  refine ⟨fun i j p q hi hj e => ?_, fun k q hk => ?_⟩
  · have := hw i p hi; have := hw j q hj; omega
  · have := hw k q hk; show h ≤ q.1; omega
theorem W1_full {L : Ly} {σ : Mm} {h K : Nat} {fs : List Value} (ha : ly_a L = fun o => h + o) (hn : 1 ≤ ly_n L) (h0 : ly_k L 0 = K) (hK : K < 20) (hfs : fs = fd_row (fun o => h + o) (fd_T.getD K []) 0 (σ.1 0) (σ.2 0)) : W1 L σ h (ly_n L) K fs = wl L σ := by
  apply List.ext_getElem?
  intro k
  by_cases hk : k < ly_n L
  · rw [wl_at L σ hk, ha]
    by_cases hz : k = 0
    · subst hz; rw [W1_0, h0, cl_obj hK, hfs, ha]; rfl
    · rw [W1_at (by omega) hk]
  · rw [List.getElem?_eq_none (by rw [W1_len hn]; omega), List.getElem?_eq_none (by simp [wl]; omega)]
/-- a finished part is a stretch of the whole -/
theorem W1_app {L Lc : Ly} {σ σc : Mm} {h n size K : Nat} {fs : List Value} (hn : 1 ≤ n) (hs : ly_n Lc = size) (hac : ly_a Lc = fun o => h + n + o) (ha : ly_a L = fun o => h + o) (hcc : ly_c Lc = ly_c L) (hk : ∀ o, o < size → ly_k L (n + o) = ly_k Lc o) (hz : ∀ o, o < size → ly_z L (n + o) = ly_z Lc o) (h1 : ∀ o, o < size → σ.1 (n + o) = σc.1 o) (h2 : ∀ o, o < size → σ.2 (n + o) = σc.2 o) : W1 L σ h n K fs ++ wl Lc σc = W1 L σ h (n + size) K fs := by
  apply List.ext_getElem?
  intro k
  by_cases hkn : k < n
  · rw [List.getElem?_append_left (by rw [W1_len hn]; exact hkn)]
    by_cases h0 : k = 0
    · subst h0; rfl
    · rw [W1_at (by omega) hkn, W1_at (by omega) (by omega)]
  · rw [List.getElem?_append_right (by rw [W1_len hn]; omega), W1_len hn]
    by_cases hks : k < n + size
    · obtain ⟨j, rfl⟩ : ∃ j, k = n + j := ⟨k - n, by omega⟩
      have hj : j < size := by omega
      rw [W1_at (by omega) hks, show n + j - n = j by omega, wl_at Lc σc (by rw [hs]; exact hj), hac, hk j hj, h1 j hj, h2 j hj]
      congr 1
      refine Prod.ext (by show h + n + j = h + (n + j); omega) ?_
      show cl_e Lc _ _ _ _ = cl_e L _ _ _ _
      unfold cl_e
      rw [hcc, hz j hj]
      have : fd_row (ly_a Lc) (fd_T.getD (ly_k Lc j) []) j (σc.1 j) (σc.2 j) = fd_row (ly_a L) (fd_T.getD (ly_k Lc j) []) (n + j) (σc.1 j) (σc.2 j) := by
        unfold fd_row
        rw [hac, ha]
        congr 1
        funext k q
        by_cases hq : q.1 = 0
        · simp only [hq, if_true]
          show Value.ref (h + n + (j + q.2)) = Value.ref (h + (n + j + q.2))
          rw [Nat.add_assoc h n, Nat.add_assoc n j]
        · simp only [hq, if_false]
      rw [this]
    · rw [List.getElem?_eq_none (by simp [wl]; omega), List.getElem?_eq_none (by rw [W1_len (by omega)]; omega)]
/-- the newest heap ends where the newest cell says -/
theorem gc_size {p : Program} {l : Launch} {e : Env} {R : Room} {s : State} {m : MethodId} {args : Array Value} {below : List Frame} {meth : Method} {c : Code} {T : State} {locs : List Loc} {cells slots : Nat} (X : Stand p l e R s m args below meth c T locs cells slots) {q : Nat} (hq : q < T.heap.size) (hs : s.heap.size + cells = q + 1) : T.heap.size = q + 1 := by
  have h1 := X.same.2.2.1
  have h2 : (T.setVm s.vm).heap.size = T.heap.size := rfl
  omega
theorem gc_at {E : Fx} {H : Heap} {locs : List Loc} {cs sl k : Nat} {Q : State → Prop} {g : JFrame} (hs : ∀ T : State, T.heap = H → Stand (fx_p E) (fx_l E) (fx_e E) (fx_R E) (fx_s E) (fx_m E) (fx_a E) (fx_b E) (fx_t E) (fx_c E) T locs cs sl → H.size = k) (kk : H.size = k → WX E H locs cs sl Q g) : WX E H locs cs sl Q g := fun T hT X => kk (hs T hT X) T hT X
theorem gc_hs {E : Fx} {H : Heap} {locs : List Loc} {cs sl h n : Nat} {D : va_G} {ws : va_W} (hP : va_P D cl_all ws H) (hz : (fx_s E).heap.size = h + 1) (hw : wl_c h ws) (hn : ws.length = n) (hcn : cs + 1 = n) (T : State) (hT : T.heap = H) (X : Stand (fx_p E) (fx_l E) (fx_e E) (fx_R E) (fx_s E) (fx_m E) (fx_a E) (fx_b E) (fx_t E) (fx_c E) T locs cs sl) : H.size = h + n := by
  have hl0 : ∃ x, ws[n - 1]? = some x := ⟨ws[n - 1], by rw [List.getElem?_eq_getElem]⟩
  obtain ⟨x, hx⟩ := hl0
  have hxa := hw _ _ hx
  have hxl := (hP _ _ hx).lt
  have h9 := gc_size X (q := h + (n - 1)) (by rw [hT]; omega) (by rw [hz]; omega)
  rw [hT] at h9
  omega
section GCR
variable {E : Fx} {L : Ly} {h : Nat} {cc : ByteArray} {nL cs sl : Nat} {own : String} {ret : Option FieldType} {rm : Room} {Q : State → Prop} {ws : va_W} {pc : Nat} {lv : List (Nat × Value)} {st : List Value} {σ : Mm} {n K : Nat} {fs : List Value}

theorem gc_iconst {j : Int} (C : Cx E L (fun q => h ≤ q) cc nL own ret rm) (v : Int32) (d : decode cc pc = .ok (.iconst j, 1)) (hv : Int32.ofInt j = v) (k : GC E L (fun q => h ≤ q) nL (cs) (sl) Q (ws) (pc + 1) lv (.int v :: st)) : GC E L (fun q => h ≤ q) nL (cs) (sl) Q (ws) (pc) lv (st) := fun H locs ls hP hS hl => lv_iconst (cx_x C) (cx_c C) d hv (k H locs ls hP hS hl)
theorem gc_bipush {j : Int} (C : Cx E L (fun q => h ≤ q) cc nL own ret rm) (v : Int32) (d : decode cc pc = .ok (.bipush j, 2)) (hv : (Int8.ofInt j).toInt32 = v) (k : GC E L (fun q => h ≤ q) nL (cs) (sl) Q (ws) (pc + 2) lv (.int v :: st)) : GC E L (fun q => h ≤ q) nL (cs) (sl) Q (ws) (pc) lv (st) := fun H locs ls hP hS hl => lv_bipush (cx_x C) (cx_c C) d hv (k H locs ls hP hS hl)
theorem gc_sipush {j : Int} (C : Cx E L (fun q => h ≤ q) cc nL own ret rm) (v : Int32) (d : decode cc pc = .ok (.sipush j, 3)) (hv : (Int16.ofInt j).toInt32 = v) (k : GC E L (fun q => h ≤ q) nL (cs) (sl) Q (ws) (pc + 3) lv (.int v :: st)) : GC E L (fun q => h ≤ q) nL (cs) (sl) Q (ws) (pc) lv (st) := fun H locs ls hP hS hl => lv_sipush (cx_x C) (cx_c C) d hv (k H locs ls hP hS hl)
theorem gc_aload_n {j : Fin 4} {i x : Nat} (C : Cx E L (fun q => h ≤ q) cc nL own ret rm) (n9 : Nat) (d : decode cc pc = .ok (.aload_n j, 1)) (hi : (j : Nat) = i) (h9 : lv[n9]? = some (i, .ref x)) (k : GC E L (fun q => h ≤ q) nL (cs) (sl) Q (ws) (pc + 1) lv (.ref x :: st)) : GC E L (fun q => h ≤ q) nL (cs) (sl) Q (ws) (pc) lv (st) := fun H locs ls hP hS hl => lv_aload_n (cx_x C) (cx_c C) d hi (lv_at hl n9 h9) (k H locs ls hP hS hl)
theorem gc_iload_n {j : Fin 4} {i : Nat} {x : Int32} (C : Cx E L (fun q => h ≤ q) cc nL own ret rm) (n9 : Nat) (d : decode cc pc = .ok (.iload_n j, 1)) (hi : (j : Nat) = i) (h9 : lv[n9]? = some (i, .int x)) (k : GC E L (fun q => h ≤ q) nL (cs) (sl) Q (ws) (pc + 1) lv (.int x :: st)) : GC E L (fun q => h ≤ q) nL (cs) (sl) Q (ws) (pc) lv (st) := fun H locs ls hP hS hl => lv_iload_n (cx_x C) (cx_c C) d hi (lv_at hl n9 h9) (k H locs ls hP hS hl)
theorem gc_dup {v : Value} (C : Cx E L (fun q => h ≤ q) cc nL own ret rm) (d : decode cc pc = .ok (.dup, 1)) (hv : v.category = 1) (k : GC E L (fun q => h ≤ q) nL (cs) (sl) Q (ws) (pc + 1) lv (v :: v :: st)) : GC E L (fun q => h ≤ q) nL (cs) (sl) Q (ws) (pc) lv (v :: st) := fun H locs ls hP hS hl => lv_dup (cx_x C) (cx_c C) d hv (k H locs ls hP hS hl)
theorem gc_goto {off : Int} (C : Cx E L (fun q => h ≤ q) cc nL own ret rm) (tgt : Nat) (d : decode cc pc = .ok (.goto off, 3)) (ht : (pc : Int) + off = (tgt : Int)) (k : GC E L (fun q => h ≤ q) nL (cs) (sl) Q (ws) (tgt) lv (st)) : GC E L (fun q => h ≤ q) nL (cs) (sl) Q (ws) (pc) lv (st) := fun H locs ls hP hS hl => lv_goto (cx_x C) (cx_c C) d ht (k H locs ls hP hS hl)
theorem gc_if_ge {x : Int32} {off : Int} (C : Cx E L (fun q => h ≤ q) cc nL own ret rm) (tgt : Nat) (d : decode cc pc = .ok (.ifCond .ge off, 3)) (ht : (pc : Int) + off = (tgt : Int)) (kt : 0 ≤ x → GC E L (fun q => h ≤ q) nL (cs) (sl) Q (ws) (tgt) lv (st)) (kf : ¬ 0 ≤ x → GC E L (fun q => h ≤ q) nL (cs) (sl) Q (ws) (pc + 3) lv (st)) : GC E L (fun q => h ≤ q) nL (cs) (sl) Q (ws) (pc) lv (.int x :: st) := fun H locs ls hP hS hl => lv_if_ge (cx_x C) (cx_c C) d ht (fun h => kt h H locs ls hP hS hl) (fun h => kf h H locs ls hP hS hl)
theorem gc_obj {i x : Nat} (C : Cx E L (fun q => h ≤ q) cc nL own ret rm) (d : decode cc pc = .ok (.invokespecial i, 3)) (hw1 : Cond.methodLink own i Lib.objectInit ∈ tb_G) (hw2 : Cond.instanceMethod Lib.objectInit ∈ tb_G) (hw3 : Cond.code Lib.objectInit ⟨#[0xb1]⟩ 1 none ∈ tb_G) (hsm : (st.map fun v => v.category).sum ≤ 8) (hrm : 1 ≤ rm.frames ∧ 20 ≤ rm.locals) (k : GC E L (fun q => h ≤ q) nL (cs) (sl) Q (ws) (pc + 3) lv (st)) : GC E L (fun q => h ≤ q) nL (cs) (sl) Q (ws) (pc) lv (.ref x :: st) := by
  intro H locs ls hP hS hl
  refine W.objInit (cx_x C) (cx_c C) (cx_o C) (cx_w C _ hw1) (cx_w C _ hw2) (cx_w C _ hw3) rfl (by show ls.size = _; rw [cx_n C]; exact hl.1) rfl d (by rw [cx_R C]; exact hrm.1) (by rw [cx_R C]; show 2 * 0 + _ + 12 ≤ _; omega) ?_
  exact k H locs ls hP hS hl
theorem gc_new {K9 N9 i : Nat} {C9 : String} {T9 : u_T} {fs9 : List Value} (ty9 : Nat → FieldType) (C : Cx E L (fun q => h ≤ q) cc nL own ret rm) (hz : (fx_s E).heap.size = h + 1) (hw : wl_c h ws) (hn : ws.length = n) (hcn : cs + 1 = n) (d : decode cc pc = .ok (.new i, 3)) (hc : cl_all[K9]? = some (C9, T9, N9)) (hi : ∀ w ∈ u_ws C9 T9 N9, w ∈ tb_G) (hty : ∀ k, k < N9 → parseFieldDescriptor (T9 k).2.2.1 = some (ty9 k)) (hw1 : Cond.classLink own i C9 ∈ tb_G) (hw2 : Cond.instantiable C9 N9 ∈ tb_G) (hw3 : Cond.initialized C9 ∈ tb_G) (hfs : ∀ j, j < N9 → defaultValue (ty9 j) = vp_V fs9 j) (hcs : cs + 1 ≤ rm.cells) (hsl : sl + N9 ≤ rm.slots) (k : GC E L (fun q => h ≤ q) nL (cs + 1) (sl + N9) Q (ws ++ [(h + n, .inr (K9, fs9))]) (pc + 3) lv (.ref (h + n) :: st)) : GC E L (fun q => h ≤ q) nL (cs) (sl) Q (ws) (pc) lv (st) := by
  intro H locs ls hP hS hl
  have hKn := (cx_K C).1 K9 _ hc
  refine gc_at (fun T hT X => gc_hs hP hz hw hn hcn T hT X) (fun hsz => ?_)
  refine W.newcK (cx_x C) (cx_c C) (cx_o C) (cx_w C _ hw1) (cx_w C _ hw2) (cx_w C _ hw3) rfl d (by rw [cx_R C]; exact hcs) (by rw [cx_R C]; exact hsl) hKn.2.1 hsz (fun H1 kC hkC e1 z1 o1 => ?_)
  have hk : ∀ (k : Nat) (x : Nat × va_E), ws[k]? = some x → H1[x.1]? = H[x.1]? := fun k x hx => o1 x.1 (by have := (hP k x hx).lt; omega)
  refine k H1 locs ls ((hP.kept hk).app (fun k x hx => ?_)) ⟨Nat.le_trans hS.1 (by omega), fun x h1 h2 => (o1 x (by have := hS.1; omega)).trans (hS.2.1 x h1 h2), hS.2.2⟩ hl
  have hz : k < 1 := (List.getElem?_eq_some_iff.mp hx).1
  rw [show k = 0 by omega] at hx
  cases hx
  exact ⟨_, hc, (u_born ty9 (cx_w C) hi hKn hkC e1 hty).to hfs⟩
theorem gc_newa {N9 : Nat} {x : Int32} {atype : ArrayType} {ty : FieldType} (ti : Nat) (a0 : vp_A) (C : Cx E L (fun q => h ≤ q) cc nL own ret rm) (hz : (fx_s E).heap.size = h + 1) (hw : wl_c h ws) (hn : ws.length = n) (hcn : cs + 1 = n) (d : decode cc pc = .ok (.newarray atype, 2)) (hty : newarray.typeOf atype = ty) (ht : (ly_t L)[ti]? = some (ly_c L ti, ty)) (hra : ∀ U cA, va_RA U cA ty → U.vm.findClass ("[" ++ ty.toString) = some cA) (hwa : Cond.arrayClass ty ∈ tb_G) (ha : ∀ cA : ClassId, vp_cell cA a0 = arrV cA N9 (fun _ => defaultValue ty)) (hx0 : ¬ x < 0) (hxN : x.toNatClampNeg = N9) (hby : N9 * componentBytes ty ≤ 536870912) (hcs : cs + 1 ≤ rm.cells) (hsl : sl + N9 ≤ rm.slots) (k : GC E L (fun q => h ≤ q) nL (cs + 1) (sl + N9) Q (ws ++ [(h + n, .inl (ly_c L ti, a0))]) (pc + 2) lv (.ref (h + n) :: st)) : GC E L (fun q => h ≤ q) nL (cs) (sl) Q (ws) (pc) lv (.int x :: st) := by
  intro H locs ls hP hS hl
  subst hty
  refine gc_at (fun T hT X => gc_hs hP hz hw hn hcn T hT X) (fun hsz => ?_)
  refine va_newaK (cx_x C) (cx_c C) (cx_w C _ hwa) rfl d rfl hx0 hxN hby (by rw [cx_R C]; exact hcs) (by rw [cx_R C]; exact hsl) hsz (fun H1 cA e1 z1 o1 hAr hNm => ?_)
  have hcA : cA = ly_c L ti := Option.some.inj (hNm.symm.trans (hra _ _ ((cx_K C).2 ti _ ht).2))
  subst hcA
  have hk : ∀ (k : Nat) (x : Nat × va_E), ws[k]? = some x → H1[x.1]? = H[x.1]? := fun k x hx => o1 x.1 (by have := (hP k x hx).lt; omega)
  refine k H1 locs ls ((hP.kept hk).app (fun k x hx => ?_)) ⟨Nat.le_trans hS.1 (by omega), fun x h1 h2 => (o1 x (by have := hS.1; omega)).trans (hS.2.1 x h1 h2), hS.2.2⟩ hl
  have hz : k < 1 := (List.getElem?_eq_some_iff.mp hx).1
  rw [show k = 0 by omega] at hx
  cases hx
  show H1[h + n]? = some (vp_cell _ _)
  rw [ha]
  exact e1
theorem gc_putF {N9 i : Nat} {x : Nat} {C9 : String} {T9 : u_T} {ty : FieldType} (ty0 : Nat → FieldType) (C : Cx E L (fun q => h ≤ q) cc nL own ret rm) (hin : (fx_t E).name = "<init>") (f : Nat) (hw : wl_c h ws) (he : ws[0]? = some (h, .inr (K, fs))) (d : decode cc pc = .ok (.putfield i, 3)) (hi : ∀ w ∈ u_ws C9 T9 N9, w ∈ tb_G) (hc : cl_all[K]? = some (C9, T9, N9)) (hn : f < N9) (hwl : Cond.fieldLink own i C9 (T9 f).2.1 (T9 f).2.2.1 ∈ tb_G) (hT : (T9 f).1 = C9) (ho : C9 = own) (ht0 : ∀ k, k < N9 → parseFieldDescriptor (T9 k).2.2.1 = some (ty0 k)) (hnm : ∀ a, a < N9 → ∀ b, b < N9 → a ≠ b → (T9 a).2.1 ≠ (T9 b).2.1) (hfin : (T9 f).2.2.2 = true) (hd : parseFieldDescriptor (T9 f).2.2.1 = some ty) (hnv : narrow ty (.ref x) = .ref x) (hfv : fits ty (.ref x) = true) (hlen : f < fs.length) (k : GC E L (fun q => h ≤ q) nL (cs) (sl) Q (ws.set 0 (h, .inr (K, fs.set f (.ref x)))) (pc + 3) lv (st)) : GC E L (fun q => h ≤ q) nL (cs) (sl) Q (ws) (pc) lv (.ref x :: .ref h :: st) := by
  intro H locs ls hP hS hl
  subst ho
  exact va_putF (D := L.1) (cl := cl_all) (cx_x C) (cx_c C) (cx_w C) hi ty0 ht0 hnm (cx_o C) (cx_K C) hP (wl_c_D hw) hS 0 he hc f hn (cx_w C _ hwl) (fun z h9 => by rw [hT] at h9; exact h9) hfin hin hT hd hnv hfv hlen d (fun H1 l1 h1 _ h3 => k H1 l1 ls h1 h3 hl)
theorem gc_putI {N9 i : Nat} {x : Int32} {C9 : String} {T9 : u_T} {ty : FieldType} (ty0 : Nat → FieldType) (C : Cx E L (fun q => h ≤ q) cc nL own ret rm)  (f : Nat) (hw : wl_c h ws) (he : ws[0]? = some (h, .inr (K, fs))) (d : decode cc pc = .ok (.putfield i, 3)) (hi : ∀ w ∈ u_ws C9 T9 N9, w ∈ tb_G) (hc : cl_all[K]? = some (C9, T9, N9)) (hn : f < N9) (hwl : Cond.fieldLink own i C9 (T9 f).2.1 (T9 f).2.2.1 ∈ tb_G) (hT : (T9 f).1 = C9) (ho : C9 = own) (ht0 : ∀ k, k < N9 → parseFieldDescriptor (T9 k).2.2.1 = some (ty0 k)) (hnm : ∀ a, a < N9 → ∀ b, b < N9 → a ≠ b → (T9 a).2.1 ≠ (T9 b).2.1) (hfin : (T9 f).2.2.2 = false) (hd : parseFieldDescriptor (T9 f).2.2.1 = some ty) (hnv : narrow ty (.int x) = .int x) (hfv : fits ty (.int x) = true) (hlen : f < fs.length) (k : GC E L (fun q => h ≤ q) nL (cs) (sl) Q (ws.set 0 (h, .inr (K, fs.set f (.int x)))) (pc + 3) lv (st)) : GC E L (fun q => h ≤ q) nL (cs) (sl) Q (ws) (pc) lv (.int x :: .ref h :: st) := by
  intro H locs ls hP hS hl
  subst ho
  exact va_put (D := L.1) (cl := cl_all) (cx_x C) (cx_c C) (cx_w C) hi ty0 ht0 hnm (cx_o C) (cx_K C) hP (wl_c_D hw) hS 0 he hc f hn (cx_w C _ hwl) (fun z h9 => by rw [hT] at h9; exact h9) hfin hd hnv hfv hlen d (fun H1 l1 h1 _ h3 => k H1 l1 ls h1 h3 hl)
theorem gc_get {K9 N9 i b : Nat} {ref C9 : String} {T9 : u_T} {fs9 : List Value} {v : Value} (C : Cx E L (fun q => h ≤ q) cc nL own ret rm) (f q : Nat) (he : ws[q]? = some (b, .inr (K9, fs9))) (d : decode cc pc = .ok (.getfield i, 3)) (hi : ∀ w ∈ u_ws C9 T9 N9, w ∈ tb_G) (hc : cl_all[K9]? = some (C9, T9, N9)) (hn : f < N9) (hwl : Cond.fieldLink own i ref (T9 f).2.1 (T9 f).2.2.1 ∈ tb_G) (hr : C9 = ref) (hT : (T9 f).1 = ref) (hv : fs9[f]? = some v) (k : GC E L (fun q => h ≤ q) nL (cs) (sl) Q (ws) (pc + 3) lv (v :: st)) : GC E L (fun q => h ≤ q) nL (cs) (sl) Q (ws) (pc) lv (.ref b :: st) := by
  intro H locs ls hP hS hl
  subst hr
  exact va_get (D := L.1) (cl := cl_all) (cx_x C) (cx_c C) (cx_w C) hi (cx_o C) (cx_K C) hP q he hc f hn (cx_w C _ hwl) (fun z h9 => by rw [hT] at h9; exact h9) hv d (k H locs ls hP hS hl)
theorem gc_getN {K9 N9 i b : Nat} {ref host C9 : String} {T9 : u_T} {fs9 : List Value} {v : Value} (C : Cx E L (fun q => h ≤ q) cc nL own ret rm) (f q : Nat) (he : ws[q]? = some (b, .inr (K9, fs9))) (d : decode cc pc = .ok (.getfield i, 3)) (hi : ∀ w ∈ u_ws C9 T9 N9, w ∈ tb_G) (hc : cl_all[K9]? = some (C9, T9, N9)) (hn : f < N9) (hwl : Cond.fieldLinkNest own i ref (T9 f).2.1 (T9 f).2.2.1 host ∈ tb_N) (hr : C9 = ref) (hT : (T9 f).1 = ref) (hv : fs9[f]? = some v) (k : GC E L (fun q => h ≤ q) nL (cs) (sl) Q (ws) (pc + 3) lv (v :: st)) : GC E L (fun q => h ≤ q) nL (cs) (sl) Q (ws) (pc) lv (.ref b :: st) := by
  intro H locs ls hP hS hl
  subst hr
  exact va_getN (D := L.1) (cl := cl_all) (cx_x C) (cx_c C) (cx_w C) hi (cx_o C) (cx_K C) hP q he hc f hn (va_Nw.use rfl (cx_N C _ hwl)) (fun z h9 => by rw [hT] at h9; exact h9) hv d (k H locs ls hP hS hl)
end GCR
/-- a constructor's contract: the new object at h, the heap's last cell, becomes a whole tree -/
def CtC (l : Launch) (y : MethodName) (cc : ByteArray) (nL : Nat) (rm : Room) (K : Nat) (kd z : Nat → Nat) (size : Nat) (As : List Value) (dfl : List Value) (σ : Mm) : Prop :=
  ∀ (D : va_G) (ca : Nat → ClassId) (sp : Nat × Nat) (h : Nat), Met l y (Cond.code y cc nL none :: tb_G) rm
    (va_Pc (.ref h :: As) (fun U => U.heap.size = h + 1 ∧ va_P D cl_all [(h, .inr (K, dfl))] U.heap ∧ va_K D cl_all (ly_t (lyT D ca kd z size sp h)) U ∧ tb_ok U ∧ st_ok (lyT D ca kd z size sp h) (fun q => h ≤ q) U U.heap))
    (va_Qv (fun (_ : Unit) => True) (fun _ t => va_P D cl_all (wl (lyT D ca kd z size sp h) σ) t.heap) (fun q => h ≤ q)) rm.cells rm.slots (fun q => h ≤ q)
def EnC (E : Fx) (L : Ly) (h : Nat) (cc : ByteArray) (nL : Nat) (rm : Room) (Q : State → Prop) (σ : Mm) : Prop := ∀ pc lv, decode cc pc = .ok (.return_, 1) → GW E L (fun q => h ≤ q) nL rm.cells rm.slots Q σ pc lv []
theorem ct_c {l : Launch} {y : MethodName} {cc : ByteArray} {nL : Nat} {rm : Room} {K size : Nat} {kd z : Nat → Nat} {As dfl : List Value} {σ : Mm} (hg : ∀ D ca sp h, gd_ok (lyT D ca kd z size sp h)) (hy : plainName y.cls = true) (hyn : y.name = "<init>") (hlen : ∀ h, (lg_sl (.ref h :: As)).length ≤ nL)
    (body : ∀ (E : Fx) (L : Ly) (h : Nat) (Q : State → Prop), fx_l E = l → ly_a L = (fun o => h + o) → ly_k L = kd → ly_z L = z → ly_n L = size → Cx E L (fun q => h ≤ q) cc nL y.cls none rm → (fx_s E).heap.size = h + 1 → (fx_t E).name = "<init>" → EnC E L h cc nL rm Q σ → GC E L (fun q => h ≤ q) nL 0 0 Q [(h, .inr (K, dfl))] 0 (lv_args 0 (.ref h :: As)) []) : CtC l y cc nL rm K kd z size As dfl σ := by
  intro D ca sp h
  refine Met.ofW (cc := cc) (maxL := nL) (ret := none) hy rfl ?_
  intro p e s m args below meth c s₁ B hml hv
  obtain ⟨rfl, hsz, hP, hK, hN, hT0⟩ := hv
  have hts := atoms_spec (ws := Cond.code y cc nL none :: tb_G) B.pre
  rw [lg_entry_eq]
  have hl := lv_entry (.ref h :: As) (n := nL) (hlen h)
  let E : Fx := (p, l, e, (headSpec (Cond.code y cc nL none :: tb_G) rm).room, s, m, (.ref h :: As : List Value).toArray, below, meth, c)
  have hinj : ∀ i j, i < size → j < size → h + i = h + j → i = j := fun i j _ _ e => by omega
  have C : Cx E (lyT D ca kd z size sp h) (fun q => h ≤ q) cc nL y.cls none rm := ⟨B.exec, B.bytes, hml, findClass_of_methodNamed B.named, fun w hw => hts w (List.mem_cons_of_mem _ hw), hN, hK, hg D ca sp h, hinj, fun o _ => Nat.le_add_right h o, fun q hq => (by have hq' : s.heap.size ≤ q := hq; omega), rfl, B.notSynchronized, B.returns, hT0⟩
  refine body E (lyT D ca kd z size sp h) h (MQ below _ (.ref h :: As : List Value).toArray s rm.cells rm.slots _) rfl rfl rfl rfl rfl C hsz ?_ ?_ s.heap [] _ hP va_S.rf hl
  · exact (name_of_methodNamed B.named B.method).1.trans hyn
  intro pc lv d H locs ls hP9 hS9 hl9
  exact W.vret (cx_x C) (cx_c C) (cx_r C) (fun t ht hW => ⟨⟨(), rfl, trivial, by subst ht; exact hP9⟩, hS9.F ht⟩) hS9.2.2 d B.notSynchronized
section GCC
variable {E : Fx} {L : Ly} {h : Nat} {cc : ByteArray} {nL cs sl : Nat} {own : String} {ret : Option FieldType} {rm : Room} {Q : State → Prop} {pc : Nat} {lv : List (Nat × Value)} {st st0 : List Value} {σ σc : Mm} {n K : Nat} {fs : List Value}

theorem gc_call {y : MethodName} {cy : ByteArray} {ny i K9 size9 : Nat} {kd9 z9 : Nat → Nat} {rmy : Room} {As dfl9 : List Value} (C : Cx E L (fun q => h ≤ q) cc nL own ret rm) (hz : (fx_s E).heap.size = h + 1) (hM : CtC (fx_l E) y cy ny rmy K9 kd9 z9 size9 As dfl9 σc) (d : decode cc pc = .ok (.invokespecial i, 3)) (n9 : Nat) (hw1 : Cond.methodLink own i y ∈ tb_G) (hw2 : Cond.instanceMethod y ∈ tb_G) (hw4 : Cond.initialized y.cls ∈ tb_G) (hw5 : Cond.code y cy ny none ∈ tb_G) (hyn : y.name = "<init>") (hd : y.cls ≠ "java/lang/invoke/MethodHandle" ∧ y.cls ≠ "java/lang/invoke/VarHandle" ∧ (parseMethodDescriptor y.desc).map (fun d => d.parameters.length) = some n9) (hna : As.length = n9) (hst : st0 = As.reverse ++ .ref (h + n) :: st) (hsm : (st.map fun v => v.category).sum ≤ 8) (hrm : rmy.frames + 1 ≤ rm.frames ∧ 8 + (ny + 11) + rmy.locals ≤ rm.locals) (hcs : cs + rmy.cells ≤ rm.cells ∧ sl + rmy.slots ≤ rm.slots) (hn : 1 ≤ n) (hcn : cs = n) (ha : ly_a L = fun o => h + o)
    (hk : ∀ o, o < size9 → ly_k L (n + o) = kd9 o) (hzz : ∀ o, o < size9 → ly_z L (n + o) = z9 o) (h1 : ∀ o, o < size9 → σ.1 (n + o) = σc.1 o) (h2 : ∀ o, o < size9 → σ.2 (n + o) = σc.2 o)
    (k : GC E L (fun q => h ≤ q) nL (cs + rmy.cells) (sl + rmy.slots) Q (W1 L σ h (n + size9) K fs) (pc + 3) lv st) : GC E L (fun q => h ≤ q) nL cs sl Q (W1 L σ h n K fs ++ [(h + n, .inr (K9, dfl9))]) pc lv st0 := by
  intro H locs ls hP hS hl
  subst hst
  intro T hT X
  have hlast : (W1 L σ h n K fs ++ [(h + n, (.inr (K9, dfl9) : va_E))])[n]? = some (h + n, .inr (K9, dfl9)) := by
    rw [List.getElem?_append_right (by rw [W1_len hn]; exact Nat.le_refl n), W1_len hn, Nat.sub_self]; rfl
  have hxl := (hP _ _ hlast).lt
  have hsz : H.size = h + n + 1 := by
    have := gc_size X (q := h + n) (by rw [hT]; exact hxl) (by rw [hz]; omega)
    rw [hT] at this; exact this
  have hG : GoodIn tb_G (Cond.code y cy ny none :: tb_G) := tb_good (fun w hw => by rcases List.mem_cons.mp hw with rfl | h; exact hw5; exact h)
  let Lc : Ly := lyT L.1 (ly_c L) kd9 z9 size9 (ly_s L) (h + n)
  have hle : ∀ q, h + n ≤ q → h ≤ q := fun q hq => by omega
  have hPc : va_P L.1 cl_all [(h + n, .inr (K9, dfl9))] H := fun k x hx => by
    have hz0 : k < 1 := (List.getElem?_eq_some_iff.mp hx).1
    rw [show k = 0 by omega] at hx
    cases hx
    exact hP n _ hlast
  have hpre : ∀ U : State, U.heap = H → (fx_s E).WarmedH U.vm → va_Pc (.ref (h + n) :: As) (fun U => U.heap.size = h + n + 1 ∧ va_P L.1 cl_all [(h + n, .inr (K9, dfl9))] U.heap ∧ va_K L.1 cl_all (ly_t Lc) U ∧ tb_ok U ∧ st_ok Lc (fun q => h + n ≤ q) U U.heap) (Value.ref (h + n) :: As).toArray U := by
    intro U hU hW
    subst hU
    refine ⟨rfl, hsz, hPc, va_K.moved hW.alike (cx_K C), tb_ok_warm hW (cx_N C), ?_⟩
    have h9 := st_warm hW (st_narrow (st_kept (cx_S C) hS.2.1) hle)
    exact ⟨h9.1, h9.2.1, h9.2.2.1, h9.2.2.2⟩
  have hbl : FrameBlind (va_Pc (.ref (h + n) :: As) (fun U => U.heap.size = h + n + 1 ∧ va_P L.1 cl_all [(h + n, .inr (K9, dfl9))] U.heap ∧ va_K L.1 cl_all (ly_t Lc) U ∧ tb_ok U ∧ st_ok Lc (fun q => h + n ≤ q) U U.heap)) := fun x U g mk q => ⟨q.1, q.2.1, q.2.2.1, va_K.moved (u := U) (U := U.calling g mk x) (Vm.Alike.refl U.vm) q.2.2.2.1, tb_ok_vm (s := U) (U := U.calling g mk x) rfl q.2.2.2.2.1, st_same (s := U) (U := U.calling g mk x) rfl q.2.2.2.2.2⟩
  refine va_callv (va_runI (As := As) (rest := st) ⟨cx_x C, cx_c C, cx_n C, cx_o C, cx_w C⟩ (hM L.1 (ly_c L) (ly_s L) (h + n)) ⟨callB_of n9 (cx_w C) hG rfl rfl rfl (cx_w C _ hw4) (cx_w C _ hw1) hd (by rw [cx_R C]; exact hrm), hyn, cx_w C _ hw2⟩ ⟨hbl, hpre⟩ rfl hna hl.1 rfl (lv_room hsm) d (by rw [cx_R C]; exact hcs)) hS (fun q _ hq => hle q hq) hle (fun u t H1 l1 ht hvm hp hB hz1 hkk hS1 => ?_) T hT X
  refine k H1 l1 ls ?_ hS1 hl
  have hB' : va_P L.1 cl_all (wl Lc σc) H1 := by rw [← ht]; exact hB
  rw [← W1_app (L := L) (Lc := Lc) (σ := σ) (σc := σc) (size := size9) hn rfl rfl ha rfl hk hzz h1 h2]
  refine va_P.app (fun k x hx => ?_) hB'
  have hxa := W1_addr hn hx
  have hx9 : (W1 L σ h n K fs ++ [(h + n, (.inr (K9, dfl9) : va_E))])[k]? = some x := by rw [List.getElem?_append_left (by rw [W1_len hn]; exact hxa.2)]; exact hx
  exact (hP k x hx9).kept (hkk x.1 (by omega) (by show ¬ h + n ≤ x.1; omega))
theorem gc_callN {y : MethodName} {cy : ByteArray} {ny i K9 size9 : Nat} {kd9 z9 : Nat → Nat} {rmy : Room} {As dfl9 : List Value} {host : String} (C : Cx E L (fun q => h ≤ q) cc nL own ret rm) (hz : (fx_s E).heap.size = h + 1) (hM : CtC (fx_l E) y cy ny rmy K9 kd9 z9 size9 As dfl9 σc) (d : decode cc pc = .ok (.invokespecial i, 3)) (n9 : Nat) (hw1 : Cond.methodLinkNest own i y host ∈ tb_N) (hw2 : Cond.instanceMethod y ∈ tb_G) (hw4 : Cond.initialized y.cls ∈ tb_G) (hw5 : Cond.code y cy ny none ∈ tb_G) (hyn : y.name = "<init>") (hd : y.cls ≠ "java/lang/invoke/MethodHandle" ∧ y.cls ≠ "java/lang/invoke/VarHandle" ∧ (parseMethodDescriptor y.desc).map (fun d => d.parameters.length) = some n9) (hna : As.length = n9) (hst : st0 = As.reverse ++ .ref (h + n) :: st) (hsm : (st.map fun v => v.category).sum ≤ 8) (hrm : rmy.frames + 1 ≤ rm.frames ∧ 8 + (ny + 11) + rmy.locals ≤ rm.locals) (hcs : cs + rmy.cells ≤ rm.cells ∧ sl + rmy.slots ≤ rm.slots) (hn : 1 ≤ n) (hcn : cs = n) (ha : ly_a L = fun o => h + o)
    (hk : ∀ o, o < size9 → ly_k L (n + o) = kd9 o) (hzz : ∀ o, o < size9 → ly_z L (n + o) = z9 o) (h1 : ∀ o, o < size9 → σ.1 (n + o) = σc.1 o) (h2 : ∀ o, o < size9 → σ.2 (n + o) = σc.2 o)
    (k : GC E L (fun q => h ≤ q) nL (cs + rmy.cells) (sl + rmy.slots) Q (W1 L σ h (n + size9) K fs) (pc + 3) lv st) : GC E L (fun q => h ≤ q) nL cs sl Q (W1 L σ h n K fs ++ [(h + n, .inr (K9, dfl9))]) pc lv st0 := by
  intro H locs ls hP hS hl
  subst hst
  intro T hT X
  have hlast : (W1 L σ h n K fs ++ [(h + n, (.inr (K9, dfl9) : va_E))])[n]? = some (h + n, .inr (K9, dfl9)) := by
    rw [List.getElem?_append_right (by rw [W1_len hn]; exact Nat.le_refl n), W1_len hn, Nat.sub_self]; rfl
  have hxl := (hP _ _ hlast).lt
  have hsz : H.size = h + n + 1 := by
    have := gc_size X (q := h + n) (by rw [hT]; exact hxl) (by rw [hz]; omega)
    rw [hT] at this; exact this
  have hG : GoodIn tb_G (Cond.code y cy ny none :: tb_G) := tb_good (fun w hw => by rcases List.mem_cons.mp hw with rfl | h; exact hw5; exact h)
  let Lc : Ly := lyT L.1 (ly_c L) kd9 z9 size9 (ly_s L) (h + n)
  have hle : ∀ q, h + n ≤ q → h ≤ q := fun q hq => by omega
  have hPc : va_P L.1 cl_all [(h + n, .inr (K9, dfl9))] H := fun k x hx => by
    have hz0 : k < 1 := (List.getElem?_eq_some_iff.mp hx).1
    rw [show k = 0 by omega] at hx
    cases hx
    exact hP n _ hlast
  have hpre : ∀ U : State, U.heap = H → (fx_s E).WarmedH U.vm → va_Pc (.ref (h + n) :: As) (fun U => U.heap.size = h + n + 1 ∧ va_P L.1 cl_all [(h + n, .inr (K9, dfl9))] U.heap ∧ va_K L.1 cl_all (ly_t Lc) U ∧ tb_ok U ∧ st_ok Lc (fun q => h + n ≤ q) U U.heap) (Value.ref (h + n) :: As).toArray U := by
    intro U hU hW
    subst hU
    refine ⟨rfl, hsz, hPc, va_K.moved hW.alike (cx_K C), tb_ok_warm hW (cx_N C), ?_⟩
    have h9 := st_warm hW (st_narrow (st_kept (cx_S C) hS.2.1) hle)
    exact ⟨h9.1, h9.2.1, h9.2.2.1, h9.2.2.2⟩
  have hbl : FrameBlind (va_Pc (.ref (h + n) :: As) (fun U => U.heap.size = h + n + 1 ∧ va_P L.1 cl_all [(h + n, .inr (K9, dfl9))] U.heap ∧ va_K L.1 cl_all (ly_t Lc) U ∧ tb_ok U ∧ st_ok Lc (fun q => h + n ≤ q) U U.heap)) := fun x U g mk q => ⟨q.1, q.2.1, q.2.2.1, va_K.moved (u := U) (U := U.calling g mk x) (Vm.Alike.refl U.vm) q.2.2.2.1, tb_ok_vm (s := U) (U := U.calling g mk x) rfl q.2.2.2.2.1, st_same (s := U) (U := U.calling g mk x) rfl q.2.2.2.2.2⟩
  refine va_callv (va_runIN (As := As) (rest := st) ⟨cx_x C, cx_c C, cx_n C, cx_o C, cx_w C⟩ (hM L.1 (ly_c L) (ly_s L) (h + n)) ⟨va_cnB n9 (cx_w C) hG rfl rfl rfl (cx_N C _ hw1) (cx_w C _ hw4) hd (by rw [cx_R C]; exact hrm), hyn, cx_w C _ hw2⟩ ⟨hbl, hpre⟩ rfl hna hl.1 rfl (lv_room hsm) d (by rw [cx_R C]; exact hcs)) hS (fun q _ hq => hle q hq) hle (fun u t H1 l1 ht hvm hp hB hz1 hkk hS1 => ?_) T hT X
  refine k H1 l1 ls ?_ hS1 hl
  have hB' : va_P L.1 cl_all (wl Lc σc) H1 := by rw [← ht]; exact hB
  rw [← W1_app (L := L) (Lc := Lc) (σ := σ) (σc := σc) (size := size9) hn rfl rfl ha rfl hk hzz h1 h2]
  refine va_P.app (fun k x hx => ?_) hB'
  have hxa := W1_addr hn hx
  have hx9 : (W1 L σ h n K fs ++ [(h + n, (.inr (K9, dfl9) : va_E))])[k]? = some x := by rw [List.getElem?_append_left (by rw [W1_len hn]; exact hxa.2)]; exact hx
  exact (hP k x hx9).kept (hkk x.1 (by omega) (by show ¬ h + n ≤ x.1; omega))
end GCC
