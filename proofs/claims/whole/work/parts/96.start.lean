/-! the law from its entry: what the Statement gives of the start, and the walk's ends joined -/
theorem lw_flags {l : Launch} (h : l.flags = flags0) : l.stackTraces = false := by
  show l.stackTraces = false
  unfold Launch.stackTraces; rw [h]; decide
theorem lw_cls {args : Array Value} {s : State} (hts : ∀ w ∈ tb_G, w.before args s = true) : ∃ D : va_G, ∀ (c : Nat) (q : vw_C), cl_all[c]? = some q → u_Kn s q.1 q.2.1 q.2.2 (D.1 c) (D.2 c) := by
  obtain ⟨c0, i0, h0⟩ := u_known (C := R_Row) (T := F_Row) (N := 1) (n := 1) hts i_Row (hts _ qw_45)
  have h : ∀ c : Nat, ∃ d : ClassId × (Nat → Nat), ∀ q : vw_C, cl_all[c]? = some q → u_Kn s q.1 q.2.1 q.2.2 d.1 d.2 := by
    intro c
    match c with
    | 0 => exact ⟨(c0, i0), fun q hq => by cases hq; exact h0⟩
    | 1 =>
      obtain ⟨c9, i9, h9⟩ := u_known (C := R_Names) (T := F_Names) (N := 2) (n := 2) hts i_Names (hts _ qw_102)
      exact ⟨(c9, i9), fun q hq => by cases hq; exact h9⟩
    | 2 =>
      obtain ⟨c9, i9, h9⟩ := u_known (C := R_Island) (T := F_Island) (N := 9) (n := 9) hts i_Island (hts _ qw_96)
      exact ⟨(c9, i9), fun q hq => by cases hq; exact h9⟩
    | 3 =>
      obtain ⟨c9, i9, h9⟩ := u_known (C := R_Hands) (T := F_Hands) (N := 4) (n := 4) hts i_Hands (hts _ qw_179)
      exact ⟨(c9, i9), fun q hq => by cases hq; exact h9⟩
    | 4 =>
      obtain ⟨c9, i9, h9⟩ := u_known (C := R_State) (T := F_State) (N := 11) (n := 11) hts i_State (hts _ qw_90)
      exact ⟨(c9, i9), fun q hq => by cases hq; exact h9⟩
    | 5 =>
      obtain ⟨c9, i9, h9⟩ := u_known (C := R_Rings) (T := F_Rings) (N := 4) (n := 4) hts i_Rings (hts _ qw_321)
      exact ⟨(c9, i9), fun q hq => by cases hq; exact h9⟩
    | 6 =>
      obtain ⟨c9, i9, h9⟩ := u_known (C := R_Seating) (T := F_Seating) (N := 9) (n := 9) hts i_Seating (hts _ qw_344)
      exact ⟨(c9, i9), fun q hq => by cases hq; exact h9⟩
    | 7 =>
      obtain ⟨c9, i9, h9⟩ := u_known (C := R_Dealings) (T := F_Dealings) (N := 3) (n := 3) hts i_Dealings (hts _ qw_386)
      exact ⟨(c9, i9), fun q hq => by cases hq; exact h9⟩
    | 8 =>
      obtain ⟨c9, i9, h9⟩ := u_known (C := R_Tokens) (T := F_Tokens) (N := 9) (n := 9) hts i_Tokens (hts _ qw_39)
      exact ⟨(c9, i9), fun q hq => by cases hq; exact h9⟩
    | 9 =>
      obtain ⟨c9, i9, h9⟩ := u_known (C := R_Reader) (T := F_Reader) (N := 9) (n := 9) hts i_Reader (hts _ qw_33)
      exact ⟨(c9, i9), fun q hq => by cases hq; exact h9⟩
    | 10 =>
      obtain ⟨c9, i9, h9⟩ := u_known (C := R_Hat) (T := F_Hat) (N := 16) (n := 16) hts i_Hat (hts _ qw_25)
      exact ⟨(c9, i9), fun q hq => by cases hq; exact h9⟩
    | 11 =>
      obtain ⟨c9, i9, h9⟩ := u_known (C := R_Mod) (T := F_Mod) (N := 45) (n := 45) hts i_Mod (hts _ qw_1137)
      exact ⟨(c9, i9), fun q hq => by cases hq; exact h9⟩
    | n + 12 => exact ⟨(c0, i0), fun q hq => by simp [cl_all] at hq⟩
  obtain ⟨d, hd⟩ := Classical.axiomOfChoice h
  exact ⟨(fun c => (d c).1, fun c => (d c).2), fun c q hq => hd c q hq⟩
theorem lw_arr {args : Array Value} {s : State} {ty : FieldType} (h : (Cond.arrayClass ty).before args s = true) (hr : ∀ (U : State) (cA : ClassId), U.vm.findClass ("[" ++ ty.toString) = some cA → va_RA U cA ty) : ∃ cA : ClassId, ArrOfT s cA ty ∧ va_RA s cA ty := by
  obtain ⟨cA, kA, comp, h1, h2, h3⟩ := Cond.arrayClass_spec h
  exact ⟨cA, fun n z => ⟨fun k h => (by cases h), kA, h2, comp, h3⟩, hr _ _ h1⟩
theorem lw_arrs {args : Array Value} {s : State} (hts : ∀ w ∈ tb_G, w.before args s = true) : ∃ ca : Nat → ClassId, ∀ (k : Nat) (q : ClassId × FieldType), ([(ca 0, .int), (ca 1, .long), (ca 2, .byte), (ca 3, .boolean)] : List (ClassId × FieldType))[k]? = some q → ArrOfT s q.1 q.2 ∧ va_RA s q.1 q.2 := by
  obtain ⟨c0, h0⟩ := lw_arr (hts _ qw_54) (fun _ _ h => h)
  obtain ⟨c1, h1⟩ := lw_arr (hts _ qw_121) (fun _ _ h => h)
  obtain ⟨c2, h2⟩ := lw_arr (hts _ qw_691) (fun _ _ h => h)
  obtain ⟨c3, h3⟩ := lw_arr (hts _ qw_1301) (fun _ _ h => h)
  refine ⟨fun k => if k = 0 then c0 else if k = 1 then c1 else if k = 2 then c2 else c3, fun k q hq => ?_⟩
  match k, hq with
  | 0, hq => cases hq; exact h0
  | 1, hq => cases hq; exact h1
  | 2, hq => cases hq; exact h2
  | 3, hq => cases hq; exact h3
  | n + 4, hq => simp at hq
abbrev lw_N : List Cond := flatC (Jvm.Cond.and given_1 narrow_1)
abbrev lw_T : Term := Term.string "NameHat$Words" 11
theorem lw_el : ∀ j : Nat, j < 92 → Cond.eq (.elem (.field lw_T "java/lang/String" "value" "[B") (.int (Int32.ofNat j))) (.int (st_by.getD j 0)) ∈ lw_N := by decide +kernel
theorem lw_text {args : Array Value} {s : State} {A : Nat → Prop} (hq : ∀ w ∈ lw_N, w.before args s = true) (hA : ∀ a : Nat, a < s.heap.size → ¬ A a) : ∃ aK aV : Nat, vk_S 1 [92] [st_by] (fun _ => aK) (fun _ => aV) A s s.heap ∧ lw_T.eval args s none [] s = some (.ref aK) := by
  obtain ⟨adK, adV, hT, he⟩ := vk_Sof (args := args) (s := s) (N := 1) (tm := fun _ => lw_T) (len := [92]) (byt := [st_by]) (A := A) (fun i hi => by obtain rfl : i = 0 := (by omega); decide) (fun i hi => hq _ (by decide +kernel)) (fun i hi => hq _ (by decide +kernel)) (fun i hi => hq _ (by decide +kernel)) (fun i hi => by obtain rfl : i = 0 := (by omega); exact hq _ (by decide +kernel)) (fun i hi j hj => by obtain rfl : i = 0 := (by omega); exact hq _ (lw_el j hj)) (fun i j hi hj h => absurd (show i = j by omega) h) hA
  refine ⟨adK 0, adV 0, ⟨fun i hi => ?_, fun i j hi hj _ => by omega⟩, he 0 (by decide)⟩
  obtain rfl : i = 0 := by omega
  exact hT.1 0 hi
theorem lw_tN : ∀ w ∈ tb_N, w.onTables = true := by
  intro w hw
  have h2 := (List.mem_filter.mp hw).2
  cases w <;> first | rfl | (cases h2; done)
theorem lw_exN : ∀ w ∈ ex_N, w ∈ tables_1 := by decide +kernel
theorem lw_exS : ∀ q ∈ ex_S, Cond.stringRef "NameHat" q.1 q.2 ∈ tables_1 ∧ Cond.exactly (.string "NameHat" q.1) "java/lang/String" ∈ lw_N := by decide +kernel
theorem lw_ex {args : Array Value} {s : State} {A : Nat → Prop} (htt : ∀ w ∈ tables_1, w.before args s = true) (hq : ∀ w ∈ lw_N, w.before args s = true) (hA : ∀ a : Nat, a < s.heap.size → ¬ A a) : ex_ok A s s.heap := by
  refine ⟨vx_Zqof (args := args) (htt _ (by decide +kernel)) (htt _ (by decide +kernel)) (hq _ (by decide +kernel)) hA, vx_Zqof (args := args) (htt _ (by decide +kernel)) (htt _ (by decide +kernel)) (hq _ (by decide +kernel)) hA, fun w hw => va_Nw.of (ex_Nok w hw) (htt w (lw_exN w hw)), fun q hq9 => ?_⟩
  obtain ⟨h1, h2⟩ := lw_exS q hq9
  obtain ⟨a, c, cA, kA, q1, -⟩ := Cond.exactly_spec (args := args) (first := s) (o := none) (s := s) (idx := []) (t := .string "NameHat" q.1) (cls := "java/lang/String") (hq _ h2)
  exact ⟨a, vk_R.of (htt _ h1) q1⟩
set_option maxHeartbeats 4000000 in
theorem whole_start {p : Program} {e : Env} {s : State} {m : MethodId} {below : List Frame} {meth : Method} {c : Code} (l : Launch) (hflags : l.flags = flags0) {b L : Nat} {xs : Nat → Int32} (hL : L ≤ 3072) (C0 : lw_At p s m meth c b L xs) : W p l e room_1 s m #[Value.ref b] below meth c s.heap [] 0 0 (lw_Z below #[Value.ref b] s) (entryFrame m ([Value.ref b] : List Value).toArray 8) := by
  obtain ⟨hx, hb, hr, hml, hown, hts, hX, hbl, hlocks, hgv⟩ := id C0
  obtain ⟨σS, σM, hσS, hσM, hf⟩ := whole_pure xs L hL
  have htg : ∀ w ∈ tb_G, w.before #[Value.ref b] s = true := fun w hw => hts w (List.mem_filter.mp hw).1
  have htt : ∀ w ∈ tables_1, w.before #[Value.ref b] s = true := fun w hw => hts w (List.mem_append_right _ hw)
  have hq : ∀ w ∈ lw_N, w.before #[Value.ref b] s = true := flat_of_before _ hgv
  have hA : ∀ a : Nat, a < s.heap.size → ¬ (fun q : Nat => s.heap.size ≤ q) a := fun a h => Nat.not_le.mpr h
  obtain ⟨D, hD⟩ := lw_cls htg
  obtain ⟨ca, hca⟩ := lw_arrs htg
  obtain ⟨aK, aV, hT, hTe⟩ := lw_text (A := fun q : Nat => s.heap.size ≤ q) hq hA
  have hN : tb_ok s := fun w hw => va_Nw.of (lw_tN w hw) (htt w (List.mem_filter.mp hw).1)
  have hK : va_K D cl_all (ly_t (lyT D ca kd_Law z_Law 191 (aK, aV) s.heap.size)) s := ⟨hD, hca⟩
  have hst : st_ok (lyT D ca kd_Law z_Law 191 (aK, aV) s.heap.size) (fun q : Nat => s.heap.size ≤ q) s s.heap := ⟨vk_R.of (htt _ (List.mem_of_getElem? (i := 506) (by decide +kernel))) hTe, hT, va_Zof (args := #[Value.ref b]) (htt _ (List.mem_of_getElem? (i := 516) (by decide +kernel))) (htt _ (List.mem_of_getElem? (i := 15) (by decide +kernel))) (va_eqt (hq _ (by decide +kernel))) hA, va_Zqof (args := #[Value.ref b]) (htt _ (List.mem_of_getElem? (i := 532) (by decide +kernel))) (htt _ (List.mem_of_getElem? (i := 17) (by decide +kernel))) (hq _ (by decide +kernel)) hA⟩
  have hXe : ex_ok (fun q : Nat => s.heap.size ≤ q) s s.heap := lw_ex htt hq hA
  let E : Fx := (p, l, e, room_1, s, m, #[Value.ref b], below, meth, c)
  have C : Cx E (lyT D ca kd_Law z_Law 191 (aK, aV) s.heap.size) (fun q => s.heap.size ≤ q) code 8 "NameHatLaw" ret room_1 := ⟨hx, hb, hml, hown, htg, hN, hK, gd_list (kl := kl_Law) (by decide +kernel) (by decide +kernel), fun i j _ _ e9 => by have e8 : s.heap.size + i = s.heap.size + j := e9; omega, fun o _ => Nat.le_add_right _ o, fun q hq => hq, rfl, hlocks, hr, hst⟩
  have hl := lv_entry ([.ref b]) (n := 8) (Nat.le_of_ble_eq_true rfl)
  rw [lg_entry_eq]
  refine law_head (b := b) (Q := lw_Z below #[Value.ref b] s) C rfl rfl rfl rfl rfl hσS hσM ?_ s.heap [] _ (fun k q h => by simp at h) va_S.rf hl
  refine law_loop (n := L) (xs := xs) (lw_flags hflags) C hXe hX hbl (Nat.not_le.mpr hbl) hL rfl rfl rfl hf (fun σ' pc lv d => ?_)
  intro H locs ls hP hS hl9
  exact va_forget (fun q hq => hS.2.2 q hq) (lw_ret hx hb hr hlocks d)
set_option maxHeartbeats 4000000 in
theorem lw_walk (l : Launch) (hflags : l.flags = flags0) (b : Addr) (xs : List Int32) : MetFree l x (headSpec (Jvm.Cond.code x code maxLocals ret :: tables_1) room_1) (lw_P b xs) (fun _ _ _ _ _ => True) lw_Q := by
  refine MetFree.of_bodyS (code := code) (maxLocals := maxLocals) (ret := ret) (by decide) ?_ ?_
  · intro args s m h hn
    obtain ⟨meth, c, h1, h2, h3, h4, h5, h6, -, -⟩ := Cond.code_spec hn (atoms_spec (ws := Jvm.Cond.code x code maxLocals ret :: tables_1) h _ List.mem_cons_self)
    exact ⟨meth, c, h1, h2, h3, h4, h5, h6⟩
  · intro p e s m args below meth c s₁ B hml0 hP _
    obtain ⟨rfl, hx, hbd, hgv⟩ := hP
    obtain ⟨scr, harrAt, hlist, hof, hsmall⟩ := hx
    obtain ⟨hcb, hkn, -, -⟩ := State.arrayAt?_spec harrAt
    have hown : s.vm.findClass R_law = some m.cls := findClass_of_methodNamed B.named
    have hts0 : ∀ c ∈ (Jvm.Cond.code x code maxLocals ret :: tables_1), c.before #[Value.ref b] s = true := atoms_spec (ws := Jvm.Cond.code x code maxLocals ret :: tables_1) B.pre
    have hts : ∀ w ∈ lw_tbl, w.before #[Value.ref b] s = true := k2_hts_sels lw_privs (fun w hw => hts0 w (List.mem_cons_of_mem _ hw)) lw_privs_ok
    have hml : c.maxLocals = 8 := B.maxLocals_eq (hts0 _ List.mem_cons_self)
    have X₀ : Stand p l e room_1 s m #[Value.ref b] below meth c s₁ [] 0 0 := Stand.of_body B
    have hh0 : s₁.heap = s.heap := by rw [B.state]; rfl
    have hsz : scr.slots.size = xs.length := by rw [← Array.length_toList, hlist, List.length_map]
    have hval : ∀ j : Nat, j < xs.length → scr.slots[j]? = some (.int (xs.getD j 0)) := fun j hj => by
      rw [← Array.getElem?_toList, hlist]
      simp [hj]
    have hbl : b < s.heap.size := (Array.getElem?_eq_some_iff.mp hcb).1
    have hX : va_X b xs.length (fun j => xs.getD j 0) s s.heap := ⟨scr, hcb, hof, hkn, hsz, hval⟩
    have K : W p l e room_1 s m #[Value.ref b] below meth c s₁.heap [] 0 0 (lw_Z below #[Value.ref b] s) (entryFrame m ([Value.ref b] : List Value).toArray 8) := by
      rw [hh0]
      exact whole_start l hflags hbd ⟨B.exec, B.bytes, B.returns, hml, hown, hts, hX, hbl, B.notSynchronized, hgv⟩
    obtain ⟨t, a1, o, b1, b2, b3⟩ := K s₁ rfl X₀
    exact ⟨t, o, a1, b1, b2, b3⟩
theorem lw_pre_spec {args : Array Value} {s : State} (h : (Jvm.Cond.and given_1 narrow_1).before args s = true) (hr : rest_1_c.before args s = true) : ∃ (b : Addr) (xs : List Int32), lw_P b xs args s := by
  have hs := flat_of_before _ h
  have hq := flat_of_before _ hr
  have hc : (Cond.count 1).before args s = true := hs _ (by decide +kernel)
  have harr : (Cond.arrayOf (.arg 0) .int).before args s = true := hs _ (by decide +kernel)
  have hle : (Cond.le (.length (.arg 0)) (.int 3072)).before args s = true := hs _ (by decide +kernel)
  have hlen : (Cond.isInt (.length (.arg 0))).before args s = true := hq _ (by decide +kernel)
  have hall : (Cond.all (.arg 0) (.isInt (.elem (.arg 0) (.index 0)))).before args s = true := hq _ (by decide +kernel)
  obtain ⟨b, xs, hb, hx⟩ := State.ints_of_pre rfl harr hlen hall
  have hsm : xs.length < 2 ^ 31 := hx.choose_spec.2.2.2
  have hev : (Term.length (.arg 0)).eval args s none [] s = some (.int xs.length.toInt32) := hx.length_eval hb
  have hv := Cond.le_ints hev (show (Term.int 3072).eval args s none [] s = some (.int 3072) from rfl)
  have hd : xs.length.toInt32 ≤ 3072 := by
    simpa [Cond.before, Cond.holds, hv] using hle
  have hN : xs.length ≤ 3072 := (Int32.ofNat_le_ofNat hsm (by decide)).mp (show Int32.ofNat xs.length ≤ Int32.ofNat 3072 from hd)
  exact ⟨b, xs, Cond.one_arg hc (show args[0]? = some (.ref b) from hb), hx, hN, h⟩
theorem lw_comes (l : Launch) (hflags : l.flags = flags0) : Comes l x (Jvm.Cond.code x code maxLocals ret :: tables_1) room_1 (fun tb e args s => Calls_1 tb e args s ∧ rest_1 tb e args s ∧ Pre_1 tb e args s)
    (fun _ _ args s o t => lw_Q args s o t) := by
  intro p e ha hc hk s m args below hf hfit hheap happ hpre
  obtain ⟨b, xs, hP⟩ := lw_pre_spec hpre.2.2 hpre.2.1
  obtain ⟨k, o, h1, h2, h3, hQ⟩ := lw_walk l hflags b xs p e ha hc hk s m args below hf ((Spec.applies_iff_loose hf).mp happ).1 hP trivial
  exact ⟨k, o, h1, h2, h3, hQ⟩
theorem lw_frame {s t : State} {o : Outcome} {args : Array Value} (h : Framed s o t [] 601024 7293034) :
    Framed s o t (fieldLocs frame_1_writes args s ++ arrayLocs frame_1_arrays args s ++ staticLocs frame_1_statics s) 601024 7293034 := h
theorem lw_limb (L : Cond) (hL : ∀ (args : Array Value) (s t : State), L.after args s (.returned (some (.int 1))) t = true) :
    ArmFor flags0 classFile x code maxLocals ret World_1 tables_1 room_1 Calls_1 rest_1 Pre_1
      (fun tb e a s o t => postC L tb e a s o t ∧ Framed s o t (fieldLocs frame_1_writes a s ++ arrayLocs frame_1_arrays a s ++ staticLocs frame_1_statics s) 601024 7293034) := by
  intro l hflags _ _ p e ha hc hk s m args below hf hfit hheap happ hpre
  obtain ⟨k, o, h1, h2, h3, rfl, hF⟩ := lw_comes l hflags p e ha hc hk s m args below hf hfit hheap happ hpre
  exact ⟨k, _, h1, h2, h3, hL args s _, lw_frame hF⟩
theorem i_vc : Claimed_1_1 ∧ Claimed_1_2 := ⟨lw_limb limb_1_1 (fun args s t => by simp [limb_1_1, Cond.after, Cond.holds, Cond.value]), lw_limb limb_1_2 (fun args s t => Cond.after_iff.mpr (by
  first | (rw [show limb_1_2 = Cond.eq .result (.int 1) from rfl, Cond.eq_ints (x := 1) (y := 1) rfl rfl]; simp; done) | (simp [limb_1_2, Cond.value, Term.eval]; done)))⟩

