/-! The law's wrappers: methods with a table of handlers; the law's own script. -/
def CoC (l : Launch) (y : MethodName) (wy : List Cond) (rm : Room) (D : va_G) (cB cI cJ : ClassId) (av : List Value) (w0 : va_W) (r : Int32) : Prop := ∀ sz : Nat, Met l y wy rm (KPx D cB cI cJ av w0 sz) (va_Qi (fun (x : Int32) (_ : Unit) => x = r) (KB D cB cI cJ w0 sz w0) (va_A w0 sz)) 1 6 (va_A w0 sz)
def TB (k : GC) (hh : List (Nat × Nat × Nat × Nat)) : Prop := match k with
  | (_, _, _, _, _, _, _, _, _, c, _, _) => c.exceptionTable.toList = tableOf hh
theorem CoI.ofGW {l : Launch} {y : MethodName} {cc : ByteArray} {maxL : Nat} {own : String} {hh : List (Nat × Nat × Nat × Nat)} {rm : Room} {D : va_G} {cB cI cJ : ClassId} {av : List Value} {w0 : va_W} {r : Int32} {w1 : va_W} {L0 : List (Nat × Value)} {Ts : List Cond} (hy : plainName y.cls = true) (hw : Ts = .codeWith y cc maxL (some .int) hh :: AW) (ho : y.cls = own) (ha : w1.map Prod.fst = w0.map Prod.fst) (hrm : True) (hL : (lg_sl av).length ≤ maxL) (hl0 : lv_args 0 av = L0)
    (body : ∀ k : GC, GF k l rm cc maxL own D cB cI cJ → (∀ (pc : Nat) (L : List (Nat × Value)), decode cc pc = .ok (.ireturn, 1) → G D maxL k 0 0 pc L [.int r] w1) → G D maxL k 0 0 0 L0 [] w0) : CoI l y Ts rm D cB cI cJ av w0 r w1 := by
  intro sz
  refine va_MetW (cc := cc) (maxL := maxL) (ret := (some .int)) hy hw ?_
  intro p e s m args below meth c s₁ B hml hv
  obtain ⟨rfl, hsz, hP, hK, hD0, hN⟩ := hv
  have hx := B.exec
  have hb := B.bytes
  have hr := B.returns
  have hts := atoms_spec (ws := Ts) B.pre
  have hown : s.vm.findClass own = some m.cls := by rw [← ho]; exact findClass_of_methodNamed B.named
  have hlocks := B.notSynchronized
  subst hsz
  have hD := hD0.self (sz := s.heap.size)
  have hA : ∀ q : Nat, s.heap.size ≤ q → va_A w0 s.heap.size q := fun q h => Or.inr h
  have hS : va_S (va_A w0 s.heap.size) s.heap s.heap [] := va_S.rf
  have hl := lv_entry av (n := maxL) hL
  rw [lg_entry_eq]
  rw [hl0] at hl
  refine body (p, l, e, (headSpec Ts rm).room, s, m, av.toArray, below, meth, c, _, va_A w0 s.heap.size) ⟨⟨hx, hb, hml, hown, fun w h => hts w (by rw [hw]; exact List.mem_cons_of_mem _ h)⟩, hK, hN, rfl, rfl, hA⟩ ?_ s.heap [] _ hl hP hD hS
  intro pc L d H locs ls h1 h2 h3 h4
  exact W.iret hx hb hr (fun t ht hW => ⟨⟨r, (), rfl, rfl, by rw [ht]; exact h2, va_K.moved hW.alike hK, h3⟩, h4.F ht⟩) h4.2.2 d
theorem CoC.ofG {l : Launch} {y : MethodName} {cc : ByteArray} {maxL : Nat} {own : String} {hh : List (Nat × Nat × Nat × Nat)} {rm : Room} {D : va_G} {cB cI cJ : ClassId} {av : List Value} {w0 : va_W} {r : Int32} {L0 : List (Nat × Value)} {Ts : List Cond} (hy : plainName y.cls = true) (hw : Ts = .codeWith y cc maxL (some .int) hh :: AW) (ho : y.cls = own) (hL : (lg_sl av).length ≤ maxL) (hl0 : lv_args 0 av = L0)
    (body : ∀ k : GC, GF k l rm cc maxL own D cB cI cJ → XF k → TB k hh → (∀ (pc : Nat) (L : List (Nat × Value)), decode cc pc = .ok (.ireturn, 1) → G D maxL k 1 6 pc L [.int r] w0) → G D maxL k 0 0 0 L0 [] w0) : CoC l y Ts rm D cB cI cJ av w0 r := by
  intro sz
  refine va_MetW (cc := cc) (maxL := maxL) (ret := (some .int)) hy hw ?_
  intro p e s m args below meth c s₁ B hml hv
  obtain ⟨⟨rfl, hsz, hP, hK, hD0, hN⟩, hXK⟩ := hv
  have hx := B.exec
  have hb := B.bytes
  have hr := B.returns
  have hts := atoms_spec (ws := Ts) B.pre
  have htab := vx_table (x := y) B (hts (.codeWith y cc maxL (some .int) hh) (by rw [hw]; exact List.mem_cons_self))
  have hown : s.vm.findClass own = some m.cls := by rw [← ho]; exact findClass_of_methodNamed B.named
  have hlocks := B.notSynchronized
  subst hsz
  have hD := hD0.self (sz := s.heap.size)
  have hA : ∀ q : Nat, s.heap.size ≤ q → va_A w0 s.heap.size q := fun q h => Or.inr h
  have hS : va_S (va_A w0 s.heap.size) s.heap s.heap [] := va_S.rf
  have hl := lv_entry av (n := maxL) hL
  rw [lg_entry_eq]
  rw [hl0] at hl
  refine body (p, l, e, (headSpec Ts rm).room, s, m, av.toArray, below, meth, c, _, va_A w0 s.heap.size) ⟨⟨hx, hb, hml, hown, fun w h => hts w (by rw [hw]; exact List.mem_cons_of_mem _ h)⟩, hK, hN, rfl, rfl, hA⟩ hXK htab ?_ s.heap [] _ hl hP hD hS
  intro pc L d H locs ls h1 h2 h3 h4
  exact W.iret hx hb hr (fun t ht hW => ⟨⟨r, (), rfl, rfl, by rw [ht]; exact h2, va_K.moved hW.alike hK, h3⟩, h4.F ht⟩) h4.2.2 d
section GR6
variable {k : GC} {l : Launch} {R : Room} {cc : ByteArray} {nL : Nat} {own : String} {D : va_G} {cB cI cJ : ClassId} {cells slots pc : Nat} {L L' : List (Nat × Value)} {st : List Value} {ws ws' : va_W}
/-- a call that throws E, caught by the row x of this method's own table -/
theorem G_cV (F : GF k l R cc nL own D cB cI cJ) (X : XF k) {hh : List (Nat × Nat × Nat × Nat)} (B : TB k hh) {E : String} {y : MethodName} {bytes : ByteArray} {maxL n index : Nat} {ret : Option FieldType} {rm : Room} {As : List Value} {w0 : va_W} {q0 ci b : Nat} {fs : List Value} (hM : CoT l y (.code y bytes maxL ret :: AW) rm D cB cI cJ (.ref b :: As) w0 E) {rest : List Value} (isC : List Nat) (hC : isC.map (fun i => ws[i]?) = w0.map some) (hnd : va_nd isC = true) (he : ws[q0]? = some (b, .inr (ci, fs))) (cv : Cond.methodLink own index y ∈ AW ∧ Cond.instanceMethod y ∈ AW ∧ Cond.selects y.cls y y ∈ AW ∧ Cond.initialized y.cls ∈ AW ∧ Cond.code y bytes maxL ret ∈ AW ∧ (∃ (T : u_T) (N : Nat), zCl[ci]? = some (y.cls, T, N)) ∧ y.cls ≠ "java/lang/invoke/MethodHandle" ∧ y.cls ≠ "java/lang/invoke/VarHandle" ∧ (parseMethodDescriptor y.desc).map (fun d => d.parameters.length) = some n) (hrc : rm.cells = 1) (hrs : rm.slots = 6) (hR : rm.frames + 1 ≤ R.frames ∧ 8 + (maxL + 11) + rm.locals ≤ R.locals) (hf : 1 ≤ R.cells ∧ 6 ≤ R.slots) (hn : As.length = n) (h8 : (rest.map fun v => v.category).sum ≤ 8) (d : decode cc pc = .ok (.invokevirtual index, 3)) (hst : st = (As.reverse ++ .ref b :: rest))
    (pre : List ExceptionTableEntry) (x : ExceptionTableEntry) (suf : List ExceptionTableEntry) (hsplit : tableOf hh = pre ++ x :: suf) (hpass : ∀ z ∈ pre, z.catchType ≠ 0 ∧ Cond.classLink own z.catchType zIA ∈ AW ∧ E = zIS) (hcov : covers x pc = true) (h0 : x.catchType ≠ 0) (hlink : Cond.classLink own x.catchType E ∈ AW) (hE : E = zIA ∨ E = zIS)
    (kk : ∀ q : Nat, G D nL k 1 6 x.handlerPc L [.ref q] ws) : G D nL k 0 0 pc L st ws := by
  obtain ⟨p, l0, e, R0, s, m, args, below, meth, c, Q, A⟩ := k
  subst hst
  obtain ⟨c1, c2, c3, c4, c5, ⟨T, N, hc⟩, hd⟩ := cv
  obtain ⟨⟨hx, hb, hml, hown, hts⟩, hK, hN, rfl, rfl, hA⟩ := F
  have hT : GoodIn AW (wsV own index y.cls y (.code y bytes maxL ret :: AW)) := goodA (by
    intro w hw
    simp only [wsV, List.cons_append, List.nil_append, List.mem_cons] at hw
    rcases hw with rfl | rfl | rfl | rfl | rfl | hw <;> assumption)
  have cw := cwV (R := R) n hts hT rfl hrc hrs ⟨rfl, hd⟩ hR
  intro H locs ls h1 h2 h3 h4
  have hPc := h2.sub (ws' := w0) isC (map_fm hC)
  have hDc := h3.sub (ws' := w0) isC hnd hC
  have hFc := va_free (wc := w0) h3 h4 hA isC hC
  refine vx_callF (vx_runV (rest := rest) ⟨hx, hb, hml, hown, hts⟩ (hM H.size) cw ⟨KPx_blind, va_recv hK h2 hc he, fun U hU hW => ?_⟩ rfl hn h1.1 rfl (lv_room h8) d ⟨by rw [Nat.zero_add]; exact hf.1, by rw [Nat.zero_add]; exact hf.2⟩) (fun _ _ _ z => z) h4 hFc (fun q _ h => hFc q h) (fun E' ce q9 u t H1 locs1 ht hvm hpx hB hz1 hk1 hS hce hcv hcl => ?_)
  · exact ⟨⟨rfl, by rw [hU], by rw [hU]; exact hPc, va_K.moved hW.alike hK, hDc.weaken (fun _ _ _ _ => trivial), NK_warm hW hN⟩, XK_call X hW hU h4 hFc⟩
  · obtain ⟨rfl, hP1, hK1, hD1⟩ := hB
    rw [ht] at hP1
    have hcast : (Cond.castable E' E').before args s = true := by
      rcases hE with z | z
      · subst z; exact va_Nw.use rfl X.2.2.1
      · subst z; exact va_Nw.use rfl X.2.2.2.1
    refine vx_catch hown pre x suf (B.trans hsplit) (fun z hz => Or.inr ?_) hcov h0 (hts _ hlink) hcast hce hcv hcl (kk q9 H1 locs1 ls h1 (wj0 h2 h3 isC hC hk1 hP1) h3 hS)
    obtain ⟨z1, z2, z3⟩ := hpass z hz
    exact ⟨z1, zIA, hts _ z2, by rw [z3]; exact X.2.2.2.2.1⟩
/-- the law calls a wrapper that returns -/
theorem G_calliW (F : GF k l R cc nL own D cB cI cJ) {y : MethodName} {bytes : ByteArray} {maxL n index : Nat} {hh : List (Nat × Nat × Nat × Nat)} {rm : Room} {As : List Value} {w0 w1 : va_W} {r : Int32} (hM : CoI l y (.codeWith y bytes maxL (some .int) hh :: AW) rm D cB cI cJ As w0 r w1) {rest : List Value} (isC : List Nat) (hC : isC.map (fun i => ws[i]?) = w0.map some) (hnd : va_nd isC = true) (ha : w1.map Prod.fst = w0.map Prod.fst) (hw : setsW ws isC w1 = ws') (cv : Cond.methodLink own index y ∈ AW ∧ Cond.static y ∈ AW ∧ Cond.initialized y.cls ∈ AW ∧ Cond.codeWith y bytes maxL (some .int) hh ∈ AW ∧ y.cls ≠ "java/lang/invoke/MethodHandle" ∧ y.cls ≠ "java/lang/invoke/VarHandle" ∧ (parseMethodDescriptor y.desc).map (fun d => d.parameters.length) = some n) (hrc : rm.cells = 0) (hrs : rm.slots = 0) (hR : rm.frames + 1 ≤ R.frames ∧ 8 + (maxL + 11) + rm.locals ≤ R.locals) (hf : cells ≤ R.cells ∧ slots ≤ R.slots) (hn : As.length = n) (h8 : (rest.map fun v => v.category).sum ≤ 8) (d : decode cc pc = .ok (.invokestatic index, 3)) (hst : st = (As.reverse ++ rest)) (kk : G D nL k cells slots (pc + 3) L (.int r :: rest) ws') : G D nL k cells slots pc L st ws := by
  obtain ⟨p, l0, e, R0, s, m, args, below, meth, c, Q, A⟩ := k
  subst hst
  obtain ⟨c1, c2, c3, c4, hd⟩ := cv
  obtain ⟨⟨hx, hb, hml, hown, hts⟩, hK, hN, rfl, rfl, hA⟩ := F
  have hT : GoodIn AW (va_wsS own index y (.codeWith y bytes maxL (some .int) hh :: AW)) := goodA (by
    intro w hw
    simp only [va_wsS, List.cons_append, List.nil_append, List.mem_cons] at hw
    rcases hw with rfl | rfl | rfl | rfl | hw <;> assumption)
  have cw := vx_cwSW (R := R) n hts hT rfl hrc hrs hd hR
  intro H locs ls h1 h2 h3 h4
  have hPc := h2.sub (ws' := w0) isC (map_fm hC)
  have hDc := h3.sub (ws' := w0) isC hnd hC
  have hFc := va_free (wc := w0) h3 h4 hA isC hC
  refine va_calli (vx_runSW (rest := rest) ⟨hx, hb, hml, hown, hts⟩ (hM H.size) cw ⟨KP_blind, fun U hU hW => ?_⟩ rfl hn h1.1 rfl (lv_room h8) d hf) h4 (fun q _ h => hFc q h) hFc (fun r2 u t H1 locs1 ht hvm hpost hB hz1 hk1 hS => ?_)
  · exact ⟨rfl, by rw [hU], by rw [hU]; exact hPc, va_K.moved hW.alike hK, hDc.weaken (fun _ _ _ _ => trivial), NK_warm hW hN⟩
  · obtain ⟨hP1, hK1, hD1⟩ := hB
    rw [ht] at hP1
    subst hpost
    obtain ⟨hP2, hD2⟩ := wj h2 h3 isC hC ha hw hk1 hP1
    exact kk H1 locs1 ls h1 hP2 hD2 hS
/-- the law calls a wrapper that catches -/
theorem G_calliC (F : GF k l R cc nL own D cB cI cJ) (X : XF k) {y : MethodName} {bytes : ByteArray} {maxL n index : Nat} {hh : List (Nat × Nat × Nat × Nat)} {rm : Room} {As : List Value} {w0 : va_W} {r : Int32} (hM : CoC l y (.codeWith y bytes maxL (some .int) hh :: AW) rm D cB cI cJ As w0 r) {rest : List Value} (isC : List Nat) (hC : isC.map (fun i => ws[i]?) = w0.map some) (hnd : va_nd isC = true) (cv : Cond.methodLink own index y ∈ AW ∧ Cond.static y ∈ AW ∧ Cond.initialized y.cls ∈ AW ∧ Cond.codeWith y bytes maxL (some .int) hh ∈ AW ∧ y.cls ≠ "java/lang/invoke/MethodHandle" ∧ y.cls ≠ "java/lang/invoke/VarHandle" ∧ (parseMethodDescriptor y.desc).map (fun d => d.parameters.length) = some n) (hrc : rm.cells = 1) (hrs : rm.slots = 6) (hR : rm.frames + 1 ≤ R.frames ∧ 8 + (maxL + 11) + rm.locals ≤ R.locals) (hf : cells + 1 ≤ R.cells ∧ slots + 6 ≤ R.slots) (hn : As.length = n) (h8 : (rest.map fun v => v.category).sum ≤ 8) (d : decode cc pc = .ok (.invokestatic index, 3)) (hst : st = (As.reverse ++ rest)) (kk : G D nL k (cells + 1) (slots + 6) (pc + 3) L (.int r :: rest) ws) : G D nL k cells slots pc L st ws := by
  obtain ⟨p, l0, e, R0, s, m, args, below, meth, c, Q, A⟩ := k
  subst hst
  obtain ⟨c1, c2, c3, c4, hd⟩ := cv
  obtain ⟨⟨hx, hb, hml, hown, hts⟩, hK, hN, rfl, rfl, hA⟩ := F
  have hT : GoodIn AW (va_wsS own index y (.codeWith y bytes maxL (some .int) hh :: AW)) := goodA (by
    intro w hw
    simp only [va_wsS, List.cons_append, List.nil_append, List.mem_cons] at hw
    rcases hw with rfl | rfl | rfl | rfl | hw <;> assumption)
  have cw := vx_cwSW (R := R) n hts hT rfl hrc hrs hd hR
  intro H locs ls h1 h2 h3 h4
  have hPc := h2.sub (ws' := w0) isC (map_fm hC)
  have hDc := h3.sub (ws' := w0) isC hnd hC
  have hFc := va_free (wc := w0) h3 h4 hA isC hC
  refine va_calli (vx_runSW (rest := rest) ⟨hx, hb, hml, hown, hts⟩ (hM H.size) cw ⟨KPx_blind, fun U hU hW => ?_⟩ rfl hn h1.1 rfl (lv_room h8) d hf) h4 (fun q _ h => hFc q h) hFc (fun r2 u t H1 locs1 ht hvm hpost hB hz1 hk1 hS => ?_)
  · exact ⟨⟨rfl, by rw [hU], by rw [hU]; exact hPc, va_K.moved hW.alike hK, hDc.weaken (fun _ _ _ _ => trivial), NK_warm hW hN⟩, XK_call X hW hU h4 hFc⟩
  · obtain ⟨hP1, hK1, hD1⟩ := hB
    rw [ht] at hP1
    subst hpost
    exact kk H1 locs1 ls h1 (wj0 h2 h3 isC hC hk1 hP1) h3 hS
def SX (k : GC) (b Ls : Nat) (xs : Nat → Int32) : Prop := match k with
  | (_, _, _, _, s, _, _, _, _, _, _, A) => va_X b Ls xs s s.heap ∧ b < s.heap.size ∧ ¬ A b
theorem G_sld (F : GF k l R cc nL own D cB cI cJ) {b Ls : Nat} {xs : Nat → Int32} (S : SX k b Ls xs) {i : Int32} (d : decode cc pc = .ok (.iaload, 1)) (hin : ¬ (i < 0 ∨ Ls ≤ i.toNatClampNeg)) (kk : G D nL k cells slots (pc + 1) L (.int (xs i.toNatClampNeg) :: st) ws) : G D nL k cells slots pc L (.int i :: .ref b :: st) ws := by
  obtain ⟨p, l0, e, R0, s, m, args, below, meth, c, Q, A⟩ := k
  obtain ⟨s1, s2, s3⟩ := S
  exact fun H locs ls h1 h2 h3 h4 => va_sld F.1.1 F.1.2.1 s1 s2 s3 h4 hin d (kk H locs ls h1 h2 h3 h4)
theorem G_slen (F : GF k l R cc nL own D cB cI cJ) {b Ls : Nat} {xs : Nat → Int32} (S : SX k b Ls xs) (d : decode cc pc = .ok (.arraylength, 1)) (kk : G D nL k cells slots (pc + 1) L (.int (Int32.ofNat Ls) :: st) ws) : G D nL k cells slots pc L (.ref b :: st) ws := by
  obtain ⟨p, l0, e, R0, s, m, args, below, meth, c, Q, A⟩ := k
  obtain ⟨s1, s2, s3⟩ := S
  exact fun H locs ls h1 h2 h3 h4 => va_slen F.1.1 F.1.2.1 s1 s2 s3 h4 d (kk H locs ls h1 h2 h3 h4)
end GR6
