/-! Methods that throw: contracts CoT, and how a throw leaves. Own work over the printed rows on exceptions. -/
def zIA : String := "java/lang/IllegalArgumentException"
def zIS : String := "java/lang/IllegalStateException"
abbrev zNm : List String := ["java/lang/RuntimeException", "java/lang/Exception"]
def XS (U : State) : Prop := va_Nw (.castable zIA zIA) U ∧ va_Nw (.castable zIS zIS) U ∧ va_Nc zIS zIA U ∧ (∃ a, vk_R RX9 148 "no such row" a U) ∧ (∃ a, vk_R RX9 70 "n is not 1 to 8" a U) ∧ (∃ a, vk_R RX9 81 "no room for all bytes" a U) ∧ (∃ a, vk_R RX9 150 "no such format" a U) ∧ (∃ a, vk_R RX9 120 "no such byte" a U) ∧ (∃ a, vk_R RX9 126 "what is not 0 or 1" a U)
theorem XS_warm {s U : State} (hW : s.WarmedH U.vm) (h : XS s) : XS U := by
  obtain ⟨h1, h2, h3, ⟨a4, h4⟩, ⟨a5, h5⟩, ⟨a6, h6⟩, ⟨a7, h7⟩, ⟨a8, h8⟩, ⟨a9, h9⟩⟩ := h
  exact ⟨va_Nw.warmC hW h1, va_Nw.warmC hW h2, va_Nc.moved hW.alike h3, ⟨a4, vk_R.warm hW h4⟩, ⟨a5, vk_R.warm hW h5⟩, ⟨a6, vk_R.warm hW h6⟩, ⟨a7, vk_R.warm hW h7⟩, ⟨a8, vk_R.warm hW h8⟩, ⟨a9, vk_R.warm hW h9⟩⟩
theorem XS_same {u U : State} (hv : u.vm = U.vm) (h : XS u) : XS U := by
  obtain ⟨h1, h2, h3, ⟨a4, h4⟩, ⟨a5, h5⟩, ⟨a6, h6⟩, ⟨a7, h7⟩, ⟨a8, h8⟩, ⟨a9, h9⟩⟩ := h
  exact ⟨va_Nw.same rfl hv h1, va_Nw.same rfl hv h2, va_Nc.moved (by rw [hv]; exact Vm.Alike.refl _) h3, ⟨a4, vk_R.same hv.symm h4⟩, ⟨a5, vk_R.same hv.symm h5⟩, ⟨a6, vk_R.same hv.symm h6⟩, ⟨a7, vk_R.same hv.symm h7⟩, ⟨a8, vk_R.same hv.symm h8⟩, ⟨a9, vk_R.same hv.symm h9⟩⟩
def XK (A : Nat → Prop) (U : State) (H : Heap) : Prop := vx_Zq Bundle.tN "UNASSIGNED_STACK" Bundle.steD A U H ∧ vx_Zq Bundle.tN "SUPPRESSED_SENTINEL" Bundle.listD A U H ∧ XS U
theorem XK_call {A B : Nat → Prop} {s U : State} {H : Heap} {locs : List Loc} (h : XK A s s.heap) (hW : s.WarmedH U.vm) (hU : U.heap = H) (hS : va_S A s.heap H locs) (hB : ∀ q, B q → A q) : XK B U U.heap := by
  obtain ⟨h1, h2, h3⟩ := h
  rw [hU]
  exact ⟨((vx_Zq.kept h1 hS.2.1).moved hW.alike).narrow hB, ((vx_Zq.kept h2 hS.2.1).moved hW.alike).narrow hB, XS_warm hW h3⟩
def KPx (D : va_G) (cB cI cJ : ClassId) (av : List Value) (w0 : va_W) (sz : Nat) : Array Value → State → Prop := fun v U => KP D cB cI cJ av w0 sz v U ∧ XK (va_A w0 sz) U U.heap
theorem KPx_blind {D : va_G} {cB cI cJ : ClassId} {av : List Value} {w0 : va_W} {sz : Nat} : FrameBlind (KPx D cB cI cJ av w0 sz) := by
  intro a U g mk q
  obtain ⟨q1, h1, h2, h3⟩ := q
  exact ⟨KP_blind a U g mk q1, h1.moved (u := U) (U := U.calling g mk a) (Vm.Alike.refl U.vm), h2.moved (u := U) (U := U.calling g mk a) (Vm.Alike.refl U.vm), XS_same (u := U) (U := U.calling g mk a) rfl h3⟩
def KX (D : va_G) (cB cI cJ : ClassId) (w0 : va_W) (sz : Nat) (E : String) : String → Unit → State → Prop := fun E' _ t => E' = E ∧ KB D cB cI cJ w0 sz w0 () t
def CoT (l : Launch) (y : MethodName) (wy : List Cond) (rm : Room) (D : va_G) (cB cI cJ : ClassId) (av : List Value) (w0 : va_W) (E : String) : Prop := ∀ sz : Nat, vx_Met l y wy rm (KPx D cB cI cJ av w0 sz) (fun _ _ _ _ => False) (vx_X (fun (_ : Unit) => True) (KX D cB cI cJ w0 sz E) (va_A w0 sz)) 1 6 (va_A w0 sz)
def XF (k : GC) : Prop := match k with
  | (_, _, _, _, s, _, _, _, _, _, _, A) => XK A s s.heap
/-- a thrown object of the class E goes on from here -/
def GX (k : GC) (D : va_G) (E : String) (w0 : va_W) : Prop := match k with
  | (p, l, e, R, s, m, args, below, meth, c, Q, A) => ∀ (H : Heap) (locs : List Loc) (ls : Array Slot) (pc : Nat) (st : List Value) (q : Addr) (ce : Cell), va_P D zCl w0 H → va_S A s.heap H locs → H[q]? = some ce → ce.vm = .none → s.vm.findClass E = some ce.cls → vx_W p l e R s m args below meth c H locs 1 6 Q (F0 m pc ls st) q
def XP (own : String) (ik ic : Nat) (E : String) : Prop := Bundle.fit E = true ∧ Cond.classLink own ik E ∈ AW ∧ Cond.initialized E ∈ AW ∧ (∀ w ∈ (vx_atS own ic E zNm).filter goodWord, w ∈ lw_tbl) ∧ (∀ w ∈ (vx_atS own ic E zNm).filter (fun w => !goodWord w), (nestW w = true ∧ w ∈ lw_tbl) ∨ w = .castable E E) ∧ (∀ w ∈ Cond.classLink own ik E :: Cond.initialized E :: vx_atS own ic E zNm, vx_ot w = true) ∧ (E = zIA ∨ E = zIS)
theorem zNm_fit : ∀ n ∈ zNm, Bundle.fit n = true := by decide +kernel
theorem CoT.ofG {l : Launch} (hl : l.stackTraces = false) {y : MethodName} {cc : ByteArray} {maxL : Nat} {own : String} {ret : Option FieldType} {rm : Room} {D : va_G} {cB cI cJ : ClassId} {av : List Value} {w0 : va_W} {E : String} {L0 : List (Nat × Value)} {Ts : List Cond} (hy : plainName y.cls = true) (hw : Ts = .code y cc maxL ret :: AW) (ho : y.cls = own) (hrm : 5 < rm.frames ∧ 90 ≤ rm.locals ∧ 1 ≤ rm.cells ∧ 6 ≤ rm.slots) (hL : (lg_sl av).length ≤ maxL) (hl0 : lv_args 0 av = L0)
    (body : ∀ k : GC, GF k l rm cc maxL own D cB cI cJ → XF k → (∀ (pc : Nat) (L : List (Nat × Value)) (st : List Value) (ik is ic : Nat) (text : String), XP own ik ic E → (∀ U, XS U → ∃ a, vk_R own is text a U) → (st.map fun v => v.category).sum ≤ 8 → decode cc pc = .ok (.new ik, 3) → decode cc (pc + 3) = .ok (.dup, 1) → decode cc (pc + 4) = .ok (.ldc is, 2) → decode cc (pc + 6) = .ok (.invokespecial ic, 3) → decode cc (pc + 9) = .ok (.athrow, 1) → G D maxL k 0 0 pc L st w0) → GX k D E w0 → G D maxL k 0 0 0 L0 [] w0) : CoT l y Ts rm D cB cI cJ av w0 E := by
  intro sz
  refine vx_ofW (cc := cc) (maxL := maxL) (ret := ret) hy hw ?_
  intro p e s m args below meth c s₁ B hml htab hv
  obtain ⟨⟨rfl, hsz, hP, hK, hD0, hN⟩, hXK⟩ := hv
  have hx := B.exec
  have hb := B.bytes
  have hts := atoms_spec (ws := Ts) B.pre
  have hown : s.vm.findClass own = some m.cls := by rw [← ho]; exact findClass_of_methodNamed B.named
  have hlocks := B.notSynchronized
  subst hsz
  have hD := hD0.self (sz := s.heap.size)
  have hA : ∀ q : Nat, s.heap.size ≤ q → va_A w0 s.heap.size q := fun q h => Or.inr h
  have hS : va_S (va_A w0 s.heap.size) s.heap s.heap [] := va_S.rf
  have hlv := lv_entry av (n := maxL) hL
  rw [lg_entry_eq]
  rw [hl0] at hlv
  have hAW : ∀ w ∈ AW, w.before av.toArray s = true := fun w h => hts w (by rw [hw]; exact List.mem_cons_of_mem _ h)
  have hend : ∀ (H : Heap) (locs : List Loc) (t : State), va_P D zCl w0 H → va_S (va_A w0 s.heap.size) s.heap H locs → s.vm.Alike t.vm → H.size ≤ t.heap.size → (∀ q : Nat, q < H.size → t.heap[q]? = H[q]?) → vx_X (fun (_ : Unit) => True) (KX D cB cI cJ w0 s.heap.size E) (va_A w0 s.heap.size) E s t := by
    intro H locs t h2 h4 hal hz hk
    refine ⟨(), trivial, ⟨rfl, fun k q hq => (h2 k q hq).kept (hk q.1 (h2 k q hq).lt), va_K.moved hal hK, hD⟩, Nat.le_trans h4.1 hz, fun q h5 h6 => ?_⟩
    rw [hk q (Nat.lt_of_lt_of_le h5 h4.1)]
    exact h4.2.1 q h5 h6
  refine body (p, l, e, (headSpec Ts rm).room, s, m, av.toArray, below, meth, c, _, va_A w0 s.heap.size) ⟨⟨hx, hb, hml, hown, hAW⟩, hK, hN, rfl, rfl, hA⟩ hXK ?_ ?_ s.heap [] _ hlv hP hD hS
  · intro pc L st ik is ic text hXP hstr h8 d0 d3 d4 d6 d9 H locs ls h1 h2 h3 h4
    obtain ⟨x1, x2, x3, x4, x5, x6, x7⟩ := hXP
    obtain ⟨sa, hsa⟩ := hstr s hXK.2.2
    have hat : ∀ w ∈ vx_atS own ic E zNm, w.before av.toArray s = true := by
      intro w hwm
      by_cases g : goodWord w = true
      · exact hAW w (List.mem_filter.mpr ⟨x4 w (List.mem_filter.mpr ⟨hwm, g⟩), g⟩)
      · rcases x5 w (List.mem_filter.mpr ⟨hwm, by simpa using g⟩) with ⟨n1, n2⟩ | n1
        · have := hN w (List.mem_filter.mpr ⟨n2, n1⟩)
          exact va_Nw.use (by cases w <;> simp only [nestW] at n1 <;> first | rfl | cases n1) this
        · subst n1
          rcases x7 with z | z
          · subst z; exact va_Nw.use rfl hXK.2.2.1
          · subst z; exact va_Nw.use rfl hXK.2.2.2.1
    exact vx_throwS (rest := st) hx hb hl hown x1 zNm_fit (hAW _ x2) (hAW _ x3) hsa hat x6 hXK.1 hXK.2.1 h4 (h1.1.trans hml.symm) d0 d3 d4 d6 d9 (fun x hx => (htab x hx).elim) (show 2 + 3 < rm.frames from hrm.1) (show (st.map fun v => v.category).sum + (13 * (2 + 1) + 43) ≤ rm.locals by have := hrm.2.1; omega) hrm.2.2.1 hrm.2.2.2 hlocks (fun t a b c => hend H locs t h2 h4 a b c) h4.2.2 (Nat.le_refl _) (Nat.le_refl _)
  · intro H locs ls pc st q ce h2 h4 hce hcv hcl
    exact vx_out (E := E) (fun x hx => (htab x hx).elim) hlocks hce hcv hcl (fun t ht hal => hend H locs t h2 h4 hal (by rw [ht]; exact Nat.le_refl _) (fun q _ => by rw [ht])) h4.2.2 (Nat.le_refl _) (Nat.le_refl _)
section VXF
variable {p : Program} {l : Launch} {e : Env} {R : Room} {s : State} {m : MethodId} {args : Array Value} {below : List Frame} {meth : Method} {c : Code} {H : Heap} {locs : List Loc} {cells slots : Nat} {Q : State → Prop} {mc ms : Nat} {free : Addr → Prop} {A0 : Nat → Prop} {H0 : Heap} {pc : Nat} {ls : Array Slot} {st0 rest : List Value}
theorem vx_callF {SX : Type} {px : SX → Prop} {BX : String → SX → State → Prop} {AX : Nat → Prop} {Qa : State → Outcome → State → Prop} (hr : vx_Run p l e R s m args below meth c H locs cells slots mc ms (F0 m pc ls st0) rest Qa (vx_X px BX AX) free) (hQ : ∀ a b c, ¬ Qa a b c) (hS : va_S A0 H0 H locs) (hf : ∀ q, free q → A0 q) (hAX : ∀ q, q < H.size → AX q → A0 q)
    (kx : ∀ (E : String) (ce : Cell) (q9 : Addr) (u : SX) (t : State) (H1 : Heap) (locs1 : List Loc), t.heap = H1 → s.vm.Alike t.vm → px u → BX E u t → H.size ≤ H1.size → (∀ q : Nat, q < H.size → ¬ AX q → H1[q]? = H[q]?) → va_S A0 H0 H1 locs1 → H1[q9]? = some ce → ce.vm = .none → s.vm.findClass E = some ce.cls → vx_W p l e R s m args below meth c H1 locs1 (cells + mc) (slots + ms) Q (F0 m pc ls rest) q9) : W p l e R s m args below meth c H locs cells slots Q (F0 m pc ls st0) := by
  intro T hT X
  rcases hr T hT X with ⟨v, st₀, t, T', L, h0, X', hL, e1, e2, hq, st⟩ | ⟨q, st₀, t, T', L, E, ce, h0, X', hL, e1, e2, ⟨u, hp, hb, hF⟩, hce, hcv, hcl, st⟩
  · exact absurd hq (hQ _ _ _)
  · obtain ⟨k1, k2, k3⟩ := vx_keep h0 e1 hS hAX hf hL hF
    obtain ⟨t2, a1, b1⟩ := kx E ce q u t T'.heap (locs ++ L) e1.symm (by rw [← e2]; exact X'.warmed.alike) hp hb k1 k2 k3 (by rw [e1]; exact hce) hcv hcl T' rfl X'
    exact ⟨t2, st.trans a1, b1⟩
end VXF
section GR4
variable {k : GC} {l : Launch} {R : Room} {cc : ByteArray} {nL : Nat} {own : String} {D : va_G} {cB cI cJ : ClassId} {pc : Nat} {L L' : List (Nat × Value)} {st : List Value} {ws ws' : va_W}
theorem G_xV (F : GF k l R cc nL own D cB cI cJ) (X : XF k) {E : String} (EX : GX k D E ws) {y : MethodName} {bytes : ByteArray} {maxL n index : Nat} {ret : Option FieldType} {rm : Room} {As : List Value} {w0 : va_W} {q0 ci b : Nat} {fs : List Value} (hM : CoT l y (.code y bytes maxL ret :: AW) rm D cB cI cJ (.ref b :: As) w0 E) {rest : List Value} (isC : List Nat) (hC : isC.map (fun i => ws[i]?) = w0.map some) (hnd : va_nd isC = true) (he : ws[q0]? = some (b, .inr (ci, fs))) (cv : Cond.methodLink own index y ∈ AW ∧ Cond.instanceMethod y ∈ AW ∧ Cond.selects y.cls y y ∈ AW ∧ Cond.initialized y.cls ∈ AW ∧ Cond.code y bytes maxL ret ∈ AW ∧ (∃ (T : u_T) (N : Nat), zCl[ci]? = some (y.cls, T, N)) ∧ y.cls ≠ "java/lang/invoke/MethodHandle" ∧ y.cls ≠ "java/lang/invoke/VarHandle" ∧ (parseMethodDescriptor y.desc).map (fun d => d.parameters.length) = some n) (hrc : rm.cells = 1) (hrs : rm.slots = 6) (hR : rm.frames + 1 ≤ R.frames ∧ 8 + (maxL + 11) + rm.locals ≤ R.locals) (hf : 1 ≤ R.cells ∧ 6 ≤ R.slots) (hn : As.length = n) (h8 : (rest.map fun v => v.category).sum ≤ 8) (d : decode cc pc = .ok (.invokevirtual index, 3)) (hst : st = (As.reverse ++ .ref b :: rest)) : G D nL k 0 0 pc L st ws := by
  obtain ⟨p, l0, e, R0, s, m, args, below, meth, c, Q, A⟩ := k
  subst hst
  obtain ⟨c1, c2, c3, c4, c5, ⟨T, N, hc⟩, hd⟩ := cv
  obtain ⟨⟨hx, hb, hml, hown, hts⟩, hK, hN, rfl, rfl, hA⟩ := F
  have hT : GoodIn AW (wsV own index y.cls y (.code y bytes maxL ret :: AW)) := goodA (by
    intro w hw
    simp only [wsV, List.cons_append, List.nil_append, List.mem_cons] at hw
    rcases hw with rfl | rfl | rfl | rfl | rfl | hw <;> assumption)
  have cw := cwV (R := R) n hts hT rfl hrc hrs ⟨rfl, hd⟩ hR
  intro H locs ls h1 h2 h3 h4
  have hPc := h2.sub (ws' := w0) isC (map_fm hC)
  have hDc := h3.sub (ws' := w0) isC hnd hC
  have hFc := va_free (wc := w0) h3 h4 hA isC hC
  refine vx_callF (vx_runV (rest := rest) ⟨hx, hb, hml, hown, hts⟩ (hM H.size) cw ⟨KPx_blind, va_recv hK h2 hc he, fun U hU hW => ?_⟩ rfl hn h1.1 rfl (lv_room h8) d ⟨by rw [Nat.zero_add]; exact hf.1, by rw [Nat.zero_add]; exact hf.2⟩) (fun _ _ _ z => z) h4 hFc (fun q _ h => hFc q h) (fun E' ce q9 u t H1 locs1 ht hvm hpx hB hz1 hk1 hS hce hcv hcl => ?_)
  · exact ⟨⟨rfl, by rw [hU], by rw [hU]; exact hPc, va_K.moved hW.alike hK, hDc.weaken (fun _ _ _ _ => trivial), NK_warm hW hN⟩, XK_call X hW hU h4 hFc⟩
  · obtain ⟨rfl, hP1, hK1, hD1⟩ := hB
    rw [ht] at hP1
    exact EX H1 locs1 ls pc rest q9 ce (wj0 h2 h3 isC hC hk1 hP1) hS hce hcv hcl
theorem G_xS (F : GF k l R cc nL own D cB cI cJ) (X : XF k) {E : String} (EX : GX k D E ws) {y : MethodName} {bytes : ByteArray} {maxL n index : Nat} {ret : Option FieldType} {rm : Room} {As : List Value} {w0 : va_W} (hM : CoT l y (.code y bytes maxL ret :: AW) rm D cB cI cJ As w0 E) {rest : List Value} (isC : List Nat) (hC : isC.map (fun i => ws[i]?) = w0.map some) (hnd : va_nd isC = true) (cv : Cond.methodLink own index y ∈ AW ∧ Cond.static y ∈ AW ∧ Cond.initialized own ∈ AW ∧ Cond.code y bytes maxL ret ∈ AW ∧ y.cls = own ∧ y.cls ≠ "java/lang/invoke/MethodHandle" ∧ y.cls ≠ "java/lang/invoke/VarHandle" ∧ (parseMethodDescriptor y.desc).map (fun d => d.parameters.length) = some n) (hrc : rm.cells = 1) (hrs : rm.slots = 6) (hR : rm.frames + 1 ≤ R.frames ∧ 8 + (maxL + 11) + rm.locals ≤ R.locals) (hf : 1 ≤ R.cells ∧ 6 ≤ R.slots) (hn : As.length = n) (h8 : (rest.map fun v => v.category).sum ≤ 8) (d : decode cc pc = .ok (.invokestatic index, 3)) (hst : st = (As.reverse ++ rest)) : G D nL k 0 0 pc L st ws := by
  obtain ⟨p, l0, e, R0, s, m, args, below, meth, c, Q, A⟩ := k
  subst hst
  obtain ⟨c1, c2, c3, c4, hd⟩ := cv
  obtain ⟨⟨hx, hb, hml, hown, hts⟩, hK, hN, rfl, rfl, hA⟩ := F
  have hT : GoodIn AW (wsS own index y (.code y bytes maxL ret :: AW)) := goodA (by
    intro w hw
    simp only [wsS, List.cons_append, List.nil_append, List.mem_cons] at hw
    rcases hw with rfl | rfl | rfl | rfl | hw <;> assumption)
  have cw := cwS (R := R) n hts hT rfl hrc hrs hd hR
  intro H locs ls h1 h2 h3 h4
  have hPc := h2.sub (ws' := w0) isC (map_fm hC)
  have hDc := h3.sub (ws' := w0) isC hnd hC
  have hFc := va_free (wc := w0) h3 h4 hA isC hC
  refine vx_callF (vx_runS (rest := rest) ⟨hx, hb, hml, hown, hts⟩ (hM H.size) cw ⟨KPx_blind, fun U hU hW => ?_⟩ rfl hn h1.1 rfl (lv_room h8) d ⟨by rw [Nat.zero_add]; exact hf.1, by rw [Nat.zero_add]; exact hf.2⟩) (fun _ _ _ z => z) h4 hFc (fun q _ h => hFc q h) (fun E' ce q9 u t H1 locs1 ht hvm hpx hB hz1 hk1 hS hce hcv hcl => ?_)
  · exact ⟨⟨rfl, by rw [hU], by rw [hU]; exact hPc, va_K.moved hW.alike hK, hDc.weaken (fun _ _ _ _ => trivial), NK_warm hW hN⟩, XK_call X hW hU h4 hFc⟩
  · obtain ⟨rfl, hP1, hK1, hD1⟩ := hB
    rw [ht] at hP1
    exact EX H1 locs1 ls pc rest q9 ce (wj0 h2 h3 isC hC hk1 hP1) hS hce hcv hcl
end GR4
