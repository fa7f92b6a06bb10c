/-! Constructors: contracts CoN (new cells come), and the rules of new, newarray, putfield of a final field, invokespecial. -/
def CoN (l : Launch) (y : MethodName) (wy : List Cond) (rm : Room) (D : va_G) (cB cI cJ : ClassId) (av : List Value) (w0 : va_W) {S : Type} (wA wB : S → va_W) (mc ms : Nat) : Prop := ∀ sz : Nat, Met l y wy rm (KP D cB cI cJ av w0 sz) (va_Qv (fun (_ : S) => True) (fun u t => va_P D zCl (wA u ++ wB u) t.heap ∧ va_K D zCl (gT cB cI cJ) t ∧ va_D (va_A w0 sz) (wA u ++ wB u)) (va_A w0 sz)) mc ms (va_A w0 sz)
def IN (k : GC) : Prop := match k with
  | (_, _, _, _, _, _, _, _, meth, _, _, _) => meth.name = "<init>"
theorem CoN.ofG {l : Launch} {y : MethodName} {cc : ByteArray} {maxL : Nat} {own : String} {rm : Room} {D : va_G} {cB cI cJ : ClassId} {av : List Value} {w0 : va_W} {S : Type} {wA wB : S → va_W} {mc ms : Nat} {L0 : List (Nat × Value)} {Ts : List Cond} (hy : plainName y.cls = true) (hw : Ts = .code y cc maxL none :: AW) (ho : y.cls = own) (hi : y.name = "<init>") (hL : (lg_sl av).length ≤ maxL) (hl0 : lv_args 0 av = L0)
    (body : ∀ k : GC, GF k l rm cc maxL own D cB cI cJ → IN k → (∀ (pc : Nat) (L : List (Nat × Value)) (u : S), decode cc pc = .ok (.return_, 1) → G D maxL k mc ms pc L [] (wA u ++ wB u)) → G D maxL k 0 0 0 L0 [] w0) : CoN l y Ts rm D cB cI cJ av w0 wA wB mc ms := by
  intro sz
  refine Met.ofW (cc := cc) (maxL := maxL) (ret := none) hy hw ?_
  intro p e s m args below meth c s₁ B hml hv
  obtain ⟨rfl, hsz, hP, hK, hD0, hN⟩ := hv
  have hx := B.exec
  have hb := B.bytes
  have hr := B.returns
  have hts := atoms_spec (ws := Ts) B.pre
  have hown : s.vm.findClass own = some m.cls := by rw [← ho]; exact findClass_of_methodNamed B.named
  have hlocks := B.notSynchronized
  have hin : meth.name = "<init>" := by rw [← hi]; exact (name_of_methodNamed B.named B.method).1
  subst hsz
  have hD := hD0.self (sz := s.heap.size)
  have hA : ∀ q : Nat, s.heap.size ≤ q → va_A w0 s.heap.size q := fun q h => Or.inr h
  have hS : va_S (va_A w0 s.heap.size) s.heap s.heap [] := va_S.rf
  have hl := lv_entry av (n := maxL) hL
  rw [lg_entry_eq]
  rw [hl0] at hl
  refine body (p, l, e, (headSpec Ts rm).room, s, m, av.toArray, below, meth, c, _, va_A w0 s.heap.size) ⟨⟨hx, hb, hml, hown, fun w h => hts w (by rw [hw]; exact List.mem_cons_of_mem _ h)⟩, hK, hN, rfl, rfl, hA⟩ hin ?_ s.heap [] _ hl hP hD hS
  intro pc L u d H locs ls h1 h2 h3 h4
  exact W.vret hx hb hr (fun t ht hW => ⟨⟨u, rfl, trivial, by rw [ht]; exact h2, va_K.moved hW.alike hK, h3⟩, h4.F ht⟩) h4.2.2 d
theorem wkey {ws w0 w1 : va_W} (isC : List Nat) (hC : isC.map (fun i => ws[i]?) = w0.map some) (ha : w1.map Prod.fst = w0.map Prod.fst) (k : Nat) (q : Nat × va_E) (hq : (setsW ws isC w1)[k]? = some q) : ∃ q0, ws[k]? = some q0 ∧ q0.1 = q.1 := by
  have l0 : isC.length = w0.length := by have := congrArg List.length hC; simpa using this
  have l1 : w1.length = w0.length := by have := congrArg List.length ha; simpa using this
  rcases setsW_at isC w1 ws k q (l0.trans l1.symm) hq with ⟨j, a, b⟩ | ⟨a, -⟩
  · have h1 : (w0.map Prod.fst)[j]? = some q.1 := by rw [← ha, List.getElem?_map, a]; rfl
    rw [List.getElem?_map] at h1
    cases h0 : w0[j]? with
    | none => rw [h0] at h1; cases h1
    | some q0 =>
      rw [h0] at h1
      obtain ⟨i, h2, h3⟩ := map_at hC h0
      rw [b] at h2
      cases h2
      exact ⟨q0, h3, Option.some.inj h1⟩
  · exact ⟨q, a, rfl⟩
theorem wjN {A0 : Nat → Prop} {D : va_G} {cl : List vw_C} {ws w0 w1 wn : va_W} {H H1 : Heap} (hP : va_P D cl ws H) (hD : va_D A0 ws) (isC : List Nat) (hC : isC.map (fun i => ws[i]?) = w0.map some) (ha : w1.map Prod.fst = w0.map Prod.fst) (hk : ∀ q : Nat, q < H.size → ¬ va_A w0 H.size q → H1[q]? = H[q]?) (hF : ∀ q, va_A w0 H.size q → A0 q) (hP1 : va_P D cl (w1 ++ wn) H1) (hD1 : va_D (va_A w0 H.size) (w1 ++ wn)) : va_P D cl (setsW ws isC w1 ++ wn) H1 ∧ va_D A0 (setsW ws isC w1 ++ wn) := by
  have hl : ∀ (k : Nat) (q : Nat × va_E), w1[k]? = some q → (w1 ++ wn)[k]? = some q := fun k q hq => by
    rw [List.getElem?_append_left (List.getElem?_eq_some_iff.mp hq).1]; exact hq
  have hr : ∀ (k : Nat) (q : Nat × va_E), wn[k]? = some q → (w1 ++ wn)[w1.length + k]? = some q := fun k q hq => by
    rw [List.getElem?_append_right (by omega), show w1.length + k - w1.length = k by omega]; exact hq
  obtain ⟨hPa, hDa⟩ := wj hP hD isC hC ha rfl hk (fun k q hq => hP1 k q (hl k q hq))
  refine ⟨va_P.app hPa (fun k q hq => hP1 _ q (hr k q hq)), va_D.app hDa ⟨fun i j x y hi hj hxy => ?_, fun k q hq => hF _ (hD1.2 _ q (hr k q hq))⟩ (fun i j x y hx hy hxy => ?_)⟩
  · have := hD1.1 _ _ x y (hr i x hi) (hr j y hj) hxy
    omega
  · rcases hD1.2 _ y (hr j y hy) with ⟨k, e, h⟩ | h
    · have h1 : (w1.map Prod.fst)[k]? = some y.1 := by rw [ha, List.getElem?_map, h]; rfl
      rw [List.getElem?_map] at h1
      cases h0 : w1[k]? with
      | none => rw [h0] at h1; cases h1
      | some z =>
        rw [h0] at h1
        have := hD1.1 _ _ z y (hl k z h0) (hr j y hy) (Option.some.inj h1)
        have := (List.getElem?_eq_some_iff.mp h0).1
        omega
    · obtain ⟨q0, g1, g2⟩ := wkey isC hC ha i x hx
      have := (hP i q0 g1).lt
      rw [g2, hxy] at this
      omega
theorem arr_same {D : va_G} {cB cI cJ cA : ClassId} {s : State} {ty : FieldType} {c0 : ClassId} (i : Nat) (h0 : (gT cB cI cJ)[i]? = some (c0, ty)) (hty : ty = .byte ∨ ty = .int ∨ ty = .long) (hK : va_K D zCl (gT cB cI cJ) s) (hK2 : va_K D zCl (gT cB cI cJ ++ [(cA, ty)]) s) : cA = c0 := by
  have h1 := (hK.2 i _ h0).2
  have h2 := (hK2.2 3 (cA, ty) rfl).2
  rcases hty with rfl | rfl | rfl
  · have e1 : s.vm.findClass ("[" ++ FieldType.byte.toString) = some c0 := h1
    have e2 : s.vm.findClass ("[" ++ FieldType.byte.toString) = some cA := h2
    exact Option.some.inj (e2.symm.trans e1)
  · have e1 : s.vm.findClass ("[" ++ FieldType.int.toString) = some c0 := h1
    have e2 : s.vm.findClass ("[" ++ FieldType.int.toString) = some cA := h2
    exact Option.some.inj (e2.symm.trans e1)
  · have e1 : s.vm.findClass ("[" ++ FieldType.long.toString) = some c0 := h1
    have e2 : s.vm.findClass ("[" ++ FieldType.long.toString) = some cA := h2
    exact Option.some.inj (e2.symm.trans e1)
section GR5
variable {k : GC} {l : Launch} {R : Room} {cc : ByteArray} {nL : Nat} {own : String} {D : va_G} {cB cI cJ : ClassId} {cells slots pc : Nat} {L L' : List (Nat × Value)} {st : List Value} {ws ws' : va_W}
theorem G_ww (h : ws = ws') (kk : G D nL k cells slots pc L st ws') : G D nL k cells slots pc L st ws := h ▸ kk
theorem G_perm (is : List Nat) (hn : va_nd is = true) (hs : is.map (fun i => ws[i]?) = ws'.map some) (kk : G D nL k cells slots pc L st ws') : G D nL k cells slots pc L st ws := by
  obtain ⟨p, l, e, R, s, m, args, below, meth, c, Q, A⟩ := k
  exact fun H locs ls h1 h2 h3 h4 => kk H locs ls h1 (h2.sub is (map_fm hs)) (h3.sub is hn hs) h4
theorem G_widen {c' s' : Nat} (h1 : cells ≤ c') (h2 : slots ≤ s') (kk : G D nL k c' s' pc L st ws) : G D nL k cells slots pc L st ws := by
  obtain ⟨p, l, e, R, s, m, args, below, meth, c, Q, A⟩ := k
  exact fun H locs ls g1 g2 g3 g4 => W.widen h1 h2 (kk H locs ls g1 g2 g3 g4)
theorem G_objInit (F : GF k l R cc nL own D cB cI cJ) {index a : Nat} (cv : Cond.methodLink own index objectInit ∈ AW ∧ Cond.instanceMethod objectInit ∈ AW ∧ Cond.code objectInit ⟨#[0xb1]⟩ 1 none ∈ AW) (hR : 1 ≤ R.frames ∧ 20 ≤ R.locals) (h8 : (st.map fun v => v.category).sum ≤ 8) (d : decode cc pc = .ok (.invokespecial index, 3)) (kk : G D nL k cells slots (pc + 3) L st ws) : G D nL k cells slots pc L (.ref a :: st) ws := by
  obtain ⟨p, l0, e, R0, s, m, args, below, meth, c, Q, A⟩ := k
  obtain ⟨c1, c2, c3⟩ := cv
  obtain ⟨⟨hx, hb, hml, hown, hts⟩, hK, hN, rfl, rfl, hA⟩ := F
  intro H locs ls h1 h2 h3 h4
  have h9 : 2 * (F0 m pc ls st).monitorRoom + (st.map fun v => v.category).sum ≤ 8 := lv_room h8
  refine W.objInit hx hb hown (hts _ c1) (hts _ c2) (hts _ c3) rfl (by rw [hml]; exact h1.1) rfl d hR.1 ?_ (kk H locs ls h1 h2 h3 h4)
  have h10 : 2 * (F0 m pc ls (.ref a :: st)).monitorRoom + (st.map fun v => v.category).sum ≤ 8 := h9
  omega
theorem G_new (F : GF k l R cc nL own D cB cI cJ) {index ci N : Nat} {C : String} {T : u_T} (ty : Nat → FieldType) (cv : Cond.classLink own index C ∈ AW ∧ Cond.instantiable C N ∈ AW ∧ Cond.initialized C ∈ AW ∧ (∀ w ∈ u_ws C T N, w ∈ AW) ∧ (∀ k, k < N → parseFieldDescriptor (T k).2.2.1 = some (ty k)) ∧ zCl[ci]? = some (C, T, N)) {fs : List Value} (hfs : ∀ j, j < N → defaultValue (ty j) = vp_V fs j) (hf : cells + 1 ≤ R.cells ∧ slots + N ≤ R.slots) (d : decode cc pc = .ok (.new index, 3)) (kk : ∀ q : Nat, G D nL k (cells + 1) (slots + N) (pc + 3) L (.ref q :: st) (ws ++ [(q, .inr (ci, fs))])) : G D nL k cells slots pc L st ws := by
  obtain ⟨p, l0, e, R0, s, m, args, below, meth, c, Q, A⟩ := k
  obtain ⟨c1, c2, c3, c4, c5, c6⟩ := cv
  obtain ⟨⟨hx, hb, hml, hown, hts⟩, hK, hN, rfl, rfl, hA⟩ := F
  intro H locs ls h1 h2 h3 h4
  exact va_new hx hb hts c4 ty c5 hown (hts _ c1) (hts _ c2) (hts _ c3) hK h2 h3 h4 hA c6 hfs hf.1 hf.2 d (fun q H1 g2 g3 g4 => kk q H1 locs ls h1 g2 g3 g4)
theorem G_newB (F : GF k l R cc nL own D cB cI cJ) {n : Int32} {N : Nat} (cv : Cond.arrayClass .byte ∈ AW) (hn : ¬ n < 0) (hN : n.toNatClampNeg = N) (hbt : N * componentBytes .byte ≤ 536870912) (hf : cells + 1 ≤ R.cells ∧ slots + N ≤ R.slots) (d : decode cc pc = .ok (.newarray .byte, 2)) (kk : ∀ q : Nat, G D nL k (cells + 1) (slots + N) (pc + 2) L (.ref q :: st) (ws ++ [(q, .inl (cB, N, .inl (fun _ => 0)))])) : G D nL k cells slots pc L (.int n :: st) ws := by
  obtain ⟨p, l0, e, R0, s, m, args, below, meth, c, Q, A⟩ := k
  obtain ⟨⟨hx, hb, hml, hown, hts⟩, hK, hN2, rfl, rfl, hA⟩ := F
  intro H locs ls h1 h2 h3 h4
  refine va_newa (atype := .byte) (ty := .byte) (a0 := (N, .inl (fun _ => 0))) hx hb (hts _ cv) rfl hK h2 h3 h4 hA (fun _ => rfl) hn hN hbt hf.1 hf.2 d (fun q cA H1 gK g2 g3 g4 => ?_)
  have := arr_same (c0 := cB) 0 rfl (Or.inl rfl) hK gK
  subst this
  exact kk q H1 locs ls h1 g2 g3 g4
theorem G_newI (F : GF k l R cc nL own D cB cI cJ) {n : Int32} {N : Nat} (cv : Cond.arrayClass .int ∈ AW) (hn : ¬ n < 0) (hN : n.toNatClampNeg = N) (hbt : N * componentBytes .int ≤ 536870912) (hf : cells + 1 ≤ R.cells ∧ slots + N ≤ R.slots) (d : decode cc pc = .ok (.newarray .int, 2)) (kk : ∀ q : Nat, G D nL k (cells + 1) (slots + N) (pc + 2) L (.ref q :: st) (ws ++ [(q, .inl (cI, N, .inl (fun _ => 0)))])) : G D nL k cells slots pc L (.int n :: st) ws := by
  obtain ⟨p, l0, e, R0, s, m, args, below, meth, c, Q, A⟩ := k
  obtain ⟨⟨hx, hb, hml, hown, hts⟩, hK, hN2, rfl, rfl, hA⟩ := F
  intro H locs ls h1 h2 h3 h4
  refine va_newa (atype := .int) (ty := .int) (a0 := (N, .inl (fun _ => 0))) hx hb (hts _ cv) rfl hK h2 h3 h4 hA (fun _ => rfl) hn hN hbt hf.1 hf.2 d (fun q cA H1 gK g2 g3 g4 => ?_)
  have := arr_same (c0 := cI) 1 rfl (Or.inr (Or.inl rfl)) hK gK
  subst this
  exact kk q H1 locs ls h1 g2 g3 g4
theorem G_newJ (F : GF k l R cc nL own D cB cI cJ) {n : Int32} {N : Nat} (cv : Cond.arrayClass .long ∈ AW) (hn : ¬ n < 0) (hN : n.toNatClampNeg = N) (hbt : N * componentBytes .long ≤ 536870912) (hf : cells + 1 ≤ R.cells ∧ slots + N ≤ R.slots) (d : decode cc pc = .ok (.newarray .long, 2)) (kk : ∀ q : Nat, G D nL k (cells + 1) (slots + N) (pc + 2) L (.ref q :: st) (ws ++ [(q, .inl (cJ, N, .inr (.inl (fun _ => 0))))])) : G D nL k cells slots pc L (.int n :: st) ws := by
  obtain ⟨p, l0, e, R0, s, m, args, below, meth, c, Q, A⟩ := k
  obtain ⟨⟨hx, hb, hml, hown, hts⟩, hK, hN2, rfl, rfl, hA⟩ := F
  intro H locs ls h1 h2 h3 h4
  refine va_newa (atype := .long) (ty := .long) (a0 := (N, .inr (.inl (fun _ => 0)))) hx hb (hts _ cv) rfl hK h2 h3 h4 hA (fun _ => rfl) hn hN hbt hf.1 hf.2 d (fun q cA H1 gK g2 g3 g4 => ?_)
  have := arr_same (c0 := cJ) 2 rfl (Or.inr (Or.inr rfl)) hK gK
  subst this
  exact kk q H1 locs ls h1 g2 g3 g4
theorem G_putF (F : GF k l R cc nL own D cB cI cJ) (I : IN k) {index ci j : Nat} {C : String} {T : u_T} {N : Nat} {ty : FieldType} (cv : (∀ w ∈ u_ws C T N, w ∈ AW) ∧ zCl[ci]? = some (C, T, N) ∧ j < N ∧ Cond.fieldLink own index (T j).1 (T j).2.1 (T j).2.2.1 ∈ AW ∧ (∃ ty0 : Nat → FieldType, ∀ k, k < N → parseFieldDescriptor (T k).2.2.1 = some (ty0 k)) ∧ (∀ a, a < N → ∀ b, b < N → a ≠ b → (T a).2.1 ≠ (T b).2.1) ∧ (T j).2.2.2 = true ∧ (T j).1 = own ∧ parseFieldDescriptor (T j).2.2.1 = some ty) {q a v : Nat} {fs : List Value} (hfit : narrow ty (.ref v) = .ref v ∧ fits ty (.ref v) = true) (d : decode cc pc = .ok (.putfield index, 3)) (he : ws[q]? = some (a, .inr (ci, fs))) (hl : j < fs.length) (hw : ws.set q (a, .inr (ci, fs.set j (.ref v))) = ws') (kk : G D nL k cells slots (pc + 3) L st ws') : G D nL k cells slots pc L (.ref v :: .ref a :: st) ws := by
  obtain ⟨p, l0, e, R0, s, m, args, below, meth, c, Q, A⟩ := k
  obtain ⟨c1, c2, c3, c4, ⟨ty0, c5⟩, c6, c7, c8, c9⟩ := cv
  obtain ⟨⟨hx, hb, hml, hown, hts⟩, hK, hN, rfl, rfl, hA⟩ := F
  subst hw
  exact fun H locs ls h1 h2 h3 h4 => va_putF hx hb hts c1 ty0 c5 c6 hown hK h2 h3 h4 q he c2 j c3 (hts _ c4) (fun _ z => z) c7 I c8 c9 hfit.1 hfit.2 hl d (fun H1 locs1 g2 g3 g4 => kk H1 locs1 ls h1 g2 g3 g4)
theorem G_callI (F : GF k l R cc nL own D cB cI cJ) {y : MethodName} {bytes : ByteArray} {maxL n index mc ms : Nat} {rm : Room} {As : List Value} {w0 : va_W} {S : Type} {wA wB : S → va_W} {b : Nat} (hM : CoN l y (.code y bytes maxL none :: AW) rm D cB cI cJ (.ref b :: As) w0 wA wB mc ms) {rest : List Value} (isC : List Nat) (hC : isC.map (fun i => ws[i]?) = w0.map some) (hnd : va_nd isC = true) (ha : ∀ u, (wA u).map Prod.fst = w0.map Prod.fst) (cv : Cond.methodLink own index y ∈ AW ∧ Cond.instanceMethod y ∈ AW ∧ Cond.initialized y.cls ∈ AW ∧ Cond.code y bytes maxL none ∈ AW ∧ y.name = "<init>" ∧ y.cls ≠ "java/lang/invoke/MethodHandle" ∧ y.cls ≠ "java/lang/invoke/VarHandle" ∧ (parseMethodDescriptor y.desc).map (fun d => d.parameters.length) = some n) (hrc : rm.cells = mc) (hrs : rm.slots = ms) (hR : rm.frames + 1 ≤ R.frames ∧ 8 + (maxL + 11) + rm.locals ≤ R.locals) (hf : cells + mc ≤ R.cells ∧ slots + ms ≤ R.slots) (hn : As.length = n) (h8 : (rest.map fun v => v.category).sum ≤ 8) (d : decode cc pc = .ok (.invokespecial index, 3)) (hst : st = (As.reverse ++ .ref b :: rest)) (kk : ∀ u : S, G D nL k (cells + mc) (slots + ms) (pc + 3) L rest (setsW ws isC (wA u) ++ wB u)) : G D nL k cells slots pc L st ws := by
  obtain ⟨p, l0, e, R0, s, m, args, below, meth, c, Q, A⟩ := k
  subst hst
  obtain ⟨c1, c2, c3, c4, c5, hd⟩ := cv
  obtain ⟨⟨hx, hb, hml, hown, hts⟩, hK, hN, rfl, rfl, hA⟩ := F
  have hT : GoodIn AW (.code y bytes maxL none :: AW) := goodA (by
    intro w hw
    rcases List.mem_cons.mp hw with rfl | hw <;> assumption)
  have cw := cwI (R := R) n hts hT rfl hrc hrs (hts _ c3) (hts _ c1) (hts _ c2) c5 hd hR
  intro H locs ls h1 h2 h3 h4
  have hPc := h2.sub (ws' := w0) isC (map_fm hC)
  have hDc := h3.sub (ws' := w0) isC hnd hC
  have hFc := va_free (wc := w0) h3 h4 hA isC hC
  refine va_callv (va_runI (rest := rest) ⟨hx, hb, hml, hown, hts⟩ (hM H.size) cw ⟨KP_blind, fun U hU hW => ?_⟩ rfl hn h1.1 rfl (lv_room h8) d hf) h4 (fun q _ h => hFc q h) hFc (fun u t H1 locs1 ht hvm hpost hB hz1 hk1 hS => ?_)
  · exact ⟨rfl, by rw [hU], by rw [hU]; exact hPc, va_K.moved hW.alike hK, hDc.weaken (fun _ _ _ _ => trivial), NK_warm hW hN⟩
  · obtain ⟨hP1, hK1, hD1⟩ := hB
    rw [ht] at hP1
    obtain ⟨hP2, hD2⟩ := wjN h2 h3 isC hC (ha u) hk1 hFc hP1 hD1
    exact kk u H1 locs1 ls h1 hP2 hD2 hS
end GR5
