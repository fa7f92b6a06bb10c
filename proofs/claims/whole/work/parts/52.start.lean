/-! THE CLAIM OUT OF ONE WALK OF THE LAW'S BODY. Your part is whole_start (and what it stands on); all else here is the same for every law, but numbers. -/
def R_law : String := "PressSuiteLaw"
def lw_P (b : Addr) (xs : List Int32) (args : Array Value) (s : State) : Prop := args = #[.ref b] ∧ s.IntsAt b xs ∧ xs.length ≤ 2560 ∧ (Jvm.Cond.and given_1 narrow_1).before args s = true
def lw_Q (_ : Array Value) (s : State) (o : Outcome) (t : State) : Prop := o = .returned (some (.int 1)) ∧ Framed s o t [] 601024 7293034
def lw_Z (below : List Frame) (a : Array Value) (s : State) : State → Prop := fun t => ∃ o, t.status = .running ∧ Ended t below o ∧ lw_Q a s o t
/-- the law's own end, with 1 on the stack, nothing written that was there before, its room as the claim has it -/
theorem lw_ret {p : Program} {l : Launch} {e : Env} {s : State} {m : MethodId} {below : List Frame} {meth : Method} {c : Code} {b : Nat} (hx : p.tables.exec = Jvm.exec) (hb : c.code = code) (hr : meth.sig.returnType = ret) (hlocks : meth.locks = false) {pc : Nat} {H : Heap} {ls : Array Slot} (hdg : decode code pc = .ok (.ireturn, 1)) : W p l e room_1 s m #[Value.ref b] below meth c H [] 601024 7293034 (lw_Z below #[Value.ref b] s) (F0 m pc ls [.int 1]) := by
  intro T hT X
  obtain ⟨fs, hret, hrun, hended, hW, hframe⟩ := X.leave (v := some (.int 1)) (hlocks := hlocks) (fun h => by rw [hr] at h; cases h)
  have hmeth' : T.vm.method? m = some meth := X.method'
  refine ⟨T.setFrames fs, ?_, .returned (some (.int 1)), hrun, hended, rfl, ⟨_, rfl⟩, hW, hframe⟩
  jvm_step X.here [X.here.top, hx, hb, hdg, hmeth', hr, ret, narrow_b1]
  (try refine ⟨rfl, ?_⟩); (try refine ⟨rfl, ?_⟩)
  first | (intro acts; rw [hret _ acts rfl rfl rfl]) | rw [hret _ _ rfl rfl rfl]
  exact Steps.refl _
/-- what holds at the law's entry: the machine, the code, the tables' words (any of lw_tbl by 'hts w (by decide +kernel)'), the script of L ints xs at the cell b, what the Statement gives of the start (any of its parts by flat_of_before) -/
def lw_At (p : Program) (s : State) (m : MethodId) (meth : Method) (c : Code) (b L : Nat) (xs : Nat → Int32) : Prop :=
  p.tables.exec = Jvm.exec ∧ c.code = code ∧ meth.sig.returnType = ret ∧ c.maxLocals = 7 ∧ s.vm.findClass R_law = some m.cls ∧ (∀ w ∈ lw_tbl, w.before #[Value.ref b] s = true) ∧ va_X b L xs s s.heap ∧ b < s.heap.size ∧ meth.locks = false ∧ (Jvm.Cond.and given_1 narrow_1).before #[Value.ref b] s = true
theorem ex_ref {t : Term} {cls : String} {A : Array Value} {s : State} (h : (Cond.exactly t cls).before A s = true) : ∃ a, t.eval A s none [] s = some (.ref a) := by
  simp only [Cond.before, Cond.holds, Cond.value] at h
  cases hv : t.eval A s none [] s with
  | none => cases hc : s.vm.findClass cls <;> simp [hv, hc] at h
  | some v =>
    cases v with
    | ref a => exact ⟨a, rfl⟩
    | _ => cases hc : s.vm.findClass cls <;> simp [hv, hc] at h
theorem st_str {A : Array Value} {s : State} {own : String} {k : Nat} {tx : String} (h1 : (Cond.stringRef own k tx).before A s = true) (h2 : (Cond.exactly (.string own k) "java/lang/String").before A s = true) : ∃ a, vk_R own k tx a s := by
  obtain ⟨a, ha⟩ := ex_ref h2
  exact ⟨a, vk_R.of h1 ha⟩
theorem st_arr {A : Array Value} {s : State} {ty : FieldType} (hn : ∀ C, ty ≠ .object C) (h : (Cond.arrayClass ty).before A s = true) : ∃ c, ArrOfT s c ty ∧ va_RA s c ty := by
  obtain ⟨c, k, comp, h1, h2, h3⟩ := Cond.arrayClass_spec h
  refine ⟨c, fun n z => ⟨(fun k h => nomatch h), k, h2, comp, h3⟩, ?_⟩
  cases ty with
  | object C => exact absurd rfl (hn C)
  | _ => exact h1
set_option maxHeartbeats 4000000 in
set_option maxRecDepth 100000 in
theorem whole_start {p : Program} {e : Env} {s : State} {m : MethodId} {below : List Frame} {meth : Method} {c : Code} (l : Launch) (hl : l.stackTraces = false) {b L : Nat} {xs : Nat → Int32} (hL : L ≤ 2560) (C0 : lw_At p s m meth c b L xs) : W p l e room_1 s m #[Value.ref b] below meth c s.heap [] 0 0 (lw_Z below #[Value.ref b] s) (entryFrame m ([Value.ref b] : List Value).toArray 7) := by
  obtain ⟨hx, hcode, hr, hml, hown, hts, hX, hbl, hlk, hgv⟩ := C0
  have hAW : ∀ w ∈ AW, w.before #[Value.ref b] s = true := fun w h => hts w (aw_tbl w h)
  have hfl := flat_of_before _ hgv
  obtain ⟨d0, n0, K0⟩ := u_known (T := TX0) hAW uw_0 (hAW _ aw_594)
  obtain ⟨d1, n1, K1⟩ := u_known (T := TX1) hAW uw_1 (hAW _ aw_577)
  obtain ⟨d2, n2, K2⟩ := u_known (T := TX2) hAW uw_2 (hAW _ aw_558)
  obtain ⟨d3, n3, K3⟩ := u_known (T := TX3) hAW uw_3 (hAW _ aw_555)
  obtain ⟨d4, n4, K4⟩ := u_known (T := TX5) hAW uw_5 (hAW _ aw_548)
  obtain ⟨d5, n5, K5⟩ := u_known (T := TX6) hAW uw_6 (hAW _ aw_583)
  obtain ⟨d6, n6, K6⟩ := u_known (T := TX7) hAW uw_7 (hAW _ aw_568)
  obtain ⟨d7, n7, K7⟩ := u_known (T := TX9) hAW uw_9 (hAW _ aw_689)
  obtain ⟨d8, n8, K8⟩ := u_known (T := TXM) hAW uw_10 (hAW _ aw_694)
  obtain ⟨cB, aB⟩ := st_arr (ty := .byte) (fun _ h => nomatch h) (hAW _ aw_550)
  obtain ⟨cI, aI⟩ := st_arr (ty := .int) (fun _ h => nomatch h) (hAW _ aw_563)
  obtain ⟨cJ, aJ⟩ := st_arr (ty := .long) (fun _ h => nomatch h) (hAW _ aw_698)
  have hK : va_K (fun c => ([d0, d1, d2, d3, d4, d5, d6, d7, d8] : List ClassId).getD c d0, fun c => ([n0, n1, n2, n3, n4, n5, n6, n7, n8] : List (Nat → Nat)).getD c n0) zCl (gT cB cI cJ) s := by
    refine ⟨fun c q hq => ?_, fun k q hq => ?_⟩
    · have hc : c < 9 := (List.getElem?_eq_some_iff.mp hq).1
      rcases (show c = 0 ∨ c = 1 ∨ c = 2 ∨ c = 3 ∨ c = 4 ∨ c = 5 ∨ c = 6 ∨ c = 7 ∨ c = 8 by omega) with rfl | rfl | rfl | rfl | rfl | rfl | rfl | rfl | rfl
      · cases Option.some.inj hq
        exact K0
      · cases Option.some.inj hq
        exact K1
      · cases Option.some.inj hq
        exact K2
      · cases Option.some.inj hq
        exact K3
      · cases Option.some.inj hq
        exact K4
      · cases Option.some.inj hq
        exact K5
      · cases Option.some.inj hq
        exact K6
      · cases Option.some.inj hq
        exact K7
      · cases Option.some.inj hq
        exact K8
    · have hc : k < 3 := (List.getElem?_eq_some_iff.mp hq).1
      rcases (show k = 0 ∨ k = 1 ∨ k = 2 by omega) with rfl | rfl | rfl
      · cases Option.some.inj hq
        exact aB
      · cases Option.some.inj hq
        exact aI
      · cases Option.some.inj hq
        exact aJ
  have hXS : XS s := ⟨va_Nw.of rfl (hts (.castable zIA zIA) (by decide +kernel)), va_Nw.of rfl (hts (.castable zIS zIS) (by decide +kernel)), va_Nc.of (hfl (.not (.castable zIS zIA)) (by decide +kernel)), st_str (hts (.stringRef RX9 148 "no such row") (by decide +kernel)) (hfl (.exactly (.string RX9 148) "java/lang/String") (by decide +kernel)), st_str (hts (.stringRef RX9 70 "n is not 1 to 8") (by decide +kernel)) (hfl (.exactly (.string RX9 70) "java/lang/String") (by decide +kernel)), st_str (hts (.stringRef RX9 81 "no room for all bytes") (by decide +kernel)) (hfl (.exactly (.string RX9 81) "java/lang/String") (by decide +kernel)), st_str (hts (.stringRef RX9 150 "no such format") (by decide +kernel)) (hfl (.exactly (.string RX9 150) "java/lang/String") (by decide +kernel)), st_str (hts (.stringRef RX9 120 "no such byte") (by decide +kernel)) (hfl (.exactly (.string RX9 120) "java/lang/String") (by decide +kernel)), st_str (hts (.stringRef RX9 126 "what is not 0 or 1") (by decide +kernel)) (hfl (.exactly (.string RX9 126) "java/lang/String") (by decide +kernel))⟩
  have hA : ∀ a : Nat, a < s.heap.size → ¬ (fun q : Nat => s.heap.size ≤ q) a := fun a h g => Nat.not_le.mpr h g
  have hXK : XK (fun q => s.heap.size ≤ q) s s.heap := ⟨vx_Zqof (hts _ (by decide +kernel)) (hts _ (by decide +kernel)) (hfl _ (by decide +kernel)) hA, vx_Zqof (hts _ (by decide +kernel)) (hts _ (by decide +kernel)) (hfl _ (by decide +kernel)) hA, hXS⟩
  have F : GF (p, l, e, room_1, s, m, #[Value.ref b], below, meth, c, lw_Z below #[Value.ref b] s, fun q => s.heap.size ≤ q) l room_1 zc_L_law 7 RL (fun c => ([d0, d1, d2, d3, d4, d5, d6, d7, d8] : List ClassId).getD c d0, fun c => ([n0, n1, n2, n3, n4, n5, n6, n7, n8] : List (Nat → Nat)).getD c n0) cB cI cJ := ⟨⟨hx, hcode, hml, hown, hAW⟩, hK, NK_of hts, rfl, rfl, fun q h => h⟩
  have S : SX (p, l, e, room_1, s, m, #[Value.ref b], below, meth, c, lw_Z below #[Value.ref b] s, fun q => s.heap.size ≤ q) b L xs := ⟨hX, hbl, fun h => Nat.not_le.mpr hbl h⟩
  have Z := zs_start hl F hXK S hL (by
      intro xa qa qb sa sb pa pb da db ka ha ta wa va hb hc ea ua ma mb mz mh me oa cells slots i h1 h2 qn qf sn sf pn pf dn df tf an mt co ra rr zra zrr zrp th mf sz hi bg en tb ou mp fa ox hRW
      refine G_iconst (v := (1 : Int32)) F zd_L_law_658 (by decide) ?_
      intro H locs ls g1 g2 g3 g4
      exact va_forget (fun q hq => g4.2.2 q hq) (W.widen (k := 601024) (n := 7293034) (by omega) (by omega) (lw_ret hx hcode hr hlk zd_L_law_659)))
  rw [lg_entry_eq]
  exact Z s.heap [] _ (lv_entry [Value.ref b] (n := 7) (Nat.le_of_ble_eq_true rfl)) (fun k q hk => by simp at hk) ⟨fun i j p q hp => by simp at hp, fun k q hk => by simp at hk⟩ va_S.rf
set_option maxHeartbeats 4000000 in
theorem lw_walk (l : Launch) (hl : l.stackTraces = false) (b : Addr) (xs : List Int32) : MetFree l x (headSpec (Jvm.Cond.code x code maxLocals ret :: tables_1) room_1) (lw_P b xs) (fun _ _ _ _ _ => True) lw_Q := by
  refine MetFree.of_bodyS (code := code) (maxLocals := maxLocals) (ret := ret) (by decide) ?_ ?_
  · intro args s m h hn
    obtain ⟨meth, c, h1, h2, h3, h4, h5, h6, -, -⟩ := Cond.code_spec hn (atoms_spec (ws := Jvm.Cond.code x code maxLocals ret :: tables_1) h _ List.mem_cons_self)
    exact ⟨meth, c, h1, h2, h3, h4, h5, h6⟩
  · intro p e s m args below meth c s₁ B hml0 hP _
    obtain ⟨rfl, hx, hbd, hgv⟩ := hP
    obtain ⟨scr, harrAt, hlist, hof, hsmall⟩ := hx
    obtain ⟨hcb, hkn, -, -⟩ := State.arrayAt?_spec harrAt
    have hown : s.vm.findClass R_law = some m.cls := findClass_of_methodNamed B.named
    have hts0 : ∀ c ∈ (Jvm.Cond.code x code maxLocals ret :: tables_1), c.before #[Value.ref b] s = true := atoms_spec (ws := Jvm.Cond.code x code maxLocals ret :: tables_1) B.pre
    have hts : ∀ w ∈ lw_tbl, w.before #[Value.ref b] s = true := k2_hts_sels lw_privs (fun w hw => hts0 w (List.mem_cons_of_mem _ hw)) lw_privs_ok
    have hml : c.maxLocals = 7 := B.maxLocals_eq (hts0 _ List.mem_cons_self)
    have X₀ : Stand p l e room_1 s m #[Value.ref b] below meth c s₁ [] 0 0 := Stand.of_body B
    have hh0 : s₁.heap = s.heap := by rw [B.state]; rfl
    have hsz : scr.slots.size = xs.length := by rw [← Array.length_toList, hlist, List.length_map]
    have hval : ∀ j : Nat, j < xs.length → scr.slots[j]? = some (.int (xs.getD j 0)) := fun j hj => by
      rw [← Array.getElem?_toList, hlist]
      simp [hj]
    have hbl : b < s.heap.size := (Array.getElem?_eq_some_iff.mp hcb).1
    have hX : va_X b xs.length (fun j => xs.getD j 0) s s.heap := ⟨scr, hcb, hof, hkn, hsz, hval⟩
    have K : W p l e room_1 s m #[Value.ref b] below meth c s₁.heap [] 0 0 (lw_Z below #[Value.ref b] s) (entryFrame m ([Value.ref b] : List Value).toArray 7) := by
      rw [hh0]
      exact whole_start l hl hbd ⟨B.exec, B.bytes, B.returns, hml, hown, hts, hX, hbl, B.notSynchronized, hgv⟩
    obtain ⟨t, a1, o, b1, b2, b3⟩ := K s₁ rfl X₀
    exact ⟨t, o, a1, b1, b2, b3⟩
theorem lw_pre_spec {args : Array Value} {s : State} (h : (Jvm.Cond.and given_1 narrow_1).before args s = true) (hr : rest_1_c.before args s = true) : ∃ (b : Addr) (xs : List Int32), lw_P b xs args s := by
  have hs := flat_of_before _ h
  have hq := flat_of_before _ hr
  have hc : (Cond.count 1).before args s = true := hs _ (by decide +kernel)
  have harr : (Cond.arrayOf (.arg 0) .int).before args s = true := hs _ (by decide +kernel)
  have hle : (Cond.le (.length (.arg 0)) (.int 2560)).before args s = true := hs _ (by decide +kernel)
  have hlen : (Cond.isInt (.length (.arg 0))).before args s = true := hq _ (by decide +kernel)
  have hall : (Cond.all (.arg 0) (.isInt (.elem (.arg 0) (.index 0)))).before args s = true := hq _ (by decide +kernel)
  obtain ⟨b, xs, hb, hx⟩ := State.ints_of_pre rfl harr hlen hall
  have hsm : xs.length < 2 ^ 31 := hx.choose_spec.2.2.2
  have hev : (Term.length (.arg 0)).eval args s none [] s = some (.int xs.length.toInt32) := hx.length_eval hb
  have hv := Cond.le_ints hev (show (Term.int 2560).eval args s none [] s = some (.int 2560) from rfl)
  have hd : xs.length.toInt32 ≤ 2560 := by
    simpa [Cond.before, Cond.holds, hv] using hle
  have hN : xs.length ≤ 2560 := (Int32.ofNat_le_ofNat hsm (by decide)).mp (show Int32.ofNat xs.length ≤ Int32.ofNat 2560 from hd)
  exact ⟨b, xs, Cond.one_arg hc (show args[0]? = some (.ref b) from hb), hx, hN, h⟩
theorem lw_comes (l : Launch) (hl : l.stackTraces = false) : Comes l x (Jvm.Cond.code x code maxLocals ret :: tables_1) room_1 (fun tb e args s => Calls_1 tb e args s ∧ rest_1 tb e args s ∧ Pre_1 tb e args s)
    (fun _ _ args s o t => lw_Q args s o t) := by
  intro p e ha hc hk s m args below hf hfit hheap happ hpre
  obtain ⟨b, xs, hP⟩ := lw_pre_spec hpre.2.2 hpre.2.1
  obtain ⟨k, o, h1, h2, h3, hQ⟩ := lw_walk l hl b xs p e ha hc hk s m args below hf ((Spec.applies_iff_loose hf).mp happ).1 hP trivial
  exact ⟨k, o, h1, h2, h3, hQ⟩
theorem lw_frame {s t : State} {o : Outcome} {args : Array Value} (h : Framed s o t [] 601024 7293034) :
    Framed s o t (fieldLocs frame_1_writes args s ++ arrayLocs frame_1_arrays args s ++ staticLocs frame_1_statics s) 601024 7293034 := h
theorem lw_limb (L : Cond) (hL : ∀ (args : Array Value) (s t : State), L.after args s (.returned (some (.int 1))) t = true) :
    ArmFor flags0 classFile x code maxLocals ret World_1 tables_1 room_1 Calls_1 rest_1 Pre_1
      (fun tb e a s o t => postC L tb e a s o t ∧ Framed s o t (fieldLocs frame_1_writes a s ++ arrayLocs frame_1_arrays a s ++ staticLocs frame_1_statics s) 601024 7293034) := by
  intro l hfl _ _ p e ha hc hk s m args below hf hfit hheap happ hpre
  obtain ⟨k, o, h1, h2, h3, rfl, hF⟩ := lw_comes l (by unfold Launch.stackTraces; rw [hfl]; decide) p e ha hc hk s m args below hf hfit hheap happ hpre
  exact ⟨k, _, h1, h2, h3, hL args s _, lw_frame hF⟩
theorem i_vc : Claimed_1_1 ∧ Claimed_1_2 := ⟨lw_limb limb_1_1 (fun args s t => by simp [limb_1_1, Cond.after, Cond.holds, Cond.value]), lw_limb limb_1_2 (fun args s t => Cond.after_iff.mpr (by
  first | (rw [show limb_1_2 = Cond.eq .result (.int 1) from rfl, Cond.eq_ints (x := 1) (y := 1) rfl rfl]; simp; done) | (simp [limb_1_2, Cond.value, Term.eval]; done)))⟩
