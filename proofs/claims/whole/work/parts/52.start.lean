def R_law : String := "LinkQueuesLaw"
def lw_P (b : Addr) (xs : List Int32) (args : Array Value) (s : State) : Prop := args = #[.ref b] ∧ s.IntsAt b xs ∧ xs.length ≤ 3072 ∧ (Jvm.Cond.and given_1 narrow_1).before args s = true
/-- what a walk over the start with the record d0 says of its end, said of the start itself -/
theorem lw_closed {s t : State} {o : Outcome} {d0 : Drawn} {L : List Loc} {k n : Nat} (hd0 : s.drawn.sameBut d0 lw_cs) (hv : ∃ v, o = .returned v) (hW : (s.setDrawn d0).WarmedH t.vm) (hs : (s.setDrawn d0).sameButNew ({ t with vm := s.vm } : State) L k n) : State.butDraws s t lw_cs (fun t1 => Framed s o t1 L k n) := by
  have h2 : t.drawn = d0 := congrArg State.drawn hs.1
  refine ⟨⟨hv, hW, State.sameButNew.setDrawn hs s.drawn⟩, ?_, by decide⟩
  rw [h2]
  exact hd0
def lw_Q (_ : Array Value) (s : State) (o : Outcome) (t : State) : Prop := o = .returned (some (.int 1)) ∧ State.butDraws s t lw_cs (fun t1 => Framed s o t1 [] 601024 7293034)
def lw_Z (below : List Frame) (a : Array Value) (s : State) : State → Prop := fun t => ∃ o, t.status = .running ∧ Ended t below o ∧ lw_Q a s o t
/-- the law's own end, with 1 on the stack, nothing written that was there before, its room as the claim has it; d0: the record of draws at this point (at the entry s.drawn: begin with 'refine W.base ?_' and 'have hd0 := Drawn.sameBut.refl s.drawn lw_cs') -/
theorem lw_ret {p : Program} {l : Launch} {e : Env} {s : State} {m : MethodId} {below : List Frame} {meth : Method} {c : Code} {b : Nat} {d0 : Drawn} (hd0 : s.drawn.sameBut d0 lw_cs) (hx : p.tables.exec = Jvm.exec) (hb : c.code = code) (hr : meth.sig.returnType = ret) (hlocks : meth.locks = false) {pc : Nat} {H : Heap} {ls : Array Slot} (hdg : decode code pc = .ok (.ireturn, 1)) : W p l e room_1 (s.setDrawn d0) m #[Value.ref b] below meth c H [] 601024 7293034 (lw_Z below #[Value.ref b] s) (F0 m pc ls [.int 1]) := by
  intro T hT X
  obtain ⟨fs, hret, hrun, hended, hW, hframe⟩ := X.leave (v := some (.int 1)) (hlocks := hlocks) (fun h => by rw [hr] at h; cases h)
  have hmeth' : T.vm.method? m = some meth := X.method'
  refine ⟨T.setFrames fs, ?_, .returned (some (.int 1)), hrun, hended, rfl, lw_closed hd0 ⟨_, rfl⟩ hW hframe⟩
  jvm_step X.here [X.here.top, hx, hb, hdg, hmeth', hr, ret, narrow_b1]
  (try refine ⟨rfl, ?_⟩); (try refine ⟨rfl, ?_⟩)
  first | (intro acts; rw [hret _ acts rfl rfl rfl]) | rw [hret _ _ rfl rfl rfl]
  exact Steps.refl _
/-- what holds at the law's entry: the machine, the code, the tables' words (any of lw_tbl by 'hts w (by decide +kernel)'), the script of L ints xs at the cell b, what the Statement gives of the start (any of its parts by flat_of_before) -/
def lw_At (p : Program) (s : State) (m : MethodId) (meth : Method) (c : Code) (b L : Nat) (xs : Nat → Int32) : Prop :=
  p.tables.exec = Jvm.exec ∧ c.code = code ∧ meth.sig.returnType = ret ∧ c.maxLocals = 10 ∧ s.vm.findClass R_law = some m.cls ∧ (∀ w ∈ lw_tbl, w.before #[Value.ref b] s = true) ∧ va_X b L xs s s.heap ∧ b < s.heap.size ∧ meth.locks = false ∧ (Jvm.Cond.and given_1 narrow_1).before #[Value.ref b] s = true
theorem arrT {s : State} {args : Array Value} {t : FieldType} (ho : ∀ C : String, t ≠ .object C) (h : (Cond.arrayClass t).before args s = true) : ∃ c, ArrOfT s c t ∧ va_RA s c t := by
  obtain ⟨c, k, comp, h1, h2, h3⟩ := Cond.arrayClass_spec h
  refine ⟨c, fun n z => ⟨fun k h => (by cases h), k, h2, comp, h3⟩, ?_⟩
  cases t with
  | object C => exact absurd rfl (ho C)
  | _ => exact h1
theorem arrO {s : State} {args : Array Value} {C : String} (h : (Cond.arrayOver (.object C)).before args s = true) : ∃ c, ArrOfT s c (.object C) ∧ va_RA s c (.object C) := by
  obtain ⟨comp, c, k, h1, h2, h3, h4, h5⟩ := Cond.arrayOver_spec h
  exact ⟨c, fun n z => ⟨fun k h => (by cases h), k, h3, comp, h4⟩, k, comp, h3, h4, h1, h5⟩
theorem swP {D : va_G} {cl : List vw_C} {H : Heap} {w1 w2 : va_W} (h : va_P D cl (w1 ++ w2) H) : va_P D cl (w2 ++ w1) H := va_P.app (rP h) (lP h)
theorem swD {A : Nat → Prop} {w1 w2 : va_W} (h : va_D A (w1 ++ w2)) : va_D A (w2 ++ w1) := va_D.app (rD h) (lD h) (fun i j x y hx hy hxy => xD h hy hx hxy.symm)
theorem fl0 {l : Launch} (h : l.flags = flags0) : l.stackTraces = false := by
  unfold Launch.stackTraces
  rw [h]
  decide +kernel
theorem tbl_s : ∀ q ∈ txts, Cond.stringRef "LinkQueues" q.1 q.2 ∈ lw_tbl := by decide +kernel
theorem xT0 {s : State} {args : Array Value} (hts : ∀ w ∈ lw_tbl, w.before args s = true) (hgv : (Jvm.Cond.and given_1 narrow_1).before args s = true) : xT (fun q : Nat => s.heap.size ≤ q) s := by
  have hs := flat_of_before _ hgv
  have hA : ∀ a : Nat, a < s.heap.size → ¬ (fun q : Nat => s.heap.size ≤ q) a := fun a h => Nat.not_le.mpr h
  refine ⟨vx_Zqof (hts _ (by decide +kernel)) (hts _ (by decide +kernel)) (hs _ (by decide +kernel)) hA, vx_Zqof (hts _ (by decide +kernel)) (hts _ (by decide +kernel)) (hs _ (by decide +kernel)) hA, va_Nw.of rfl (hts (.castable "java/lang/IllegalArgumentException" "java/lang/IllegalArgumentException") (by decide +kernel)), va_Nw.of rfl (hts (.castable "java/lang/IllegalStateException" "java/lang/IllegalStateException") (by decide +kernel)), va_Nw.of rfl (hts (.declares (Bundle.initS "java/lang/RuntimeException")) (by decide +kernel)), va_Nw.of rfl (hts (.declares (Bundle.initS "java/lang/Exception")) (by decide +kernel)), va_Nw.of rfl (hts (.declares (Bundle.initS "java/lang/Throwable")) (by decide +kernel)), va_Nc.of (hs (.not (.castable "java/lang/IllegalStateException" "java/lang/IllegalArgumentException")) (by decide +kernel)), fun k q hq => ?_⟩
  have hm := List.mem_of_getElem? hq
  have h2 : (Cond.exactly (.string "LinkQueues" q.1) "java/lang/String").before args s = true := by
    have h3 : ∀ q ∈ txts, Cond.exactly (.string "LinkQueues" q.1) "java/lang/String" ∈ flatC (Jvm.Cond.and given_1 narrow_1) := by decide +kernel
    exact hs _ (h3 q hm)
  obtain ⟨a, c, cell, k1, h3, -⟩ := Cond.exactly_spec h2
  exact ⟨a, vk_R.of (hts _ (tbl_s q hm)) h3⟩
set_option maxHeartbeats 8000000 in
set_option maxRecDepth 100000 in
theorem start_of {p : Program} {e : Env} {s : State} {m : MethodId} {below : List Frame} {meth : Method} {c : Code} (l : Launch) (hflags : l.flags = flags0) {b L : Nat} {xs : Nat → Int32} (hL : L ≤ 3072) (C0 : lw_At p s m meth c b L xs) (hpure : wp_X9_init τ1 (fun τ => ∃ f, wpL xs L f 0 0 (fun _ => 0) (fun _ => 0) σ0 τ)) : W p l e room_1 s m #[Value.ref b] below meth c s.heap [] 0 0 (lw_Z below #[Value.ref b] s) (entryFrame m ([Value.ref b] : List Value).toArray 10) := by
  obtain ⟨hx, hb, hr, hml, hown, hts0, hX, hbl, hlocks, hgv⟩ := C0
  have hts : ∀ w ∈ wsL_law, w.before #[Value.ref b] s = true := fun w h => hts0 w (wsL_law_in w h)
  have hT := xT0 hts0 hgv
  have hfl := fl0 hflags
  obtain ⟨c0, i0, k0⟩ := u_known (N := 3) hts inlX0 (hts0 (.instantiable RX0 3) (by decide +kernel))
  obtain ⟨c1, i1, k1⟩ := u_known (N := 8) hts inlX1 (hts0 (.instantiable RX1 8) (by decide +kernel))
  obtain ⟨c2, i2, k2⟩ := u_known (N := 15) hts inlX2 (hts0 (.instantiable RX2 15) (by decide +kernel))
  obtain ⟨c3, i3, k3⟩ := u_known (N := 7) hts inlX3 (hts0 (.instantiable RX3 7) (by decide +kernel))
  obtain ⟨c4, i4, k4⟩ := u_known (N := 2) hts inlX4 (hts0 (.instantiable RX4 2) (by decide +kernel))
  obtain ⟨c5, i5, k5⟩ := u_known (N := 8) hts inlX5 (hts0 (.instantiable RX5 8) (by decide +kernel))
  obtain ⟨c6, i6, k6⟩ := u_known (N := 4) hts inlX6 (hts0 (.instantiable RX6 4) (by decide +kernel))
  obtain ⟨c7, i7, k7⟩ := u_known (N := 3) hts inlX7 (hts0 (.instantiable RX7 3) (by decide +kernel))
  obtain ⟨c8, i8, k8⟩ := u_known (N := 11) hts inlX8 (hts0 (.instantiable RX8 11) (by decide +kernel))
  obtain ⟨c9, i9, k9⟩ := u_known (N := 43) hts inlX9 (hts0 (.instantiable RX9 43) (by decide +kernel))
  obtain ⟨a0, u0, v0⟩ := arrT (t := .double) (fun _ h => by cases h) (hts0 (.arrayClass .double) (by decide +kernel))
  obtain ⟨a1, u1, v1⟩ := arrT (t := .int) (fun _ h => by cases h) (hts0 (.arrayClass .int) (by decide +kernel))
  obtain ⟨a2, u2, v2⟩ := arrT (t := .boolean) (fun _ h => by cases h) (hts0 (.arrayClass .boolean) (by decide +kernel))
  obtain ⟨a3, u3, v3⟩ := arrO (hts0 (.arrayOver (.object "LinkQueues$Flow")) (by decide +kernel))
  obtain ⟨a4, u4, v4⟩ := arrO (hts0 (.arrayOver (.object "LinkQueues$Packet")) (by decide +kernel))
  obtain ⟨a5, u5, v5⟩ := arrT (t := .long) (fun _ h => by cases h) (hts0 (.arrayClass .long) (by decide +kernel))
  obtain ⟨dC, edC⟩ : ∃ z : Nat → ClassId, z = fun i => ([c0, c1, c2, c3, c4, c5, c6, c7, c8, c9] : List ClassId).getD i c0 := ⟨_, rfl⟩
  obtain ⟨dI, edI⟩ : ∃ z : Nat → Nat → Nat, z = fun i => ([i0, i1, i2, i3, i4, i5, i6, i7, i8, i9] : List (Nat → Nat)).getD i i0 := ⟨_, rfl⟩
  obtain ⟨cA, ecA⟩ : ∃ z : Nat → ClassId, z = fun i => ([a0, a1, a2, a3, a4, a5] : List ClassId).getD i a0 := ⟨_, rfl⟩
  have hK : va_K (dC, dI) vwCl (tyC cA) s := by
    subst edC; subst edI; subst ecA
    refine ⟨fun i q hq => ?_, fun i q hq => ?_⟩
    · have hi : i < 10 := (List.getElem?_eq_some_iff.mp hq).1
      rcases (show i = 0 ∨ i = 1 ∨ i = 2 ∨ i = 3 ∨ i = 4 ∨ i = 5 ∨ i = 6 ∨ i = 7 ∨ i = 8 ∨ i = 9 by omega) with rfl | rfl | rfl | rfl | rfl | rfl | rfl | rfl | rfl | rfl
      · cases Option.some.inj (show some ((RX0, TX0, 3) : vw_C) = some q from hq); exact k0
      · cases Option.some.inj (show some ((RX1, TX1, 8) : vw_C) = some q from hq); exact k1
      · cases Option.some.inj (show some ((RX2, TX2, 15) : vw_C) = some q from hq); exact k2
      · cases Option.some.inj (show some ((RX3, TX3, 7) : vw_C) = some q from hq); exact k3
      · cases Option.some.inj (show some ((RX4, TX4, 2) : vw_C) = some q from hq); exact k4
      · cases Option.some.inj (show some ((RX5, TX5, 8) : vw_C) = some q from hq); exact k5
      · cases Option.some.inj (show some ((RX6, TX6, 4) : vw_C) = some q from hq); exact k6
      · cases Option.some.inj (show some ((RX7, TX7, 3) : vw_C) = some q from hq); exact k7
      · cases Option.some.inj (show some ((RX8, TX8, 11) : vw_C) = some q from hq); exact k8
      · cases Option.some.inj (show some ((RX9, TX9, 43) : vw_C) = some q from hq); exact k9
    · have hi : i < 6 := (List.getElem?_eq_some_iff.mp hq).1
      rcases (show i = 0 ∨ i = 1 ∨ i = 2 ∨ i = 3 ∨ i = 4 ∨ i = 5 by omega) with rfl | rfl | rfl | rfl | rfl | rfl
      · cases Option.some.inj (show some ((a0, .double) : ClassId × FieldType) = some q from hq); exact ⟨u0, v0⟩
      · cases Option.some.inj (show some ((a1, .int) : ClassId × FieldType) = some q from hq); exact ⟨u1, v1⟩
      · cases Option.some.inj (show some ((a2, .boolean) : ClassId × FieldType) = some q from hq); exact ⟨u2, v2⟩
      · cases Option.some.inj (show some ((a3, .object "LinkQueues$Flow") : ClassId × FieldType) = some q from hq); exact ⟨u3, v3⟩
      · cases Option.some.inj (show some ((a4, .object "LinkQueues$Packet") : ClassId × FieldType) = some q from hq); exact ⟨u4, v4⟩
      · cases Option.some.inj (show some ((a5, .long) : ClassId × FieldType) = some q from hq); exact ⟨u5, v5⟩
  clear k0 k1 k2 k3 k4 k5 k6 k7 k8 k9 u0 v0 u1 v1 u2 v2 u3 v3 u4 v4 u5 v5 edC edI ecA
  have hAO2 : va_AO "LinkQueues$Flow" s := va_AO.of (hts0 (.arrayOver (.object "LinkQueues$Flow")) (by decide +kernel))
  have hAO5 : va_AO "LinkQueues$Packet" s := va_AO.of (hts0 (.arrayOver (.object "LinkQueues$Packet")) (by decide +kernel))
  have hN : nest8 s := ⟨va_Nw.of rfl (hts0 (.methodLinkNest RX8 17 yX7_init "LinkQueues") (by decide +kernel)), va_Nw.of rfl (hts0 (.methodLinkNest RX8 24 yX0_init "LinkQueues") (by decide +kernel)), va_Nw.of rfl (hts0 (.methodLinkNest RX8 31 yX4_init "LinkQueues") (by decide +kernel)), va_Nw.of rfl (hts0 (.methodLinkNest RX2 11 yX6_init "LinkQueues") (by decide +kernel)), va_Nw.of rfl (hts0 (.methodLinkNest RX2 20 yX3_init "LinkQueues") (by decide +kernel)), va_Nw.of rfl (hts0 (.methodLinkNest RX2 27 yX1_init "LinkQueues") (by decide +kernel))⟩
  have hd0 := Drawn.sameBut.refl s.drawn lw_cs
  have hend : ∀ (H : Heap) (ls : Array Slot), W p l e room_1 s m #[Value.ref b] below meth c H [] 601024 7293034 (lw_Z below #[Value.ref b] s) (F0 m 1031 ls []) := by
    intro H ls
    refine lv_iconst (v := 1) hx hb dL_law_1031 (by decide) ?_
    exact lw_ret (d0 := s.drawn) hd0 hx hb hr hlocks dL_law_1032
  have C : lcx p l s m c b L xs dC dI cA := ⟨hx, hb, hml, hown, hts, hX, hbl, hK, hT, hfl⟩
  have hA : ∀ q : Nat, s.heap.size ≤ q → (fun q : Nat => s.heap.size ≤ q) q := fun _ h => h
  have hl := lv_entry ([.ref b]) (n := 10) (Nat.le_of_ble_eq_true rfl)
  rw [lg_entry_eq]
  generalize (lg_sl ([.ref b]) ++ List.replicate (10 - (lg_sl ([.ref b])).length) Slot.unset).toArray = ls at hl ⊢
  have hl : lv_has ls 10 [(0, .ref b)] := hl
  have hP : va_P (dC, dI) vwCl [] s.heap := fun k q h => by cases h
  have hD : va_D (fun q : Nat => s.heap.size ≤ q) [] := ⟨fun i j p q h => (by cases h), fun k q h => (by cases h)⟩
  generalize hHe : s.heap = H at hP ⊢
  have hS : va_S (fun q : Nat => s.heap.size ≤ q) s.heap H [] := by rw [← hHe]; exact va_S.rf
  clear hHe
  refine va_new (ci := 8) (fs := [.null, .null, .null, .null, .int 0, .int 0, .int 0, .int 0, .int 0, .double 0, .double 0]) (C := RX8) (T := TX8) (N := 11) hx hb hts inlX8 tyX8 tyX8_ok hown (hts0 (.classLink RL 8 RX8) (by decide +kernel)) (hts0 (.instantiable RX8 11) (by decide +kernel)) (hts0 (.initialized RX8) (by decide +kernel)) hK hP hD hS hA rfl (fun j hj => by rcases (show j = 0 ∨ j = 1 ∨ j = 2 ∨ j = 3 ∨ j = 4 ∨ j = 5 ∨ j = 6 ∨ j = 7 ∨ j = 8 ∨ j = 9 ∨ j = 10 by omega) with rfl | rfl | rfl | rfl | rfl | rfl | rfl | rfl | rfl | rfl | rfl <;> rfl) (Nat.le_of_ble_eq_true rfl) (Nat.le_of_ble_eq_true rfl) dL_law_0 (fun q1 H hP hD hS => ?_)
  replace hP : va_P (dC, dI) vwCl ([] ++ [(q1, .inr (8, [.null, .null, .null, .null, .int 0, .int 0, .int 0, .int 0, .int 0, .double 0, .double 0]))]) H := hP
  replace hD : va_D (fun q : Nat => s.heap.size ≤ q) ([] ++ [(q1, .inr (8, [.null, .null, .null, .null, .int 0, .int 0, .int 0, .int 0, .int 0, .double 0, .double 0]))]) := hD
  refine lv_dup hx hb dL_law_3 rfl ?_
  have hPc := rP hP
  have hDc := rD hD
  have hF := fA hDc hS hA
  refine va_callv (va_runI (As := []) (rest := [.ref q1]) ⟨hx, hb, hml, hown, hts⟩ (c_X8_init l dC dI cA q1 H.size) (cwI 0 hts gL_law_X8_init rfl rfl rfl (hts0 (.initialized RX8) (by decide +kernel)) (hts0 (.methodLink RL 55 yX8_init) (by decide +kernel)) (hts0 (.instanceMethod yX8_init) (by decide +kernel)) rfl (by decide +kernel) ⟨Nat.le_of_ble_eq_true rfl, Nat.le_of_ble_eq_true rfl⟩) ⟨fbO2, fun U hU hW => ⟨rfl, ⟨by rw [hU], by rw [hU]; exact hPc, va_K.moved hW.alike hK, hDc.weaken (fun _ _ _ _ => trivial)⟩, va_AO.moved hW.alike hAO2, va_AO.moved hW.alike hAO5, hN.warm hW⟩⟩ rfl rfl hl.1 rfl (lv_room (Nat.le_of_ble_eq_true rfl)) dL_law_4 ⟨Nat.le_of_ble_eq_true rfl, Nat.le_of_ble_eq_true rfl⟩) hS (fun q _ h => hF q h) hF (fun ad t H1 locs ht hvm hwp hB hz1 hk1 hS => ?_)
  obtain ⟨⟨hP1, hK1, hD1⟩, had⟩ := hB
  rw [ht] at hP1
  replace hP := jR hP hD hk1 hF hP1 hD1
  clear hPc hDc hF hP1 hD1 hD
  obtain ⟨hP, hD⟩ := hP
  replace hP : va_P (dC, dI) vwCl (Wc cA ad 0 σ0) H1 := hP
  replace hD : va_D (fun q : Nat => s.heap.size ≤ q) (Wc cA ad 0 σ0) := hD
  generalize H1 = H at hP hS ⊢
  clear hK1 hk1 hz1 ht hvm
  subst had
  refine lv_astore_n (lv' := [(1, .ref (ad 8 0)), (0, .ref b)]) hx hb dL_law_7 rfl hl (by decide) rfl (fun ls hl => ?_)
  refine va_new (ci := 9) (fs := [.int 0, .int 0, .int 0, .double 0, .int 0, .double 0, .null, .null, .null, .null, .null, .null, .null, .null, .null, .null, .null, .null, .null, .null, .null, .null, .null, .null, .null, .null, .null, .null, .null, .null, .int 0, .null, .null, .int 0, .int 0, .null, .int 0, .null, .int 0, .int 0, .int 0, .int 0, .int 0]) (C := RX9) (T := TX9) (N := 43) hx hb hts inlX9 tyX9 tyX9_ok hown (hts0 (.classLink RL 56 RX9) (by decide +kernel)) (hts0 (.instantiable RX9 43) (by decide +kernel)) (hts0 (.initialized RX9) (by decide +kernel)) hK hP hD hS hA rfl (fun j hj => by rcases (show j = 0 ∨ j = 1 ∨ j = 2 ∨ j = 3 ∨ j = 4 ∨ j = 5 ∨ j = 6 ∨ j = 7 ∨ j = 8 ∨ j = 9 ∨ j = 10 ∨ j = 11 ∨ j = 12 ∨ j = 13 ∨ j = 14 ∨ j = 15 ∨ j = 16 ∨ j = 17 ∨ j = 18 ∨ j = 19 ∨ j = 20 ∨ j = 21 ∨ j = 22 ∨ j = 23 ∨ j = 24 ∨ j = 25 ∨ j = 26 ∨ j = 27 ∨ j = 28 ∨ j = 29 ∨ j = 30 ∨ j = 31 ∨ j = 32 ∨ j = 33 ∨ j = 34 ∨ j = 35 ∨ j = 36 ∨ j = 37 ∨ j = 38 ∨ j = 39 ∨ j = 40 ∨ j = 41 ∨ j = 42 by omega) with rfl | rfl | rfl | rfl | rfl | rfl | rfl | rfl | rfl | rfl | rfl | rfl | rfl | rfl | rfl | rfl | rfl | rfl | rfl | rfl | rfl | rfl | rfl | rfl | rfl | rfl | rfl | rfl | rfl | rfl | rfl | rfl | rfl | rfl | rfl | rfl | rfl | rfl | rfl | rfl | rfl | rfl | rfl <;> rfl) (Nat.le_of_ble_eq_true rfl) (Nat.le_of_ble_eq_true rfl) dL_law_8 (fun q2 H hP hD hS => ?_)
  refine lv_dup hx hb dL_law_11 rfl ?_
  have hPc := rP hP
  have hDc := rD hD
  have hF := fA hDc hS hA
  refine va_callv (va_runI (As := []) (rest := [.ref q2]) ⟨hx, hb, hml, hown, hts⟩ (c_X9_init l dC dI cA q2 H.size _ hpure) (cwI 0 hts gL_law_X9_init rfl rfl rfl (hts0 (.initialized RX9) (by decide +kernel)) (hts0 (.methodLink RL 58 yX9_init) (by decide +kernel)) (hts0 (.instanceMethod yX9_init) (by decide +kernel)) rfl (by decide +kernel) ⟨Nat.le_of_ble_eq_true rfl, Nat.le_of_ble_eq_true rfl⟩) ⟨fbC, fun U hU hW => ⟨rfl, by rw [hU], by rw [hU]; exact hPc, va_K.moved hW.alike hK, hDc.weaken (fun _ _ _ _ => trivial)⟩⟩ rfl rfl hl.1 rfl (lv_room (Nat.le_of_ble_eq_true rfl)) dL_law_12 ⟨Nat.le_of_ble_eq_true rfl, Nat.le_of_ble_eq_true rfl⟩) hS (fun q _ h => hF q h) hF (fun u t H1 locs ht hvm hwp hB hz1 hk1 hS => ?_)
  obtain ⟨adm, τ⟩ := u
  obtain ⟨f, hwp⟩ := hwp
  obtain ⟨⟨hP1, hK1, hD1⟩, had⟩ := hB
  rw [ht] at hP1
  replace hP := jR hP hD hk1 hF hP1 hD1
  clear hPc hDc hF hP1 hD1 hD
  obtain ⟨hP, hD⟩ := hP
  have had : adm 9 0 = q2 := had
  replace hP : va_P (dC, dI) vwCl (Wc cA ad 0 σ0 ++ Wm cA adm τ) H1 := hP
  replace hD : va_D (fun q : Nat => s.heap.size ≤ q) (Wc cA ad 0 σ0 ++ Wm cA adm τ) := hD
  generalize H1 = H at hP hS ⊢
  clear hK1 hk1 hz1 ht hvm
  subst had
  refine lv_astore_n (lv' := [(2, .ref (adm 9 0)), (1, .ref (ad 8 0)), (0, .ref b)]) hx hb dL_law_15 rfl hl (by decide) rfl (fun ls hl => ?_)
  refine lv_iconst (v := 1) hx hb dL_law_16 (by decide) ?_
  refine va_newa (atype := .long) (ty := .long) (a0 := (1, .inr (.inl (fun _ => 0)))) (N' := 1) hx hb (hts0 (.arrayClass .long) (by decide +kernel)) rfl hK hP hD hS hA (fun _ => rfl) (by decide) (by decide) (by decide) (Nat.le_of_ble_eq_true rfl) (Nat.le_of_ble_eq_true rfl) dL_law_17 (fun b1 c9 H hK9 hP hD hS => ?_)
  obtain rfl := newK 5 hK9 hK rfl
  clear hK9
  refine lv_astore_n (lv' := [(3, .ref b1), (2, .ref (adm 9 0)), (1, .ref (ad 8 0)), (0, .ref b)]) hx hb dL_law_19 rfl hl (by decide) rfl (fun ls hl => ?_)
  refine lv_iconst (v := 1) hx hb dL_law_20 (by decide) ?_
  refine va_newa (atype := .double) (ty := .double) (a0 := (1, .inr (.inr (.inr (.inl (fun _ => 0)))))) (N' := 1) hx hb (hts0 (.arrayClass .double) (by decide +kernel)) rfl hK hP hD hS hA (fun _ => rfl) (by decide) (by decide) (by decide) (Nat.le_of_ble_eq_true rfl) (Nat.le_of_ble_eq_true rfl) dL_law_21 (fun b2 c9 H hK9 hP hD hS => ?_)
  obtain rfl := newK 0 hK9 hK rfl
  clear hK9
  refine lv_astore (lv' := [(4, .ref b2), (3, .ref b1), (2, .ref (adm 9 0)), (1, .ref (ad 8 0)), (0, .ref b)]) hx hb dL_law_23 hl (by decide) rfl (fun ls hl => ?_)
  refine lv_iconst (v := 0) hx hb dL_law_25 (by decide) ?_
  refine lv_istore (lv' := [(5, .int 0), (4, .ref b2), (3, .ref b1), (2, .ref (adm 9 0)), (1, .ref (ad 8 0)), (0, .ref b)]) hx hb dL_law_26 hl (by decide) rfl (fun ls hl => ?_)
  have eW : (Wc cA ad 0 σ0 ++ Wm cA adm τ) ++ [(b1, .inl (cA 5, 1, .inr (.inl (fun _ => 0))))] ++ [(b2, .inl (cA 0, 1, .inr (.inr (.inr (.inl (fun _ => 0))))))] = (Wc cA ad 0 σ0 ++ Wm cA adm τ) ++ Wo cA b1 b2 (fun _ => 0) (fun _ => 0) := by rw [List.append_assoc]; rfl
  rw [eW] at hP hD
  have hP := swP hP
  have hD := swD hD
  have eL : Wo cA b1 b2 (fun _ => 0) (fun _ => 0) ++ (Wc cA ad 0 σ0 ++ Wm cA adm τ) = Wl cA b1 b2 ad 0 (fun _ => 0) (fun _ => 0) σ0 ++ Wm cA adm τ := by unfold Wl; rw [List.append_assoc]
  rw [eL] at hP hD
  refine W.widen (k := 600000 + 2 * 0) (n := 7285000 + 14 * 0) (Nat.le_of_ble_eq_true rfl) (Nat.le_of_ble_eq_true rfl) ?_
  exact law_loop C hL hend f 0 (by omega) ad 0 (fun _ => 0) (fun _ => 0) σ0 τ hwp rfl _ _ _ hP hD hS (lv_sub hl [5, 4, 3, 2, 1, 0] rfl)
