def wp_L_kind (n : Nat) (o : Nat → Int64) (d : Nat → UInt64) (σ : ST) (a1 : Int32) (a2 : Int32) (a3 : Int32) (K : Int32 → (Nat → Int64) → (Nat → UInt64) → ST → Prop) : Prop := wp_X8_kind n σ a1 a2 a3 (fun s1 => K 0 o d s1) (fun E s1 => E = "java/lang/IllegalArgumentException" ∧ K 1 o d s1)
set_option maxHeartbeats 8000000 in
set_option maxRecDepth 100000 in
theorem c_L_kind (l : Launch) (hfl : l.stackTraces = false) (dC : Nat → ClassId) (dI : Nat → Nat → Nat) (cA : Nat → ClassId) (b1 b2 : Nat) (ad : Nat → Nat → Nat) (n : Nat) (o : Nat → Int64) (d : Nat → UInt64) (σ : ST) (a1 : Int32) (a2 : Int32) (a3 : Int32) (sz : Nat) (K : Int32 → (Nat → Int64) → (Nat → UInt64) → ST → Prop) (hwp : wp_L_kind n o d σ a1 a2 a3 K) : vx_Met l yL_kind wsL_kind ({ frames := 8, cells := 2, slots := 12, locals := 136 } : Room) (va_Pc [.ref (ad 8 0), .int a1, .int a2, .int a3] (preX dC dI cA (Wl cA b1 b2 ad n o d σ) sz)) (va_Qi (fun (r : Int32) (u : (Nat → Int64) × (Nat → UInt64) × ST) => K r u.1 u.2.1 u.2.2) (fun u t => atC dC dI cA (Wl cA b1 b2 ad n u.1 u.2.1) (va_A (Wl cA b1 b2 ad n o d σ) sz) u.2.2 t) (va_A (Wl cA b1 b2 ad n o d σ) sz)) (vx_X (fun _ : Unit => False) (fun _ _ _ => True) (va_A (Wl cA b1 b2 ad n o d σ) sz)) 2 12 (va_A (Wl cA b1 b2 ad n o d σ) sz) := by
  refine vx_ofWH (cc := cL_kind) (maxL := 5) (ret := (some .int)) (hh := [(0, 7, 10, 13)]) (by decide) rfl ?_
  intro p e s m args below meth c s₁ B hml hv
  obtain ⟨rfl, ⟨hsz, hP, hK, hD0⟩, hT⟩ := hv
  have hx := B.exec
  have hb := B.bytes
  have hr := B.returns
  have hts := atoms_spec (ws := wsL_kind) B.pre
  have hown : s.vm.findClass RL = some m.cls := findClass_of_methodNamed B.named
  have hlocks := B.notSynchronized
  have htab : c.exceptionTable.toList = [⟨0, 7, 10, 13⟩] := vx_table (x := yL_kind) B (hts _ List.mem_cons_self)
  subst hsz
  have hD := hD0.self (sz := s.heap.size)
  clear hD0
  generalize hAe : va_A (Wl cA b1 b2 ad n o d σ) s.heap.size = A at hD hT ⊢
  have hA : ∀ q : Nat, s.heap.size ≤ q → A q := fun q h => by rw [← hAe]; exact Or.inr h
  have hl := lv_entry ([.ref (ad 8 0), .int a1, .int a2, .int a3]) (n := 5) (Nat.le_of_ble_eq_true rfl)
  rw [lg_entry_eq]
  generalize (lg_sl ([.ref (ad 8 0), .int a1, .int a2, .int a3]) ++ List.replicate (5 - (lg_sl ([.ref (ad 8 0), .int a1, .int a2, .int a3])).length) Slot.unset).toArray = ls at hl ⊢
  have hl : lv_has ls 5 [(0, .ref (ad 8 0)), (1, .int a1), (2, .int a2), (3, .int a3)] := hl
  unfold wp_L_kind at hwp
  generalize hHe : s.heap = H at hP ⊢
  have hS : va_S A s.heap H [] := by rw [← hHe]; exact va_S.rf
  clear hHe
  refine lv_aload_n hx hb dL_kind_0 rfl (lv_at hl 0 rfl) ?_
  refine lv_iload_n hx hb dL_kind_1 rfl (lv_at hl 1 rfl) ?_
  refine lv_iload_n hx hb dL_kind_2 rfl (lv_at hl 2 rfl) ?_
  refine lv_iload_n hx hb dL_kind_3 rfl (lv_at hl 3 rfl) ?_
  have hPc := rP hP
  have hDc := rD hD
  have hF := fA hDc hS hA
  refine vx_callv (vx_runV (As := [.int a1, .int a2, .int a3]) (rest := []) ⟨hx, hb, hml, hown, hts⟩ (c_X8_kind l hfl dC dI cA ad n σ a1 a2 a3 H.size _ _ hwp) (cwV 3 hts gL_kind_X8_kind rfl rfl rfl (by decide +kernel) ⟨Nat.le_of_ble_eq_true rfl, Nat.le_of_ble_eq_true rfl⟩) ⟨fbX, va_recv hK hPc (ci := 8) (q0 := 0) rfl atLq, fun U hU hW => ⟨rfl, ⟨by rw [hU], by rw [hU]; exact hPc, va_K.moved hW.alike hK, hDc.weaken (fun _ _ _ _ => trivial)⟩, hT.move hW hS hU hF⟩⟩ rfl rfl hl.1 rfl (lv_room (Nat.le_of_ble_eq_true rfl)) dL_kind_4 ⟨Nat.le_of_ble_eq_true rfl, Nat.le_of_ble_eq_true rfl⟩) hS (fun q _ h => hF q h) hF (fun q _ h => hF q h) (fun E ce q9 u t H1 locs ht hvm hpx hBX hz1 hk1 hS1 hce hcv hcl => ?_) (fun u t H1 locs ht hvm hwp hB hz1 hk1 hS => ?_)
  · obtain ⟨hE, hP1, hK1, hD1⟩ := hBX
    rw [ht] at hP1
    obtain ⟨hP, hD⟩ := jR hP hD hk1 hF hP1 hD1
    obtain ⟨hE2, hpx⟩ := hpx
    rw [hE] at hE2
    subst hE2
    refine vx_catch (E := "java/lang/IllegalArgumentException") (name := "java/lang/IllegalArgumentException") hown [] ⟨0, 7, 10, 13⟩ [] htab (fun z hz => nomatch hz) (by decide) (by decide) (hts (.classLink RL 13 "java/lang/IllegalArgumentException") (by decide +kernel)) (hT.2.2.1.use rfl) hce hcv hcl ?_
    refine lv_astore (lv' := [(4, .ref q9), (0, .ref (ad 8 0)), (1, .int a1), (2, .int a2), (3, .int a3)]) hx hb dL_kind_10 hl (by decide) rfl (fun ls hl => ?_)
    refine lv_iconst (v := 1) hx hb dL_kind_12 (by decide) ?_
    refine vx_ret ?_
    refine W.widen (k := 2) (n := 12) (Nat.le_of_ble_eq_true rfl) (Nat.le_of_ble_eq_true rfl) ?_
    exact W.iret (v := 1) hx hb hr (fun t ht hW => ⟨⟨1, (o, d, u.2), rfl, hpx, by rw [ht]; exact hP, va_K.moved hW.alike hK, hD⟩, hS1.F ht⟩) hS1.2.2 dL_kind_13
  · obtain ⟨hP1, hK1, hD1⟩ := hB
    rw [ht] at hP1
    obtain ⟨hP, hD⟩ := jR hP hD hk1 hF hP1 hD1
    refine lv_goto (tgt := 14) hx hb dL_kind_7 (by decide) ?_
    refine lv_iconst (v := 0) hx hb dL_kind_14 (by decide) ?_
    refine vx_ret ?_
    refine W.widen (k := 2) (n := 12) (Nat.le_of_ble_eq_true rfl) (Nat.le_of_ble_eq_true rfl) ?_
    exact W.iret (v := 0) hx hb hr (fun t ht hW => ⟨⟨0, (o, d, u), rfl, hwp, by rw [ht]; exact hP, va_K.moved hW.alike hK, hD⟩, hS.F ht⟩) hS.2.2 dL_kind_15
def wp_L_mean (n : Nat) (o : Nat → Int64) (d : Nat → UInt64) (σ : ST) (a1 : Int32) (a2 : UInt64) (a4 : UInt64) (a6 : UInt64) (a8 : UInt64) (K : Int32 → (Nat → Int64) → (Nat → UInt64) → ST → Prop) : Prop := wp_X8_mean n σ a1 a2 a4 a6 a8 (fun s1 => K 0 o d s1) (fun E s1 => E = "java/lang/IllegalArgumentException" ∧ K 1 o d s1)
set_option maxHeartbeats 8000000 in
set_option maxRecDepth 100000 in
theorem c_L_mean (l : Launch) (hfl : l.stackTraces = false) (dC : Nat → ClassId) (dI : Nat → Nat → Nat) (cA : Nat → ClassId) (b1 b2 : Nat) (ad : Nat → Nat → Nat) (n : Nat) (o : Nat → Int64) (d : Nat → UInt64) (σ : ST) (a1 : Int32) (a2 : UInt64) (a4 : UInt64) (a6 : UInt64) (a8 : UInt64) (sz : Nat) (K : Int32 → (Nat → Int64) → (Nat → UInt64) → ST → Prop) (hwp : wp_L_mean n o d σ a1 a2 a4 a6 a8 K) : vx_Met l yL_mean wsL_mean ({ frames := 8, cells := 2, slots := 12, locals := 142 } : Room) (va_Pc [.ref (ad 8 0), .int a1, .double a2, .double a4, .double a6, .double a8] (preX dC dI cA (Wl cA b1 b2 ad n o d σ) sz)) (va_Qi (fun (r : Int32) (u : (Nat → Int64) × (Nat → UInt64) × ST) => K r u.1 u.2.1 u.2.2) (fun u t => atC dC dI cA (Wl cA b1 b2 ad n u.1 u.2.1) (va_A (Wl cA b1 b2 ad n o d σ) sz) u.2.2 t) (va_A (Wl cA b1 b2 ad n o d σ) sz)) (vx_X (fun _ : Unit => False) (fun _ _ _ => True) (va_A (Wl cA b1 b2 ad n o d σ) sz)) 2 12 (va_A (Wl cA b1 b2 ad n o d σ) sz) := by
  refine vx_ofWH (cc := cL_mean) (maxL := 11) (ret := (some .int)) (hh := [(0, 12, 15, 13)]) (by decide) rfl ?_
  intro p e s m args below meth c s₁ B hml hv
  obtain ⟨rfl, ⟨hsz, hP, hK, hD0⟩, hT⟩ := hv
  have hx := B.exec
  have hb := B.bytes
  have hr := B.returns
  have hts := atoms_spec (ws := wsL_mean) B.pre
  have hown : s.vm.findClass RL = some m.cls := findClass_of_methodNamed B.named
  have hlocks := B.notSynchronized
  have htab : c.exceptionTable.toList = [⟨0, 12, 15, 13⟩] := vx_table (x := yL_mean) B (hts _ List.mem_cons_self)
  subst hsz
  have hD := hD0.self (sz := s.heap.size)
  clear hD0
  generalize hAe : va_A (Wl cA b1 b2 ad n o d σ) s.heap.size = A at hD hT ⊢
  have hA : ∀ q : Nat, s.heap.size ≤ q → A q := fun q h => by rw [← hAe]; exact Or.inr h
  have hl := lv_entry ([.ref (ad 8 0), .int a1, .double a2, .double a4, .double a6, .double a8]) (n := 11) (Nat.le_of_ble_eq_true rfl)
  rw [lg_entry_eq]
  generalize (lg_sl ([.ref (ad 8 0), .int a1, .double a2, .double a4, .double a6, .double a8]) ++ List.replicate (11 - (lg_sl ([.ref (ad 8 0), .int a1, .double a2, .double a4, .double a6, .double a8])).length) Slot.unset).toArray = ls at hl ⊢
  have hl : lv_has ls 11 [(0, .ref (ad 8 0)), (1, .int a1), (2, .double a2), (4, .double a4), (6, .double a6), (8, .double a8)] := hl
  unfold wp_L_mean at hwp
  generalize hHe : s.heap = H at hP ⊢
  have hS : va_S A s.heap H [] := by rw [← hHe]; exact va_S.rf
  clear hHe
  refine lv_aload_n hx hb dL_mean_0 rfl (lv_at hl 0 rfl) ?_
  refine lv_iload_n hx hb dL_mean_1 rfl (lv_at hl 1 rfl) ?_
  refine lv_dload_n hx hb dL_mean_2 rfl (lv_at hl 2 rfl) ?_
  refine lv_dload hx hb dL_mean_3 (lv_at hl 3 rfl) ?_
  refine lv_dload hx hb dL_mean_5 (lv_at hl 4 rfl) ?_
  refine lv_dload hx hb dL_mean_7 (lv_at hl 5 rfl) ?_
  have hPc := rP hP
  have hDc := rD hD
  have hF := fA hDc hS hA
  refine vx_callv (vx_runV (As := [.int a1, .double a2, .double a4, .double a6, .double a8]) (rest := []) ⟨hx, hb, hml, hown, hts⟩ (c_X8_mean l hfl dC dI cA ad n σ a1 a2 a4 a6 a8 H.size _ _ hwp) (cwV 5 hts gL_mean_X8_mean rfl rfl rfl (by decide +kernel) ⟨Nat.le_of_ble_eq_true rfl, Nat.le_of_ble_eq_true rfl⟩) ⟨fbX, va_recv hK hPc (ci := 8) (q0 := 0) rfl atLq, fun U hU hW => ⟨rfl, ⟨by rw [hU], by rw [hU]; exact hPc, va_K.moved hW.alike hK, hDc.weaken (fun _ _ _ _ => trivial)⟩, hT.move hW hS hU hF⟩⟩ rfl rfl hl.1 rfl (lv_room (Nat.le_of_ble_eq_true rfl)) dL_mean_9 ⟨Nat.le_of_ble_eq_true rfl, Nat.le_of_ble_eq_true rfl⟩) hS (fun q _ h => hF q h) hF (fun q _ h => hF q h) (fun E ce q9 u t H1 locs ht hvm hpx hBX hz1 hk1 hS1 hce hcv hcl => ?_) (fun u t H1 locs ht hvm hwp hB hz1 hk1 hS => ?_)
  · obtain ⟨hE, hP1, hK1, hD1⟩ := hBX
    rw [ht] at hP1
    obtain ⟨hP, hD⟩ := jR hP hD hk1 hF hP1 hD1
    obtain ⟨hE2, hpx⟩ := hpx
    rw [hE] at hE2
    subst hE2
    refine vx_catch (E := "java/lang/IllegalArgumentException") (name := "java/lang/IllegalArgumentException") hown [] ⟨0, 12, 15, 13⟩ [] htab (fun z hz => nomatch hz) (by decide) (by decide) (hts (.classLink RL 13 "java/lang/IllegalArgumentException") (by decide +kernel)) (hT.2.2.1.use rfl) hce hcv hcl ?_
    refine lv_astore (lv' := [(10, .ref q9), (0, .ref (ad 8 0)), (1, .int a1), (2, .double a2), (4, .double a4), (6, .double a6), (8, .double a8)]) hx hb dL_mean_15 hl (by decide) rfl (fun ls hl => ?_)
    refine lv_iconst (v := 1) hx hb dL_mean_17 (by decide) ?_
    refine vx_ret ?_
    refine W.widen (k := 2) (n := 12) (Nat.le_of_ble_eq_true rfl) (Nat.le_of_ble_eq_true rfl) ?_
    exact W.iret (v := 1) hx hb hr (fun t ht hW => ⟨⟨1, (o, d, u.2), rfl, hpx, by rw [ht]; exact hP, va_K.moved hW.alike hK, hD⟩, hS1.F ht⟩) hS1.2.2 dL_mean_18
  · obtain ⟨hP1, hK1, hD1⟩ := hB
    rw [ht] at hP1
    obtain ⟨hP, hD⟩ := jR hP hD hk1 hF hP1 hD1
    refine lv_goto (tgt := 19) hx hb dL_mean_12 (by decide) ?_
    refine lv_iconst (v := 0) hx hb dL_mean_19 (by decide) ?_
    refine vx_ret ?_
    refine W.widen (k := 2) (n := 12) (Nat.le_of_ble_eq_true rfl) (Nat.le_of_ble_eq_true rfl) ?_
    exact W.iret (v := 0) hx hb hr (fun t ht hW => ⟨⟨0, (o, d, u), rfl, hwp, by rw [ht]; exact hP, va_K.moved hW.alike hK, hD⟩, hS.F ht⟩) hS.2.2 dL_mean_20
def wp_L_delay (n : Nat) (o : Nat → Int64) (d : Nat → UInt64) (σ : ST) (a1 : Int32) (a2 : UInt64) (a4 : UInt64) (K : Int32 → (Nat → Int64) → (Nat → UInt64) → ST → Prop) : Prop := wp_X8_delay n σ a1 a2 a4 (fun s1 => K 0 o d s1) (fun E s1 => E = "java/lang/IllegalArgumentException" ∧ K 1 o d s1)
set_option maxHeartbeats 8000000 in
set_option maxRecDepth 100000 in
theorem c_L_delay (l : Launch) (hfl : l.stackTraces = false) (dC : Nat → ClassId) (dI : Nat → Nat → Nat) (cA : Nat → ClassId) (b1 b2 : Nat) (ad : Nat → Nat → Nat) (n : Nat) (o : Nat → Int64) (d : Nat → UInt64) (σ : ST) (a1 : Int32) (a2 : UInt64) (a4 : UInt64) (sz : Nat) (K : Int32 → (Nat → Int64) → (Nat → UInt64) → ST → Prop) (hwp : wp_L_delay n o d σ a1 a2 a4 K) : vx_Met l yL_delay wsL_delay ({ frames := 8, cells := 2, slots := 12, locals := 138 } : Room) (va_Pc [.ref (ad 8 0), .int a1, .double a2, .double a4] (preX dC dI cA (Wl cA b1 b2 ad n o d σ) sz)) (va_Qi (fun (r : Int32) (u : (Nat → Int64) × (Nat → UInt64) × ST) => K r u.1 u.2.1 u.2.2) (fun u t => atC dC dI cA (Wl cA b1 b2 ad n u.1 u.2.1) (va_A (Wl cA b1 b2 ad n o d σ) sz) u.2.2 t) (va_A (Wl cA b1 b2 ad n o d σ) sz)) (vx_X (fun _ : Unit => False) (fun _ _ _ => True) (va_A (Wl cA b1 b2 ad n o d σ) sz)) 2 12 (va_A (Wl cA b1 b2 ad n o d σ) sz) := by
  refine vx_ofWH (cc := cL_delay) (maxL := 7) (ret := (some .int)) (hh := [(0, 8, 11, 13)]) (by decide) rfl ?_
  intro p e s m args below meth c s₁ B hml hv
  obtain ⟨rfl, ⟨hsz, hP, hK, hD0⟩, hT⟩ := hv
  have hx := B.exec
  have hb := B.bytes
  have hr := B.returns
  have hts := atoms_spec (ws := wsL_delay) B.pre
  have hown : s.vm.findClass RL = some m.cls := findClass_of_methodNamed B.named
  have hlocks := B.notSynchronized
  have htab : c.exceptionTable.toList = [⟨0, 8, 11, 13⟩] := vx_table (x := yL_delay) B (hts _ List.mem_cons_self)
  subst hsz
  have hD := hD0.self (sz := s.heap.size)
  clear hD0
  generalize hAe : va_A (Wl cA b1 b2 ad n o d σ) s.heap.size = A at hD hT ⊢
  have hA : ∀ q : Nat, s.heap.size ≤ q → A q := fun q h => by rw [← hAe]; exact Or.inr h
  have hl := lv_entry ([.ref (ad 8 0), .int a1, .double a2, .double a4]) (n := 7) (Nat.le_of_ble_eq_true rfl)
  rw [lg_entry_eq]
  generalize (lg_sl ([.ref (ad 8 0), .int a1, .double a2, .double a4]) ++ List.replicate (7 - (lg_sl ([.ref (ad 8 0), .int a1, .double a2, .double a4])).length) Slot.unset).toArray = ls at hl ⊢
  have hl : lv_has ls 7 [(0, .ref (ad 8 0)), (1, .int a1), (2, .double a2), (4, .double a4)] := hl
  unfold wp_L_delay at hwp
  generalize hHe : s.heap = H at hP ⊢
  have hS : va_S A s.heap H [] := by rw [← hHe]; exact va_S.rf
  clear hHe
  refine lv_aload_n hx hb dL_delay_0 rfl (lv_at hl 0 rfl) ?_
  refine lv_iload_n hx hb dL_delay_1 rfl (lv_at hl 1 rfl) ?_
  refine lv_dload_n hx hb dL_delay_2 rfl (lv_at hl 2 rfl) ?_
  refine lv_dload hx hb dL_delay_3 (lv_at hl 3 rfl) ?_
  have hPc := rP hP
  have hDc := rD hD
  have hF := fA hDc hS hA
  refine vx_callv (vx_runV (As := [.int a1, .double a2, .double a4]) (rest := []) ⟨hx, hb, hml, hown, hts⟩ (c_X8_delay l hfl dC dI cA ad n σ a1 a2 a4 H.size _ _ hwp) (cwV 3 hts gL_delay_X8_delay rfl rfl rfl (by decide +kernel) ⟨Nat.le_of_ble_eq_true rfl, Nat.le_of_ble_eq_true rfl⟩) ⟨fbX, va_recv hK hPc (ci := 8) (q0 := 0) rfl atLq, fun U hU hW => ⟨rfl, ⟨by rw [hU], by rw [hU]; exact hPc, va_K.moved hW.alike hK, hDc.weaken (fun _ _ _ _ => trivial)⟩, hT.move hW hS hU hF⟩⟩ rfl rfl hl.1 rfl (lv_room (Nat.le_of_ble_eq_true rfl)) dL_delay_5 ⟨Nat.le_of_ble_eq_true rfl, Nat.le_of_ble_eq_true rfl⟩) hS (fun q _ h => hF q h) hF (fun q _ h => hF q h) (fun E ce q9 u t H1 locs ht hvm hpx hBX hz1 hk1 hS1 hce hcv hcl => ?_) (fun u t H1 locs ht hvm hwp hB hz1 hk1 hS => ?_)
  · obtain ⟨hE, hP1, hK1, hD1⟩ := hBX
    rw [ht] at hP1
    obtain ⟨hP, hD⟩ := jR hP hD hk1 hF hP1 hD1
    obtain ⟨hE2, hpx⟩ := hpx
    rw [hE] at hE2
    subst hE2
    refine vx_catch (E := "java/lang/IllegalArgumentException") (name := "java/lang/IllegalArgumentException") hown [] ⟨0, 8, 11, 13⟩ [] htab (fun z hz => nomatch hz) (by decide) (by decide) (hts (.classLink RL 13 "java/lang/IllegalArgumentException") (by decide +kernel)) (hT.2.2.1.use rfl) hce hcv hcl ?_
    refine lv_astore (lv' := [(6, .ref q9), (0, .ref (ad 8 0)), (1, .int a1), (2, .double a2), (4, .double a4)]) hx hb dL_delay_11 hl (by decide) rfl (fun ls hl => ?_)
    refine lv_iconst (v := 1) hx hb dL_delay_13 (by decide) ?_
    refine vx_ret ?_
    refine W.widen (k := 2) (n := 12) (Nat.le_of_ble_eq_true rfl) (Nat.le_of_ble_eq_true rfl) ?_
    exact W.iret (v := 1) hx hb hr (fun t ht hW => ⟨⟨1, (o, d, u.2), rfl, hpx, by rw [ht]; exact hP, va_K.moved hW.alike hK, hD⟩, hS1.F ht⟩) hS1.2.2 dL_delay_14
  · obtain ⟨hP1, hK1, hD1⟩ := hB
    rw [ht] at hP1
    obtain ⟨hP, hD⟩ := jR hP hD hk1 hF hP1 hD1
    refine lv_goto (tgt := 15) hx hb dL_delay_8 (by decide) ?_
    refine lv_iconst (v := 0) hx hb dL_delay_15 (by decide) ?_
    refine vx_ret ?_
    refine W.widen (k := 2) (n := 12) (Nat.le_of_ble_eq_true rfl) (Nat.le_of_ble_eq_true rfl) ?_
    exact W.iret (v := 0) hx hb hr (fun t ht hW => ⟨⟨0, (o, d, u), rfl, hwp, by rw [ht]; exact hP, va_K.moved hW.alike hK, hD⟩, hS.F ht⟩) hS.2.2 dL_delay_16
def wp_L_link (n : Nat) (o : Nat → Int64) (d : Nat → UInt64) (σ : ST) (a1 : UInt64) (a3 : Int32) (K : Int32 → (Nat → Int64) → (Nat → UInt64) → ST → Prop) : Prop := wp_X8_link n σ a1 a3 (fun s1 => K 0 o d s1) (fun E s1 => E = "java/lang/IllegalArgumentException" ∧ K 1 o d s1)
set_option maxHeartbeats 8000000 in
set_option maxRecDepth 100000 in
theorem c_L_link (l : Launch) (hfl : l.stackTraces = false) (dC : Nat → ClassId) (dI : Nat → Nat → Nat) (cA : Nat → ClassId) (b1 b2 : Nat) (ad : Nat → Nat → Nat) (n : Nat) (o : Nat → Int64) (d : Nat → UInt64) (σ : ST) (a1 : UInt64) (a3 : Int32) (sz : Nat) (K : Int32 → (Nat → Int64) → (Nat → UInt64) → ST → Prop) (hwp : wp_L_link n o d σ a1 a3 K) : vx_Met l yL_link wsL_link ({ frames := 7, cells := 2, slots := 12, locals := 113 } : Room) (va_Pc [.ref (ad 8 0), .double a1, .int a3] (preX dC dI cA (Wl cA b1 b2 ad n o d σ) sz)) (va_Qi (fun (r : Int32) (u : (Nat → Int64) × (Nat → UInt64) × ST) => K r u.1 u.2.1 u.2.2) (fun u t => atC dC dI cA (Wl cA b1 b2 ad n u.1 u.2.1) (va_A (Wl cA b1 b2 ad n o d σ) sz) u.2.2 t) (va_A (Wl cA b1 b2 ad n o d σ) sz)) (vx_X (fun _ : Unit => False) (fun _ _ _ => True) (va_A (Wl cA b1 b2 ad n o d σ) sz)) 2 12 (va_A (Wl cA b1 b2 ad n o d σ) sz) := by
  refine vx_ofWH (cc := cL_link) (maxL := 5) (ret := (some .int)) (hh := [(0, 6, 9, 13)]) (by decide) rfl ?_
  intro p e s m args below meth c s₁ B hml hv
  obtain ⟨rfl, ⟨hsz, hP, hK, hD0⟩, hT⟩ := hv
  have hx := B.exec
  have hb := B.bytes
  have hr := B.returns
  have hts := atoms_spec (ws := wsL_link) B.pre
  have hown : s.vm.findClass RL = some m.cls := findClass_of_methodNamed B.named
  have hlocks := B.notSynchronized
  have htab : c.exceptionTable.toList = [⟨0, 6, 9, 13⟩] := vx_table (x := yL_link) B (hts _ List.mem_cons_self)
  subst hsz
  have hD := hD0.self (sz := s.heap.size)
  clear hD0
  generalize hAe : va_A (Wl cA b1 b2 ad n o d σ) s.heap.size = A at hD hT ⊢
  have hA : ∀ q : Nat, s.heap.size ≤ q → A q := fun q h => by rw [← hAe]; exact Or.inr h
  have hl := lv_entry ([.ref (ad 8 0), .double a1, .int a3]) (n := 5) (Nat.le_of_ble_eq_true rfl)
  rw [lg_entry_eq]
  generalize (lg_sl ([.ref (ad 8 0), .double a1, .int a3]) ++ List.replicate (5 - (lg_sl ([.ref (ad 8 0), .double a1, .int a3])).length) Slot.unset).toArray = ls at hl ⊢
  have hl : lv_has ls 5 [(0, .ref (ad 8 0)), (1, .double a1), (3, .int a3)] := hl
  unfold wp_L_link at hwp
  generalize hHe : s.heap = H at hP ⊢
  have hS : va_S A s.heap H [] := by rw [← hHe]; exact va_S.rf
  clear hHe
  refine lv_aload_n hx hb dL_link_0 rfl (lv_at hl 0 rfl) ?_
  refine lv_dload_n hx hb dL_link_1 rfl (lv_at hl 1 rfl) ?_
  refine lv_iload_n hx hb dL_link_2 rfl (lv_at hl 2 rfl) ?_
  have hPc := rP hP
  have hDc := rD hD
  have hF := fA hDc hS hA
  refine vx_callv (vx_runV (As := [.double a1, .int a3]) (rest := []) ⟨hx, hb, hml, hown, hts⟩ (c_X8_link l hfl dC dI cA ad n σ a1 a3 H.size _ _ hwp) (cwV 2 hts gL_link_X8_link rfl rfl rfl (by decide +kernel) ⟨Nat.le_of_ble_eq_true rfl, Nat.le_of_ble_eq_true rfl⟩) ⟨fbX, va_recv hK hPc (ci := 8) (q0 := 0) rfl atLq, fun U hU hW => ⟨rfl, ⟨by rw [hU], by rw [hU]; exact hPc, va_K.moved hW.alike hK, hDc.weaken (fun _ _ _ _ => trivial)⟩, hT.move hW hS hU hF⟩⟩ rfl rfl hl.1 rfl (lv_room (Nat.le_of_ble_eq_true rfl)) dL_link_3 ⟨Nat.le_of_ble_eq_true rfl, Nat.le_of_ble_eq_true rfl⟩) hS (fun q _ h => hF q h) hF (fun q _ h => hF q h) (fun E ce q9 u t H1 locs ht hvm hpx hBX hz1 hk1 hS1 hce hcv hcl => ?_) (fun u t H1 locs ht hvm hwp hB hz1 hk1 hS => ?_)
  · obtain ⟨hE, hP1, hK1, hD1⟩ := hBX
    rw [ht] at hP1
    obtain ⟨hP, hD⟩ := jR hP hD hk1 hF hP1 hD1
    obtain ⟨hE2, hpx⟩ := hpx
    rw [hE] at hE2
    subst hE2
    refine vx_catch (E := "java/lang/IllegalArgumentException") (name := "java/lang/IllegalArgumentException") hown [] ⟨0, 6, 9, 13⟩ [] htab (fun z hz => nomatch hz) (by decide) (by decide) (hts (.classLink RL 13 "java/lang/IllegalArgumentException") (by decide +kernel)) (hT.2.2.1.use rfl) hce hcv hcl ?_
    refine lv_astore (lv' := [(4, .ref q9), (0, .ref (ad 8 0)), (1, .double a1), (3, .int a3)]) hx hb dL_link_9 hl (by decide) rfl (fun ls hl => ?_)
    refine lv_iconst (v := 1) hx hb dL_link_11 (by decide) ?_
    refine vx_ret ?_
    refine W.widen (k := 2) (n := 12) (Nat.le_of_ble_eq_true rfl) (Nat.le_of_ble_eq_true rfl) ?_
    exact W.iret (v := 1) hx hb hr (fun t ht hW => ⟨⟨1, (o, d, u.2), rfl, hpx, by rw [ht]; exact hP, va_K.moved hW.alike hK, hD⟩, hS1.F ht⟩) hS1.2.2 dL_link_12
  · obtain ⟨hP1, hK1, hD1⟩ := hB
    rw [ht] at hP1
    obtain ⟨hP, hD⟩ := jR hP hD hk1 hF hP1 hD1
    refine lv_goto (tgt := 13) hx hb dL_link_6 (by decide) ?_
    refine lv_iconst (v := 0) hx hb dL_link_13 (by decide) ?_
    refine vx_ret ?_
    refine W.widen (k := 2) (n := 12) (Nat.le_of_ble_eq_true rfl) (Nat.le_of_ble_eq_true rfl) ?_
    exact W.iret (v := 0) hx hb hr (fun t ht hW => ⟨⟨0, (o, d, u), rfl, hwp, by rw [ht]; exact hP, va_K.moved hW.alike hK, hD⟩, hS.F ht⟩) hS.2.2 dL_link_14
def wp_L_coin (n : Nat) (o : Nat → Int64) (d : Nat → UInt64) (σ : ST) (a1 : UInt64) (K : Int32 → (Nat → Int64) → (Nat → UInt64) → ST → Prop) : Prop := wp_X8_coin n σ a1 (fun r s1 => K 0 (vp_updL o (0 : Int32).toNatClampNeg r.toInt64) d s1) (fun E s1 => (E = "java/lang/IllegalArgumentException" ∧ K 1 o d s1) ∨ (E = "java/lang/IllegalStateException" ∧ K 2 o d s1))
set_option maxHeartbeats 8000000 in
set_option maxRecDepth 100000 in
theorem c_L_coin (l : Launch) (hfl : l.stackTraces = false) (dC : Nat → ClassId) (dI : Nat → Nat → Nat) (cA : Nat → ClassId) (b1 b2 : Nat) (ad : Nat → Nat → Nat) (n : Nat) (o : Nat → Int64) (d : Nat → UInt64) (σ : ST) (a1 : UInt64) (sz : Nat) (K : Int32 → (Nat → Int64) → (Nat → UInt64) → ST → Prop) (hwp : wp_L_coin n o d σ a1 K) : vx_Met l yL_coin wsL_coin ({ frames := 7, cells := 2, slots := 12, locals := 112 } : Room) (va_Pc [.ref (ad 8 0), .double a1, .ref b1] (preX dC dI cA (Wl cA b1 b2 ad n o d σ) sz)) (va_Qi (fun (r : Int32) (u : (Nat → Int64) × (Nat → UInt64) × ST) => K r u.1 u.2.1 u.2.2) (fun u t => atC dC dI cA (Wl cA b1 b2 ad n u.1 u.2.1) (va_A (Wl cA b1 b2 ad n o d σ) sz) u.2.2 t) (va_A (Wl cA b1 b2 ad n o d σ) sz)) (vx_X (fun _ : Unit => False) (fun _ _ _ => True) (va_A (Wl cA b1 b2 ad n o d σ) sz)) 2 12 (va_A (Wl cA b1 b2 ad n o d σ) sz) := by
  refine vx_ofWH (cc := cL_coin) (maxL := 5) (ret := (some .int)) (hh := [(0, 9, 12, 13), (0, 9, 16, 31)]) (by decide) rfl ?_
  intro p e s m args below meth c s₁ B hml hv
  obtain ⟨rfl, ⟨hsz, hP, hK, hD0⟩, hT⟩ := hv
  have hx := B.exec
  have hb := B.bytes
  have hr := B.returns
  have hts := atoms_spec (ws := wsL_coin) B.pre
  have hown : s.vm.findClass RL = some m.cls := findClass_of_methodNamed B.named
  have hlocks := B.notSynchronized
  have htab : c.exceptionTable.toList = [⟨0, 9, 12, 13⟩, ⟨0, 9, 16, 31⟩] := vx_table (x := yL_coin) B (hts _ List.mem_cons_self)
  subst hsz
  have hD := hD0.self (sz := s.heap.size)
  clear hD0
  generalize hAe : va_A (Wl cA b1 b2 ad n o d σ) s.heap.size = A at hD hT ⊢
  have hA : ∀ q : Nat, s.heap.size ≤ q → A q := fun q h => by rw [← hAe]; exact Or.inr h
  have hl := lv_entry ([.ref (ad 8 0), .double a1, .ref b1]) (n := 5) (Nat.le_of_ble_eq_true rfl)
  rw [lg_entry_eq]
  generalize (lg_sl ([.ref (ad 8 0), .double a1, .ref b1]) ++ List.replicate (5 - (lg_sl ([.ref (ad 8 0), .double a1, .ref b1])).length) Slot.unset).toArray = ls at hl ⊢
  have hl : lv_has ls 5 [(0, .ref (ad 8 0)), (1, .double a1), (3, .ref b1)] := hl
  unfold wp_L_coin at hwp
  generalize hHe : s.heap = H at hP ⊢
  have hS : va_S A s.heap H [] := by rw [← hHe]; exact va_S.rf
  clear hHe
  refine lv_aload_n hx hb dL_coin_0 rfl (lv_at hl 2 rfl) ?_
  refine lv_iconst (v := 0) hx hb dL_coin_1 (by decide) ?_
  refine lv_aload_n hx hb dL_coin_2 rfl (lv_at hl 0 rfl) ?_
  refine lv_dload_n hx hb dL_coin_3 rfl (lv_at hl 1 rfl) ?_
  have hPc := rP hP
  have hDc := rD hD
  have hF := fA hDc hS hA
  refine vx_calli (vx_runV (As := [.double a1]) (rest := [.int 0, .ref b1]) ⟨hx, hb, hml, hown, hts⟩ (c_X8_coin l hfl dC dI cA ad n σ a1 H.size _ _ hwp) (cwV 1 hts gL_coin_X8_coin rfl rfl rfl (by decide +kernel) ⟨Nat.le_of_ble_eq_true rfl, Nat.le_of_ble_eq_true rfl⟩) ⟨fbX, va_recv hK hPc (ci := 8) (q0 := 0) rfl atLq, fun U hU hW => ⟨rfl, ⟨by rw [hU], by rw [hU]; exact hPc, va_K.moved hW.alike hK, hDc.weaken (fun _ _ _ _ => trivial)⟩, hT.move hW hS hU hF⟩⟩ rfl rfl hl.1 rfl (lv_room (Nat.le_of_ble_eq_true rfl)) dL_coin_4 ⟨Nat.le_of_ble_eq_true rfl, Nat.le_of_ble_eq_true rfl⟩) hS (fun q _ h => hF q h) hF (fun q _ h => hF q h) (fun E ce q9 u t H1 locs ht hvm hpx hBX hz1 hk1 hS1 hce hcv hcl => ?_) (fun r u t H1 locs ht hvm hwp hB hz1 hk1 hS => ?_)
  · obtain ⟨hE, hP1, hK1, hD1⟩ := hBX
    rw [ht] at hP1
    obtain ⟨hP, hD⟩ := jR hP hD hk1 hF hP1 hD1
    rcases hpx with hpx | hpx
    · obtain ⟨hE2, hpx⟩ := hpx
      rw [hE] at hE2
      subst hE2
      refine vx_catch (E := "java/lang/IllegalArgumentException") (name := "java/lang/IllegalArgumentException") hown [] ⟨0, 9, 12, 13⟩ [⟨0, 9, 16, 31⟩] htab (fun z hz => nomatch hz) (by decide) (by decide) (hts (.classLink RL 13 "java/lang/IllegalArgumentException") (by decide +kernel)) (hT.2.2.1.use rfl) hce hcv hcl ?_
      refine lv_astore (lv' := [(4, .ref q9), (0, .ref (ad 8 0)), (1, .double a1), (3, .ref b1)]) hx hb dL_coin_12 hl (by decide) rfl (fun ls hl => ?_)
      refine lv_iconst (v := 1) hx hb dL_coin_14 (by decide) ?_
      refine vx_ret ?_
      refine W.widen (k := 2) (n := 12) (Nat.le_of_ble_eq_true rfl) (Nat.le_of_ble_eq_true rfl) ?_
      exact W.iret (v := 1) hx hb hr (fun t ht hW => ⟨⟨1, (o, d, u.2), rfl, hpx, by rw [ht]; exact hP, va_K.moved hW.alike hK, hD⟩, hS1.F ht⟩) hS1.2.2 dL_coin_15
    · obtain ⟨hE2, hpx⟩ := hpx
      rw [hE] at hE2
      subst hE2
      refine vx_catch (E := "java/lang/IllegalStateException") (name := "java/lang/IllegalStateException") hown [⟨0, 9, 12, 13⟩] ⟨0, 9, 16, 31⟩ [] htab (fun z hz => Or.inr (by rcases List.mem_singleton.mp hz with rfl; exact ⟨by decide, "java/lang/IllegalArgumentException", hts (.classLink RL 13 "java/lang/IllegalArgumentException") (by decide +kernel), hT.2.2.2.2.2.2.2.1⟩)) (by decide) (by decide) (hts (.classLink RL 31 "java/lang/IllegalStateException") (by decide +kernel)) (hT.2.2.2.1.use rfl) hce hcv hcl ?_
      refine lv_astore (lv' := [(4, .ref q9), (0, .ref (ad 8 0)), (1, .double a1), (3, .ref b1)]) hx hb dL_coin_16 hl (by decide) rfl (fun ls hl => ?_)
      refine lv_iconst (v := 2) hx hb dL_coin_18 (by decide) ?_
      refine vx_ret ?_
      refine W.widen (k := 2) (n := 12) (Nat.le_of_ble_eq_true rfl) (Nat.le_of_ble_eq_true rfl) ?_
      exact W.iret (v := 2) hx hb hr (fun t ht hW => ⟨⟨2, (o, d, u.2), rfl, hpx, by rw [ht]; exact hP, va_K.moved hW.alike hK, hD⟩, hS1.F ht⟩) hS1.2.2 dL_coin_19
  · obtain ⟨hP1, hK1, hD1⟩ := hB
    rw [ht] at hP1
    obtain ⟨hP, hD⟩ := jR hP hD hk1 hF hP1 hD1
    refine lv_i2l (v := r.toInt64) hx hb dL_coin_7 rfl ?_
    refine va_last (D := (dC, dI)) hx hb hK hP hD hS 0 5 (ha := rfl) (ht := rfl) (vp_in_nI (n := 0) (N := 1) (by decide) (by decide)) dL_coin_8 (fun H locs hP hD hS => ?_)
    have hP : va_P (dC, dI) vwCl (Wo cA b1 b2 (vp_updL o (0 : Int32).toNatClampNeg r.toInt64) d ++ Wc cA ad n u) H := hP
    have hD : va_D A (Wo cA b1 b2 (vp_updL o (0 : Int32).toNatClampNeg r.toInt64) d ++ Wc cA ad n u) := hD
    refine lv_goto (tgt := 20) hx hb dL_coin_9 (by decide) ?_
    refine lv_iconst (v := 0) hx hb dL_coin_20 (by decide) ?_
    refine vx_ret ?_
    refine W.widen (k := 2) (n := 12) (Nat.le_of_ble_eq_true rfl) (Nat.le_of_ble_eq_true rfl) ?_
    exact W.iret (v := 0) hx hb hr (fun t ht hW => ⟨⟨0, ((vp_updL o (0 : Int32).toNatClampNeg r.toInt64), d, u), rfl, hwp, by rw [ht]; exact hP, va_K.moved hW.alike hK, hD⟩, hS.F ht⟩) hS.2.2 dL_coin_21
def wp_L_come (n : Nat) (o : Nat → Int64) (d : Nat → UInt64) (σ : ST) (a1 : Int32) (a2 : Int32) (a3 : Int32) (K : Int32 → (Nat → Int64) → (Nat → UInt64) → Nat → ST → Prop) : Prop := wp_X8_come n σ a1 a2 a3 (fun r n1 s1 => K 0 (vp_updL o (0 : Int32).toNatClampNeg r.toInt64) d n1 s1) (fun E s1 => E = "java/lang/IllegalArgumentException" ∧ K 1 o d n s1)
set_option maxHeartbeats 8000000 in
set_option maxRecDepth 100000 in
theorem c_L_come (l : Launch) (hfl : l.stackTraces = false) (dC : Nat → ClassId) (dI : Nat → Nat → Nat) (cA : Nat → ClassId) (b1 b2 : Nat) (ad : Nat → Nat → Nat) (n : Nat) (o : Nat → Int64) (d : Nat → UInt64) (σ : ST) (a1 : Int32) (a2 : Int32) (a3 : Int32) (sz : Nat) (K : Int32 → (Nat → Int64) → (Nat → UInt64) → Nat → ST → Prop) (hwp : wp_L_come n o d σ a1 a2 a3 K) : vx_Met l yL_come wsL_come ({ frames := 8, cells := 2, slots := 14, locals := 137 } : Room) (va_Pc [.ref (ad 8 0), .int a1, .int a2, .int a3, .ref b1] (preX dC dI cA (Wl cA b1 b2 ad n o d σ) sz)) (va_Qi (fun (r : Int32) (u : (Nat → Int64) × (Nat → UInt64) × ST × (Nat → Nat → Nat) × Nat) => K r u.1 u.2.1 u.2.2.2.2 u.2.2.1) (fun u t => atC dC dI cA (Wl cA b1 b2 u.2.2.2.1 u.2.2.2.2 u.1 u.2.1) (va_A (Wl cA b1 b2 ad n o d σ) sz) u.2.2.1 t ∧ u.2.2.2.1 8 0 = ad 8 0) (va_A (Wl cA b1 b2 ad n o d σ) sz)) (vx_X (fun _ : Unit => False) (fun _ _ _ => True) (va_A (Wl cA b1 b2 ad n o d σ) sz)) 2 14 (va_A (Wl cA b1 b2 ad n o d σ) sz) := by
  refine vx_ofWH (cc := cL_come) (maxL := 6) (ret := (some .int)) (hh := [(0, 12, 15, 13)]) (by decide) rfl ?_
  intro p e s m args below meth c s₁ B hml hv
  obtain ⟨rfl, ⟨hsz, hP, hK, hD0⟩, hT⟩ := hv
  have hx := B.exec
  have hb := B.bytes
  have hr := B.returns
  have hts := atoms_spec (ws := wsL_come) B.pre
  have hown : s.vm.findClass RL = some m.cls := findClass_of_methodNamed B.named
  have hlocks := B.notSynchronized
  have htab : c.exceptionTable.toList = [⟨0, 12, 15, 13⟩] := vx_table (x := yL_come) B (hts _ List.mem_cons_self)
  subst hsz
  have hD := hD0.self (sz := s.heap.size)
  clear hD0
  generalize hAe : va_A (Wl cA b1 b2 ad n o d σ) s.heap.size = A at hD hT ⊢
  have hA : ∀ q : Nat, s.heap.size ≤ q → A q := fun q h => by rw [← hAe]; exact Or.inr h
  have hl := lv_entry ([.ref (ad 8 0), .int a1, .int a2, .int a3, .ref b1]) (n := 6) (Nat.le_of_ble_eq_true rfl)
  rw [lg_entry_eq]
  generalize (lg_sl ([.ref (ad 8 0), .int a1, .int a2, .int a3, .ref b1]) ++ List.replicate (6 - (lg_sl ([.ref (ad 8 0), .int a1, .int a2, .int a3, .ref b1])).length) Slot.unset).toArray = ls at hl ⊢
  have hl : lv_has ls 6 [(0, .ref (ad 8 0)), (1, .int a1), (2, .int a2), (3, .int a3), (4, .ref b1)] := hl
  unfold wp_L_come at hwp
  generalize hHe : s.heap = H at hP ⊢
  have hS : va_S A s.heap H [] := by rw [← hHe]; exact va_S.rf
  clear hHe
  refine lv_aload hx hb dL_come_0 (lv_at hl 4 rfl) ?_
  refine lv_iconst (v := 0) hx hb dL_come_2 (by decide) ?_
  refine lv_aload_n hx hb dL_come_3 rfl (lv_at hl 0 rfl) ?_
  refine lv_iload_n hx hb dL_come_4 rfl (lv_at hl 1 rfl) ?_
  refine lv_iload_n hx hb dL_come_5 rfl (lv_at hl 2 rfl) ?_
  refine lv_iload_n hx hb dL_come_6 rfl (lv_at hl 3 rfl) ?_
  have hPc := rP hP
  have hDc := rD hD
  have hF := fA hDc hS hA
  refine vx_calli (vx_runV (As := [.int a1, .int a2, .int a3]) (rest := [.int 0, .ref b1]) ⟨hx, hb, hml, hown, hts⟩ (c_X8_come l hfl dC dI cA ad n σ a1 a2 a3 H.size _ _ hwp) (cwV 3 hts gL_come_X8_come rfl rfl rfl (by decide +kernel) ⟨Nat.le_of_ble_eq_true rfl, Nat.le_of_ble_eq_true rfl⟩) ⟨fbX, va_recv hK hPc (ci := 8) (q0 := 0) rfl atLq, fun U hU hW => ⟨rfl, ⟨by rw [hU], by rw [hU]; exact hPc, va_K.moved hW.alike hK, hDc.weaken (fun _ _ _ _ => trivial)⟩, hT.move hW hS hU hF⟩⟩ rfl rfl hl.1 rfl (lv_room (Nat.le_of_ble_eq_true rfl)) dL_come_7 ⟨Nat.le_of_ble_eq_true rfl, Nat.le_of_ble_eq_true rfl⟩) hS (fun q _ h => hF q h) hF (fun q _ h => hF q h) (fun E ce q9 u t H1 locs ht hvm hpx hBX hz1 hk1 hS1 hce hcv hcl => ?_) (fun r u t H1 locs ht hvm hwp hB hz1 hk1 hS => ?_)
  · obtain ⟨hE, hP1, hK1, hD1⟩ := hBX
    rw [ht] at hP1
    obtain ⟨hP, hD⟩ := jR hP hD hk1 hF hP1 hD1
    obtain ⟨hE2, hpx⟩ := hpx
    rw [hE] at hE2
    subst hE2
    refine vx_catch (E := "java/lang/IllegalArgumentException") (name := "java/lang/IllegalArgumentException") hown [] ⟨0, 12, 15, 13⟩ [] htab (fun z hz => nomatch hz) (by decide) (by decide) (hts (.classLink RL 13 "java/lang/IllegalArgumentException") (by decide +kernel)) (hT.2.2.1.use rfl) hce hcv hcl ?_
    refine lv_astore (lv' := [(5, .ref q9), (0, .ref (ad 8 0)), (1, .int a1), (2, .int a2), (3, .int a3), (4, .ref b1)]) hx hb dL_come_15 hl (by decide) rfl (fun ls hl => ?_)
    refine lv_iconst (v := 1) hx hb dL_come_17 (by decide) ?_
    refine vx_ret ?_
    refine W.widen (k := 2) (n := 14) (Nat.le_of_ble_eq_true rfl) (Nat.le_of_ble_eq_true rfl) ?_
    exact W.iret (v := 1) hx hb hr (fun t ht hW => ⟨⟨1, (o, d, u.2, ad, n), rfl, hpx, ⟨by rw [ht]; exact hP, va_K.moved hW.alike hK, hD⟩, rfl⟩, hS1.F ht⟩) hS1.2.2 dL_come_18
  · obtain ⟨⟨hP1, hK1, hD1⟩, had⟩ := hB
    rw [ht] at hP1
    obtain ⟨hP, hD⟩ := jR hP hD hk1 hF hP1 hD1
    obtain ⟨s1, ad1, n1⟩ := u
    have hP : va_P (dC, dI) vwCl (Wo cA b1 b2 o d ++ Wc cA ad1 n1 s1) H1 := hP
    have hD : va_D A (Wo cA b1 b2 o d ++ Wc cA ad1 n1 s1) := hD
    refine lv_i2l (v := r.toInt64) hx hb dL_come_10 rfl ?_
    refine va_last (D := (dC, dI)) hx hb hK hP hD hS 0 5 (ha := rfl) (ht := rfl) (vp_in_nI (n := 0) (N := 1) (by decide) (by decide)) dL_come_11 (fun H locs hP hD hS => ?_)
    have hP : va_P (dC, dI) vwCl (Wo cA b1 b2 (vp_updL o (0 : Int32).toNatClampNeg r.toInt64) d ++ Wc cA ad1 n1 s1) H := hP
    have hD : va_D A (Wo cA b1 b2 (vp_updL o (0 : Int32).toNatClampNeg r.toInt64) d ++ Wc cA ad1 n1 s1) := hD
    refine lv_goto (tgt := 19) hx hb dL_come_12 (by decide) ?_
    refine lv_iconst (v := 0) hx hb dL_come_19 (by decide) ?_
    refine vx_ret ?_
    refine W.widen (k := 2) (n := 14) (Nat.le_of_ble_eq_true rfl) (Nat.le_of_ble_eq_true rfl) ?_
    exact W.iret (v := 0) hx hb hr (fun t ht hW => ⟨⟨0, ((vp_updL o (0 : Int32).toNatClampNeg r.toInt64), d, s1, ad1, n1), rfl, hwp, ⟨by rw [ht]; exact hP, va_K.moved hW.alike hK, hD⟩, had⟩, hS.F ht⟩) hS.2.2 dL_come_20
def wp_L_tick (n : Nat) (o : Nat → Int64) (d : Nat → UInt64) (σ : ST) (a1 : Int32) (K : Int32 → (Nat → Int64) → (Nat → UInt64) → ST → Prop) : Prop := wp_X8_tick n σ a1 (fun r s1 => K 0 (vp_updL o (0 : Int32).toNatClampNeg r.toInt64) d s1) (fun E s1 => E = "java/lang/IllegalArgumentException" ∧ K 1 o d s1)
set_option maxHeartbeats 8000000 in
set_option maxRecDepth 100000 in
theorem c_L_tick (l : Launch) (hfl : l.stackTraces = false) (dC : Nat → ClassId) (dI : Nat → Nat → Nat) (cA : Nat → ClassId) (b1 b2 : Nat) (ad : Nat → Nat → Nat) (n : Nat) (o : Nat → Int64) (d : Nat → UInt64) (σ : ST) (a1 : Int32) (sz : Nat) (K : Int32 → (Nat → Int64) → (Nat → UInt64) → ST → Prop) (hwp : wp_L_tick n o d σ a1 K) : vx_Met l yL_tick wsL_tick ({ frames := 7, cells := 2, slots := 12, locals := 158 } : Room) (va_Pc [.ref (ad 8 0), .int a1, .ref b1] (preX dC dI cA (Wl cA b1 b2 ad n o d σ) sz)) (va_Qi (fun (r : Int32) (u : (Nat → Int64) × (Nat → UInt64) × ST) => K r u.1 u.2.1 u.2.2) (fun u t => atC dC dI cA (Wl cA b1 b2 ad n u.1 u.2.1) (va_A (Wl cA b1 b2 ad n o d σ) sz) u.2.2 t) (va_A (Wl cA b1 b2 ad n o d σ) sz)) (vx_X (fun _ : Unit => False) (fun _ _ _ => True) (va_A (Wl cA b1 b2 ad n o d σ) sz)) 2 12 (va_A (Wl cA b1 b2 ad n o d σ) sz) := by
  refine vx_ofWH (cc := cL_tick) (maxL := 4) (ret := (some .int)) (hh := [(0, 9, 12, 13)]) (by decide) rfl ?_
  intro p e s m args below meth c s₁ B hml hv
  obtain ⟨rfl, ⟨hsz, hP, hK, hD0⟩, hT⟩ := hv
  have hx := B.exec
  have hb := B.bytes
  have hr := B.returns
  have hts := atoms_spec (ws := wsL_tick) B.pre
  have hown : s.vm.findClass RL = some m.cls := findClass_of_methodNamed B.named
  have hlocks := B.notSynchronized
  have htab : c.exceptionTable.toList = [⟨0, 9, 12, 13⟩] := vx_table (x := yL_tick) B (hts _ List.mem_cons_self)
  subst hsz
  have hD := hD0.self (sz := s.heap.size)
  clear hD0
  generalize hAe : va_A (Wl cA b1 b2 ad n o d σ) s.heap.size = A at hD hT ⊢
  have hA : ∀ q : Nat, s.heap.size ≤ q → A q := fun q h => by rw [← hAe]; exact Or.inr h
  have hl := lv_entry ([.ref (ad 8 0), .int a1, .ref b1]) (n := 4) (Nat.le_of_ble_eq_true rfl)
  rw [lg_entry_eq]
  generalize (lg_sl ([.ref (ad 8 0), .int a1, .ref b1]) ++ List.replicate (4 - (lg_sl ([.ref (ad 8 0), .int a1, .ref b1])).length) Slot.unset).toArray = ls at hl ⊢
  have hl : lv_has ls 4 [(0, .ref (ad 8 0)), (1, .int a1), (2, .ref b1)] := hl
  unfold wp_L_tick at hwp
  generalize hHe : s.heap = H at hP ⊢
  have hS : va_S A s.heap H [] := by rw [← hHe]; exact va_S.rf
  clear hHe
  refine lv_aload_n hx hb dL_tick_0 rfl (lv_at hl 2 rfl) ?_
  refine lv_iconst (v := 0) hx hb dL_tick_1 (by decide) ?_
  refine lv_aload_n hx hb dL_tick_2 rfl (lv_at hl 0 rfl) ?_
  refine lv_iload_n hx hb dL_tick_3 rfl (lv_at hl 1 rfl) ?_
  have hPc := rP hP
  have hDc := rD hD
  have hF := fA hDc hS hA
  refine vx_calli (vx_runV (As := [.int a1]) (rest := [.int 0, .ref b1]) ⟨hx, hb, hml, hown, hts⟩ (c_X8_tick l hfl dC dI cA ad n σ a1 H.size _ _ hwp) (cwV 1 hts gL_tick_X8_tick rfl rfl rfl (by decide +kernel) ⟨Nat.le_of_ble_eq_true rfl, Nat.le_of_ble_eq_true rfl⟩) ⟨fbX, va_recv hK hPc (ci := 8) (q0 := 0) rfl atLq, fun U hU hW => ⟨rfl, ⟨by rw [hU], by rw [hU]; exact hPc, va_K.moved hW.alike hK, hDc.weaken (fun _ _ _ _ => trivial)⟩, hT.move hW hS hU hF⟩⟩ rfl rfl hl.1 rfl (lv_room (Nat.le_of_ble_eq_true rfl)) dL_tick_4 ⟨Nat.le_of_ble_eq_true rfl, Nat.le_of_ble_eq_true rfl⟩) hS (fun q _ h => hF q h) hF (fun q _ h => hF q h) (fun E ce q9 u t H1 locs ht hvm hpx hBX hz1 hk1 hS1 hce hcv hcl => ?_) (fun r u t H1 locs ht hvm hwp hB hz1 hk1 hS => ?_)
  · obtain ⟨hE, hP1, hK1, hD1⟩ := hBX
    rw [ht] at hP1
    obtain ⟨hP, hD⟩ := jR hP hD hk1 hF hP1 hD1
    obtain ⟨hE2, hpx⟩ := hpx
    rw [hE] at hE2
    subst hE2
    refine vx_catch (E := "java/lang/IllegalArgumentException") (name := "java/lang/IllegalArgumentException") hown [] ⟨0, 9, 12, 13⟩ [] htab (fun z hz => nomatch hz) (by decide) (by decide) (hts (.classLink RL 13 "java/lang/IllegalArgumentException") (by decide +kernel)) (hT.2.2.1.use rfl) hce hcv hcl ?_
    refine lv_astore_n (lv' := [(3, .ref q9), (0, .ref (ad 8 0)), (1, .int a1), (2, .ref b1)]) hx hb dL_tick_12 rfl hl (by decide) rfl (fun ls hl => ?_)
    refine lv_iconst (v := 1) hx hb dL_tick_13 (by decide) ?_
    refine vx_ret ?_
    refine W.widen (k := 2) (n := 12) (Nat.le_of_ble_eq_true rfl) (Nat.le_of_ble_eq_true rfl) ?_
    exact W.iret (v := 1) hx hb hr (fun t ht hW => ⟨⟨1, (o, d, u.2), rfl, hpx, by rw [ht]; exact hP, va_K.moved hW.alike hK, hD⟩, hS1.F ht⟩) hS1.2.2 dL_tick_14
  · obtain ⟨hP1, hK1, hD1⟩ := hB
    rw [ht] at hP1
    obtain ⟨hP, hD⟩ := jR hP hD hk1 hF hP1 hD1
    refine lv_i2l (v := r.toInt64) hx hb dL_tick_7 rfl ?_
    refine va_last (D := (dC, dI)) hx hb hK hP hD hS 0 5 (ha := rfl) (ht := rfl) (vp_in_nI (n := 0) (N := 1) (by decide) (by decide)) dL_tick_8 (fun H locs hP hD hS => ?_)
    have hP : va_P (dC, dI) vwCl (Wo cA b1 b2 (vp_updL o (0 : Int32).toNatClampNeg r.toInt64) d ++ Wc cA ad n u) H := hP
    have hD : va_D A (Wo cA b1 b2 (vp_updL o (0 : Int32).toNatClampNeg r.toInt64) d ++ Wc cA ad n u) := hD
    refine lv_goto (tgt := 15) hx hb dL_tick_9 (by decide) ?_
    refine lv_iconst (v := 0) hx hb dL_tick_15 (by decide) ?_
    refine vx_ret ?_
    refine W.widen (k := 2) (n := 12) (Nat.le_of_ble_eq_true rfl) (Nat.le_of_ble_eq_true rfl) ?_
    exact W.iret (v := 0) hx hb hr (fun t ht hW => ⟨⟨0, ((vp_updL o (0 : Int32).toNatClampNeg r.toInt64), d, u), rfl, hwp, by rw [ht]; exact hP, va_K.moved hW.alike hK, hD⟩, hS.F ht⟩) hS.2.2 dL_tick_16
def wp_L_count (n : Nat) (o : Nat → Int64) (d : Nat → UInt64) (σ : ST) (a1 : Int32) (a2 : Int32) (K : Int32 → (Nat → Int64) → (Nat → UInt64) → ST → Prop) : Prop := wp_X8_count n σ a1 a2 (fun r s1 => K 0 (vp_updL o (0 : Int32).toNatClampNeg r.toInt64) d s1) (fun E s1 => E = "java/lang/IllegalArgumentException" ∧ K 1 o d s1)
set_option maxHeartbeats 8000000 in
set_option maxRecDepth 100000 in
theorem c_L_count (l : Launch) (hfl : l.stackTraces = false) (dC : Nat → ClassId) (dI : Nat → Nat → Nat) (cA : Nat → ClassId) (b1 b2 : Nat) (ad : Nat → Nat → Nat) (n : Nat) (o : Nat → Int64) (d : Nat → UInt64) (σ : ST) (a1 : Int32) (a2 : Int32) (sz : Nat) (K : Int32 → (Nat → Int64) → (Nat → UInt64) → ST → Prop) (hwp : wp_L_count n o d σ a1 a2 K) : vx_Met l yL_count wsL_count ({ frames := 8, cells := 2, slots := 12, locals := 135 } : Room) (va_Pc [.ref (ad 8 0), .int a1, .int a2, .ref b1] (preX dC dI cA (Wl cA b1 b2 ad n o d σ) sz)) (va_Qi (fun (r : Int32) (u : (Nat → Int64) × (Nat → UInt64) × ST) => K r u.1 u.2.1 u.2.2) (fun u t => atC dC dI cA (Wl cA b1 b2 ad n u.1 u.2.1) (va_A (Wl cA b1 b2 ad n o d σ) sz) u.2.2 t) (va_A (Wl cA b1 b2 ad n o d σ) sz)) (vx_X (fun _ : Unit => False) (fun _ _ _ => True) (va_A (Wl cA b1 b2 ad n o d σ) sz)) 2 12 (va_A (Wl cA b1 b2 ad n o d σ) sz) := by
  refine vx_ofWH (cc := cL_count) (maxL := 5) (ret := (some .int)) (hh := [(0, 10, 13, 13)]) (by decide) rfl ?_
  intro p e s m args below meth c s₁ B hml hv
  obtain ⟨rfl, ⟨hsz, hP, hK, hD0⟩, hT⟩ := hv
  have hx := B.exec
  have hb := B.bytes
  have hr := B.returns
  have hts := atoms_spec (ws := wsL_count) B.pre
  have hown : s.vm.findClass RL = some m.cls := findClass_of_methodNamed B.named
  have hlocks := B.notSynchronized
  have htab : c.exceptionTable.toList = [⟨0, 10, 13, 13⟩] := vx_table (x := yL_count) B (hts _ List.mem_cons_self)
  subst hsz
  have hD := hD0.self (sz := s.heap.size)
  clear hD0
  generalize hAe : va_A (Wl cA b1 b2 ad n o d σ) s.heap.size = A at hD hT ⊢
  have hA : ∀ q : Nat, s.heap.size ≤ q → A q := fun q h => by rw [← hAe]; exact Or.inr h
  have hl := lv_entry ([.ref (ad 8 0), .int a1, .int a2, .ref b1]) (n := 5) (Nat.le_of_ble_eq_true rfl)
  rw [lg_entry_eq]
  generalize (lg_sl ([.ref (ad 8 0), .int a1, .int a2, .ref b1]) ++ List.replicate (5 - (lg_sl ([.ref (ad 8 0), .int a1, .int a2, .ref b1])).length) Slot.unset).toArray = ls at hl ⊢
  have hl : lv_has ls 5 [(0, .ref (ad 8 0)), (1, .int a1), (2, .int a2), (3, .ref b1)] := hl
  unfold wp_L_count at hwp
  generalize hHe : s.heap = H at hP ⊢
  have hS : va_S A s.heap H [] := by rw [← hHe]; exact va_S.rf
  clear hHe
  refine lv_aload_n hx hb dL_count_0 rfl (lv_at hl 3 rfl) ?_
  refine lv_iconst (v := 0) hx hb dL_count_1 (by decide) ?_
  refine lv_aload_n hx hb dL_count_2 rfl (lv_at hl 0 rfl) ?_
  refine lv_iload_n hx hb dL_count_3 rfl (lv_at hl 1 rfl) ?_
  refine lv_iload_n hx hb dL_count_4 rfl (lv_at hl 2 rfl) ?_
  have hPc := rP hP
  have hDc := rD hD
  have hF := fA hDc hS hA
  refine vx_calli (vx_runV (As := [.int a1, .int a2]) (rest := [.int 0, .ref b1]) ⟨hx, hb, hml, hown, hts⟩ (c_X8_count l hfl dC dI cA ad n σ a1 a2 H.size _ _ hwp) (cwV 2 hts gL_count_X8_count rfl rfl rfl (by decide +kernel) ⟨Nat.le_of_ble_eq_true rfl, Nat.le_of_ble_eq_true rfl⟩) ⟨fbX, va_recv hK hPc (ci := 8) (q0 := 0) rfl atLq, fun U hU hW => ⟨rfl, ⟨by rw [hU], by rw [hU]; exact hPc, va_K.moved hW.alike hK, hDc.weaken (fun _ _ _ _ => trivial)⟩, hT.move hW hS hU hF⟩⟩ rfl rfl hl.1 rfl (lv_room (Nat.le_of_ble_eq_true rfl)) dL_count_5 ⟨Nat.le_of_ble_eq_true rfl, Nat.le_of_ble_eq_true rfl⟩) hS (fun q _ h => hF q h) hF (fun q _ h => hF q h) (fun E ce q9 u t H1 locs ht hvm hpx hBX hz1 hk1 hS1 hce hcv hcl => ?_) (fun r u t H1 locs ht hvm hwp hB hz1 hk1 hS => ?_)
  · obtain ⟨hE, hP1, hK1, hD1⟩ := hBX
    rw [ht] at hP1
    obtain ⟨hP, hD⟩ := jR hP hD hk1 hF hP1 hD1
    obtain ⟨hE2, hpx⟩ := hpx
    rw [hE] at hE2
    subst hE2
    refine vx_catch (E := "java/lang/IllegalArgumentException") (name := "java/lang/IllegalArgumentException") hown [] ⟨0, 10, 13, 13⟩ [] htab (fun z hz => nomatch hz) (by decide) (by decide) (hts (.classLink RL 13 "java/lang/IllegalArgumentException") (by decide +kernel)) (hT.2.2.1.use rfl) hce hcv hcl ?_
    refine lv_astore (lv' := [(4, .ref q9), (0, .ref (ad 8 0)), (1, .int a1), (2, .int a2), (3, .ref b1)]) hx hb dL_count_13 hl (by decide) rfl (fun ls hl => ?_)
    refine lv_iconst (v := 1) hx hb dL_count_15 (by decide) ?_
    refine vx_ret ?_
    refine W.widen (k := 2) (n := 12) (Nat.le_of_ble_eq_true rfl) (Nat.le_of_ble_eq_true rfl) ?_
    exact W.iret (v := 1) hx hb hr (fun t ht hW => ⟨⟨1, (o, d, u.2), rfl, hpx, by rw [ht]; exact hP, va_K.moved hW.alike hK, hD⟩, hS1.F ht⟩) hS1.2.2 dL_count_16
  · obtain ⟨hP1, hK1, hD1⟩ := hB
    rw [ht] at hP1
    obtain ⟨hP, hD⟩ := jR hP hD hk1 hF hP1 hD1
    refine lv_i2l (v := r.toInt64) hx hb dL_count_8 rfl ?_
    refine va_last (D := (dC, dI)) hx hb hK hP hD hS 0 5 (ha := rfl) (ht := rfl) (vp_in_nI (n := 0) (N := 1) (by decide) (by decide)) dL_count_9 (fun H locs hP hD hS => ?_)
    have hP : va_P (dC, dI) vwCl (Wo cA b1 b2 (vp_updL o (0 : Int32).toNatClampNeg r.toInt64) d ++ Wc cA ad n u) H := hP
    have hD : va_D A (Wo cA b1 b2 (vp_updL o (0 : Int32).toNatClampNeg r.toInt64) d ++ Wc cA ad n u) := hD
    refine lv_goto (tgt := 17) hx hb dL_count_10 (by decide) ?_
    refine lv_iconst (v := 0) hx hb dL_count_17 (by decide) ?_
    refine vx_ret ?_
    refine W.widen (k := 2) (n := 12) (Nat.le_of_ble_eq_true rfl) (Nat.le_of_ble_eq_true rfl) ?_
    exact W.iret (v := 0) hx hb hr (fun t ht hW => ⟨⟨0, ((vp_updL o (0 : Int32).toNatClampNeg r.toInt64), d, u), rfl, hwp, by rw [ht]; exact hP, va_K.moved hW.alike hK, hD⟩, hS.F ht⟩) hS.2.2 dL_count_18
def wp_L_average (n : Nat) (o : Nat → Int64) (d : Nat → UInt64) (σ : ST) (a1 : Int32) (K : Int32 → (Nat → Int64) → (Nat → UInt64) → ST → Prop) : Prop := wp_X8_average n σ a1 (fun r s1 => K 0 o (vf_upd d (0 : Int32).toNatClampNeg r) s1) (fun E s1 => E = "java/lang/IllegalArgumentException" ∧ K 1 o d s1)
set_option maxHeartbeats 8000000 in
set_option maxRecDepth 100000 in
theorem c_L_average (l : Launch) (hfl : l.stackTraces = false) (dC : Nat → ClassId) (dI : Nat → Nat → Nat) (cA : Nat → ClassId) (b1 b2 : Nat) (ad : Nat → Nat → Nat) (n : Nat) (o : Nat → Int64) (d : Nat → UInt64) (σ : ST) (a1 : Int32) (sz : Nat) (K : Int32 → (Nat → Int64) → (Nat → UInt64) → ST → Prop) (hwp : wp_L_average n o d σ a1 K) : vx_Met l yL_average wsL_average ({ frames := 8, cells := 2, slots := 12, locals := 133 } : Room) (va_Pc [.ref (ad 8 0), .int a1, .ref b2] (preX dC dI cA (Wl cA b1 b2 ad n o d σ) sz)) (va_Qi (fun (r : Int32) (u : (Nat → Int64) × (Nat → UInt64) × ST) => K r u.1 u.2.1 u.2.2) (fun u t => atC dC dI cA (Wl cA b1 b2 ad n u.1 u.2.1) (va_A (Wl cA b1 b2 ad n o d σ) sz) u.2.2 t) (va_A (Wl cA b1 b2 ad n o d σ) sz)) (vx_X (fun _ : Unit => False) (fun _ _ _ => True) (va_A (Wl cA b1 b2 ad n o d σ) sz)) 2 12 (va_A (Wl cA b1 b2 ad n o d σ) sz) := by
  refine vx_ofWH (cc := cL_average) (maxL := 4) (ret := (some .int)) (hh := [(0, 8, 11, 13)]) (by decide) rfl ?_
  intro p e s m args below meth c s₁ B hml hv
  obtain ⟨rfl, ⟨hsz, hP, hK, hD0⟩, hT⟩ := hv
  have hx := B.exec
  have hb := B.bytes
  have hr := B.returns
  have hts := atoms_spec (ws := wsL_average) B.pre
  have hown : s.vm.findClass RL = some m.cls := findClass_of_methodNamed B.named
  have hlocks := B.notSynchronized
  have htab : c.exceptionTable.toList = [⟨0, 8, 11, 13⟩] := vx_table (x := yL_average) B (hts _ List.mem_cons_self)
  subst hsz
  have hD := hD0.self (sz := s.heap.size)
  clear hD0
  generalize hAe : va_A (Wl cA b1 b2 ad n o d σ) s.heap.size = A at hD hT ⊢
  have hA : ∀ q : Nat, s.heap.size ≤ q → A q := fun q h => by rw [← hAe]; exact Or.inr h
  have hl := lv_entry ([.ref (ad 8 0), .int a1, .ref b2]) (n := 4) (Nat.le_of_ble_eq_true rfl)
  rw [lg_entry_eq]
  generalize (lg_sl ([.ref (ad 8 0), .int a1, .ref b2]) ++ List.replicate (4 - (lg_sl ([.ref (ad 8 0), .int a1, .ref b2])).length) Slot.unset).toArray = ls at hl ⊢
  have hl : lv_has ls 4 [(0, .ref (ad 8 0)), (1, .int a1), (2, .ref b2)] := hl
  unfold wp_L_average at hwp
  generalize hHe : s.heap = H at hP ⊢
  have hS : va_S A s.heap H [] := by rw [← hHe]; exact va_S.rf
  clear hHe
  refine lv_aload_n hx hb dL_average_0 rfl (lv_at hl 2 rfl) ?_
  refine lv_iconst (v := 0) hx hb dL_average_1 (by decide) ?_
  refine lv_aload_n hx hb dL_average_2 rfl (lv_at hl 0 rfl) ?_
  refine lv_iload_n hx hb dL_average_3 rfl (lv_at hl 1 rfl) ?_
  have hPc := rP hP
  have hDc := rD hD
  have hF := fA hDc hS hA
  refine vx_calld (vx_runV (As := [.int a1]) (rest := [.int 0, .ref b2]) ⟨hx, hb, hml, hown, hts⟩ (c_X8_average l hfl dC dI cA ad n σ a1 H.size _ _ hwp) (cwV 1 hts gL_average_X8_average rfl rfl rfl (by decide +kernel) ⟨Nat.le_of_ble_eq_true rfl, Nat.le_of_ble_eq_true rfl⟩) ⟨fbX, va_recv hK hPc (ci := 8) (q0 := 0) rfl atLq, fun U hU hW => ⟨rfl, ⟨by rw [hU], by rw [hU]; exact hPc, va_K.moved hW.alike hK, hDc.weaken (fun _ _ _ _ => trivial)⟩, hT.move hW hS hU hF⟩⟩ rfl rfl hl.1 rfl (lv_room (Nat.le_of_ble_eq_true rfl)) dL_average_4 ⟨Nat.le_of_ble_eq_true rfl, Nat.le_of_ble_eq_true rfl⟩) hS (fun q _ h => hF q h) hF (fun q _ h => hF q h) (fun E ce q9 u t H1 locs ht hvm hpx hBX hz1 hk1 hS1 hce hcv hcl => ?_) (fun r u t H1 locs ht hvm hwp hB hz1 hk1 hS => ?_)
  · obtain ⟨hE, hP1, hK1, hD1⟩ := hBX
    rw [ht] at hP1
    obtain ⟨hP, hD⟩ := jR hP hD hk1 hF hP1 hD1
    obtain ⟨hE2, hpx⟩ := hpx
    rw [hE] at hE2
    subst hE2
    refine vx_catch (E := "java/lang/IllegalArgumentException") (name := "java/lang/IllegalArgumentException") hown [] ⟨0, 8, 11, 13⟩ [] htab (fun z hz => nomatch hz) (by decide) (by decide) (hts (.classLink RL 13 "java/lang/IllegalArgumentException") (by decide +kernel)) (hT.2.2.1.use rfl) hce hcv hcl ?_
    refine lv_astore_n (lv' := [(3, .ref q9), (0, .ref (ad 8 0)), (1, .int a1), (2, .ref b2)]) hx hb dL_average_11 rfl hl (by decide) rfl (fun ls hl => ?_)
    refine lv_iconst (v := 1) hx hb dL_average_12 (by decide) ?_
    refine vx_ret ?_
    refine W.widen (k := 2) (n := 12) (Nat.le_of_ble_eq_true rfl) (Nat.le_of_ble_eq_true rfl) ?_
    exact W.iret (v := 1) hx hb hr (fun t ht hW => ⟨⟨1, (o, d, u.2), rfl, hpx, by rw [ht]; exact hP, va_K.moved hW.alike hK, hD⟩, hS1.F ht⟩) hS1.2.2 dL_average_13
  · obtain ⟨hP1, hK1, hD1⟩ := hB
    rw [ht] at hP1
    obtain ⟨hP, hD⟩ := jR hP hD hk1 hF hP1 hD1
    refine va_dast (D := (dC, dI)) hx hb hK hP hD hS 1 0 (ha := rfl) (ht := rfl) (vp_in_nI (n := 0) (N := 1) (by decide) (by decide)) dL_average_7 (fun H locs hP hD hS => ?_)
    have hP : va_P (dC, dI) vwCl (Wo cA b1 b2 o (vf_upd d (0 : Int32).toNatClampNeg r) ++ Wc cA ad n u) H := hP
    have hD : va_D A (Wo cA b1 b2 o (vf_upd d (0 : Int32).toNatClampNeg r) ++ Wc cA ad n u) := hD
    refine lv_goto (tgt := 14) hx hb dL_average_8 (by decide) ?_
    refine lv_iconst (v := 0) hx hb dL_average_14 (by decide) ?_
    refine vx_ret ?_
    refine W.widen (k := 2) (n := 12) (Nat.le_of_ble_eq_true rfl) (Nat.le_of_ble_eq_true rfl) ?_
    exact W.iret (v := 0) hx hb hr (fun t ht hW => ⟨⟨0, (o, (vf_upd d (0 : Int32).toNatClampNeg r), u), rfl, hwp, by rw [ht]; exact hP, va_K.moved hW.alike hK, hD⟩, hS.F ht⟩) hS.2.2 dL_average_15
def wp_L_next (n : Nat) (o : Nat → Int64) (d : Nat → UInt64) (σ : ST) (a1 : Int32) (K : Int32 → (Nat → Int64) → (Nat → UInt64) → ST → Prop) : Prop := wp_X8_next n σ a1 (fun r s1 => K 0 o (vf_upd d (0 : Int32).toNatClampNeg r) s1) (fun E s1 => E = "java/lang/IllegalArgumentException" ∧ K 1 o d s1)
set_option maxHeartbeats 8000000 in
set_option maxRecDepth 100000 in
theorem c_L_next (l : Launch) (hfl : l.stackTraces = false) (dC : Nat → ClassId) (dI : Nat → Nat → Nat) (cA : Nat → ClassId) (b1 b2 : Nat) (ad : Nat → Nat → Nat) (n : Nat) (o : Nat → Int64) (d : Nat → UInt64) (σ : ST) (a1 : Int32) (sz : Nat) (K : Int32 → (Nat → Int64) → (Nat → UInt64) → ST → Prop) (hwp : wp_L_next n o d σ a1 K) : vx_Met l yL_next wsL_next ({ frames := 8, cells := 2, slots := 12, locals := 134 } : Room) (va_Pc [.ref (ad 8 0), .int a1, .ref b2] (preX dC dI cA (Wl cA b1 b2 ad n o d σ) sz)) (va_Qi (fun (r : Int32) (u : (Nat → Int64) × (Nat → UInt64) × ST) => K r u.1 u.2.1 u.2.2) (fun u t => atC dC dI cA (Wl cA b1 b2 ad n u.1 u.2.1) (va_A (Wl cA b1 b2 ad n o d σ) sz) u.2.2 t) (va_A (Wl cA b1 b2 ad n o d σ) sz)) (vx_X (fun _ : Unit => False) (fun _ _ _ => True) (va_A (Wl cA b1 b2 ad n o d σ) sz)) 2 12 (va_A (Wl cA b1 b2 ad n o d σ) sz) := by
  refine vx_ofWH (cc := cL_next) (maxL := 4) (ret := (some .int)) (hh := [(0, 8, 11, 13)]) (by decide) rfl ?_
  intro p e s m args below meth c s₁ B hml hv
  obtain ⟨rfl, ⟨hsz, hP, hK, hD0⟩, hT⟩ := hv
  have hx := B.exec
  have hb := B.bytes
  have hr := B.returns
  have hts := atoms_spec (ws := wsL_next) B.pre
  have hown : s.vm.findClass RL = some m.cls := findClass_of_methodNamed B.named
  have hlocks := B.notSynchronized
  have htab : c.exceptionTable.toList = [⟨0, 8, 11, 13⟩] := vx_table (x := yL_next) B (hts _ List.mem_cons_self)
  subst hsz
  have hD := hD0.self (sz := s.heap.size)
  clear hD0
  generalize hAe : va_A (Wl cA b1 b2 ad n o d σ) s.heap.size = A at hD hT ⊢
  have hA : ∀ q : Nat, s.heap.size ≤ q → A q := fun q h => by rw [← hAe]; exact Or.inr h
  have hl := lv_entry ([.ref (ad 8 0), .int a1, .ref b2]) (n := 4) (Nat.le_of_ble_eq_true rfl)
  rw [lg_entry_eq]
  generalize (lg_sl ([.ref (ad 8 0), .int a1, .ref b2]) ++ List.replicate (4 - (lg_sl ([.ref (ad 8 0), .int a1, .ref b2])).length) Slot.unset).toArray = ls at hl ⊢
  have hl : lv_has ls 4 [(0, .ref (ad 8 0)), (1, .int a1), (2, .ref b2)] := hl
  unfold wp_L_next at hwp
  generalize hHe : s.heap = H at hP ⊢
  have hS : va_S A s.heap H [] := by rw [← hHe]; exact va_S.rf
  clear hHe
  refine lv_aload_n hx hb dL_next_0 rfl (lv_at hl 2 rfl) ?_
  refine lv_iconst (v := 0) hx hb dL_next_1 (by decide) ?_
  refine lv_aload_n hx hb dL_next_2 rfl (lv_at hl 0 rfl) ?_
  refine lv_iload_n hx hb dL_next_3 rfl (lv_at hl 1 rfl) ?_
  have hPc := rP hP
  have hDc := rD hD
  have hF := fA hDc hS hA
  refine vx_calld (vx_runV (As := [.int a1]) (rest := [.int 0, .ref b2]) ⟨hx, hb, hml, hown, hts⟩ (c_X8_next l hfl dC dI cA ad n σ a1 H.size _ _ hwp) (cwV 1 hts gL_next_X8_next rfl rfl rfl (by decide +kernel) ⟨Nat.le_of_ble_eq_true rfl, Nat.le_of_ble_eq_true rfl⟩) ⟨fbX, va_recv hK hPc (ci := 8) (q0 := 0) rfl atLq, fun U hU hW => ⟨rfl, ⟨by rw [hU], by rw [hU]; exact hPc, va_K.moved hW.alike hK, hDc.weaken (fun _ _ _ _ => trivial)⟩, hT.move hW hS hU hF⟩⟩ rfl rfl hl.1 rfl (lv_room (Nat.le_of_ble_eq_true rfl)) dL_next_4 ⟨Nat.le_of_ble_eq_true rfl, Nat.le_of_ble_eq_true rfl⟩) hS (fun q _ h => hF q h) hF (fun q _ h => hF q h) (fun E ce q9 u t H1 locs ht hvm hpx hBX hz1 hk1 hS1 hce hcv hcl => ?_) (fun r u t H1 locs ht hvm hwp hB hz1 hk1 hS => ?_)
  · obtain ⟨hE, hP1, hK1, hD1⟩ := hBX
    rw [ht] at hP1
    obtain ⟨hP, hD⟩ := jR hP hD hk1 hF hP1 hD1
    obtain ⟨hE2, hpx⟩ := hpx
    rw [hE] at hE2
    subst hE2
    refine vx_catch (E := "java/lang/IllegalArgumentException") (name := "java/lang/IllegalArgumentException") hown [] ⟨0, 8, 11, 13⟩ [] htab (fun z hz => nomatch hz) (by decide) (by decide) (hts (.classLink RL 13 "java/lang/IllegalArgumentException") (by decide +kernel)) (hT.2.2.1.use rfl) hce hcv hcl ?_
    refine lv_astore_n (lv' := [(3, .ref q9), (0, .ref (ad 8 0)), (1, .int a1), (2, .ref b2)]) hx hb dL_next_11 rfl hl (by decide) rfl (fun ls hl => ?_)
    refine lv_iconst (v := 1) hx hb dL_next_12 (by decide) ?_
    refine vx_ret ?_
    refine W.widen (k := 2) (n := 12) (Nat.le_of_ble_eq_true rfl) (Nat.le_of_ble_eq_true rfl) ?_
    exact W.iret (v := 1) hx hb hr (fun t ht hW => ⟨⟨1, (o, d, u.2), rfl, hpx, by rw [ht]; exact hP, va_K.moved hW.alike hK, hD⟩, hS1.F ht⟩) hS1.2.2 dL_next_13
  · obtain ⟨hP1, hK1, hD1⟩ := hB
    rw [ht] at hP1
    obtain ⟨hP, hD⟩ := jR hP hD hk1 hF hP1 hD1
    refine va_dast (D := (dC, dI)) hx hb hK hP hD hS 1 0 (ha := rfl) (ht := rfl) (vp_in_nI (n := 0) (N := 1) (by decide) (by decide)) dL_next_7 (fun H locs hP hD hS => ?_)
    have hP : va_P (dC, dI) vwCl (Wo cA b1 b2 o (vf_upd d (0 : Int32).toNatClampNeg r) ++ Wc cA ad n u) H := hP
    have hD : va_D A (Wo cA b1 b2 o (vf_upd d (0 : Int32).toNatClampNeg r) ++ Wc cA ad n u) := hD
    refine lv_goto (tgt := 14) hx hb dL_next_8 (by decide) ?_
    refine lv_iconst (v := 0) hx hb dL_next_14 (by decide) ?_
    refine vx_ret ?_
    refine W.widen (k := 2) (n := 12) (Nat.le_of_ble_eq_true rfl) (Nat.le_of_ble_eq_true rfl) ?_
    exact W.iret (v := 0) hx hb hr (fun t ht hW => ⟨⟨0, (o, (vf_upd d (0 : Int32).toNatClampNeg r), u), rfl, hwp, by rw [ht]; exact hP, va_K.moved hW.alike hK, hD⟩, hS.F ht⟩) hS.2.2 dL_next_15
def wp_L_sent (n : Nat) (o : Nat → Int64) (d : Nat → UInt64) (σ : ST) (a1 : Int32) (a2 : Int32) (K : Int32 → (Nat → Int64) → (Nat → UInt64) → ST → Prop) : Prop := wp_X8_sent n σ a1 a2 (fun r s1 => K 0 (vp_updL o (0 : Int32).toNatClampNeg r.toInt64) d s1) (fun E s1 => E = "java/lang/IllegalArgumentException" ∧ K 1 o d s1)
set_option maxHeartbeats 8000000 in
set_option maxRecDepth 100000 in
theorem c_L_sent (l : Launch) (hfl : l.stackTraces = false) (dC : Nat → ClassId) (dI : Nat → Nat → Nat) (cA : Nat → ClassId) (b1 b2 : Nat) (ad : Nat → Nat → Nat) (n : Nat) (o : Nat → Int64) (d : Nat → UInt64) (σ : ST) (a1 : Int32) (a2 : Int32) (sz : Nat) (K : Int32 → (Nat → Int64) → (Nat → UInt64) → ST → Prop) (hwp : wp_L_sent n o d σ a1 a2 K) : vx_Met l yL_sent wsL_sent ({ frames := 7, cells := 2, slots := 12, locals := 113 } : Room) (va_Pc [.ref (ad 8 0), .int a1, .int a2, .ref b1] (preX dC dI cA (Wl cA b1 b2 ad n o d σ) sz)) (va_Qi (fun (r : Int32) (u : (Nat → Int64) × (Nat → UInt64) × ST) => K r u.1 u.2.1 u.2.2) (fun u t => atC dC dI cA (Wl cA b1 b2 ad n u.1 u.2.1) (va_A (Wl cA b1 b2 ad n o d σ) sz) u.2.2 t) (va_A (Wl cA b1 b2 ad n o d σ) sz)) (vx_X (fun _ : Unit => False) (fun _ _ _ => True) (va_A (Wl cA b1 b2 ad n o d σ) sz)) 2 12 (va_A (Wl cA b1 b2 ad n o d σ) sz) := by
  refine vx_ofWH (cc := cL_sent) (maxL := 5) (ret := (some .int)) (hh := [(0, 10, 13, 13)]) (by decide) rfl ?_
  intro p e s m args below meth c s₁ B hml hv
  obtain ⟨rfl, ⟨hsz, hP, hK, hD0⟩, hT⟩ := hv
  have hx := B.exec
  have hb := B.bytes
  have hr := B.returns
  have hts := atoms_spec (ws := wsL_sent) B.pre
  have hown : s.vm.findClass RL = some m.cls := findClass_of_methodNamed B.named
  have hlocks := B.notSynchronized
  have htab : c.exceptionTable.toList = [⟨0, 10, 13, 13⟩] := vx_table (x := yL_sent) B (hts _ List.mem_cons_self)
  subst hsz
  have hD := hD0.self (sz := s.heap.size)
  clear hD0
  generalize hAe : va_A (Wl cA b1 b2 ad n o d σ) s.heap.size = A at hD hT ⊢
  have hA : ∀ q : Nat, s.heap.size ≤ q → A q := fun q h => by rw [← hAe]; exact Or.inr h
  have hl := lv_entry ([.ref (ad 8 0), .int a1, .int a2, .ref b1]) (n := 5) (Nat.le_of_ble_eq_true rfl)
  rw [lg_entry_eq]
  generalize (lg_sl ([.ref (ad 8 0), .int a1, .int a2, .ref b1]) ++ List.replicate (5 - (lg_sl ([.ref (ad 8 0), .int a1, .int a2, .ref b1])).length) Slot.unset).toArray = ls at hl ⊢
  have hl : lv_has ls 5 [(0, .ref (ad 8 0)), (1, .int a1), (2, .int a2), (3, .ref b1)] := hl
  unfold wp_L_sent at hwp
  generalize hHe : s.heap = H at hP ⊢
  have hS : va_S A s.heap H [] := by rw [← hHe]; exact va_S.rf
  clear hHe
  refine lv_aload_n hx hb dL_sent_0 rfl (lv_at hl 3 rfl) ?_
  refine lv_iconst (v := 0) hx hb dL_sent_1 (by decide) ?_
  refine lv_aload_n hx hb dL_sent_2 rfl (lv_at hl 0 rfl) ?_
  refine lv_iload_n hx hb dL_sent_3 rfl (lv_at hl 1 rfl) ?_
  refine lv_iload_n hx hb dL_sent_4 rfl (lv_at hl 2 rfl) ?_
  have hPc := rP hP
  have hDc := rD hD
  have hF := fA hDc hS hA
  refine vx_calli (vx_runV (As := [.int a1, .int a2]) (rest := [.int 0, .ref b1]) ⟨hx, hb, hml, hown, hts⟩ (c_X8_sent l hfl dC dI cA ad n σ a1 a2 H.size _ _ hwp) (cwV 2 hts gL_sent_X8_sent rfl rfl rfl (by decide +kernel) ⟨Nat.le_of_ble_eq_true rfl, Nat.le_of_ble_eq_true rfl⟩) ⟨fbX, va_recv hK hPc (ci := 8) (q0 := 0) rfl atLq, fun U hU hW => ⟨rfl, ⟨by rw [hU], by rw [hU]; exact hPc, va_K.moved hW.alike hK, hDc.weaken (fun _ _ _ _ => trivial)⟩, hT.move hW hS hU hF⟩⟩ rfl rfl hl.1 rfl (lv_room (Nat.le_of_ble_eq_true rfl)) dL_sent_5 ⟨Nat.le_of_ble_eq_true rfl, Nat.le_of_ble_eq_true rfl⟩) hS (fun q _ h => hF q h) hF (fun q _ h => hF q h) (fun E ce q9 u t H1 locs ht hvm hpx hBX hz1 hk1 hS1 hce hcv hcl => ?_) (fun r u t H1 locs ht hvm hwp hB hz1 hk1 hS => ?_)
  · obtain ⟨hE, hP1, hK1, hD1⟩ := hBX
    rw [ht] at hP1
    obtain ⟨hP, hD⟩ := jR hP hD hk1 hF hP1 hD1
    obtain ⟨hE2, hpx⟩ := hpx
    rw [hE] at hE2
    subst hE2
    refine vx_catch (E := "java/lang/IllegalArgumentException") (name := "java/lang/IllegalArgumentException") hown [] ⟨0, 10, 13, 13⟩ [] htab (fun z hz => nomatch hz) (by decide) (by decide) (hts (.classLink RL 13 "java/lang/IllegalArgumentException") (by decide +kernel)) (hT.2.2.1.use rfl) hce hcv hcl ?_
    refine lv_astore (lv' := [(4, .ref q9), (0, .ref (ad 8 0)), (1, .int a1), (2, .int a2), (3, .ref b1)]) hx hb dL_sent_13 hl (by decide) rfl (fun ls hl => ?_)
    refine lv_iconst (v := 1) hx hb dL_sent_15 (by decide) ?_
    refine vx_ret ?_
    refine W.widen (k := 2) (n := 12) (Nat.le_of_ble_eq_true rfl) (Nat.le_of_ble_eq_true rfl) ?_
    exact W.iret (v := 1) hx hb hr (fun t ht hW => ⟨⟨1, (o, d, u.2), rfl, hpx, by rw [ht]; exact hP, va_K.moved hW.alike hK, hD⟩, hS1.F ht⟩) hS1.2.2 dL_sent_16
  · obtain ⟨hP1, hK1, hD1⟩ := hB
    rw [ht] at hP1
    obtain ⟨hP, hD⟩ := jR hP hD hk1 hF hP1 hD1
    refine lv_i2l (v := r.toInt64) hx hb dL_sent_8 rfl ?_
    refine va_last (D := (dC, dI)) hx hb hK hP hD hS 0 5 (ha := rfl) (ht := rfl) (vp_in_nI (n := 0) (N := 1) (by decide) (by decide)) dL_sent_9 (fun H locs hP hD hS => ?_)
    have hP : va_P (dC, dI) vwCl (Wo cA b1 b2 (vp_updL o (0 : Int32).toNatClampNeg r.toInt64) d ++ Wc cA ad n u) H := hP
    have hD : va_D A (Wo cA b1 b2 (vp_updL o (0 : Int32).toNatClampNeg r.toInt64) d ++ Wc cA ad n u) := hD
    refine lv_goto (tgt := 17) hx hb dL_sent_10 (by decide) ?_
    refine lv_iconst (v := 0) hx hb dL_sent_17 (by decide) ?_
    refine vx_ret ?_
    refine W.widen (k := 2) (n := 12) (Nat.le_of_ble_eq_true rfl) (Nat.le_of_ble_eq_true rfl) ?_
    exact W.iret (v := 0) hx hb hr (fun t ht hW => ⟨⟨0, ((vp_updL o (0 : Int32).toNatClampNeg r.toInt64), d, u), rfl, hwp, by rw [ht]; exact hP, va_K.moved hW.alike hK, hD⟩, hS.F ht⟩) hS.2.2 dL_sent_18
