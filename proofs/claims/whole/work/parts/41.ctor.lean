set_option maxRecDepth 20000 in
theorem iX0_init_0 : ∀ w ∈ wsX00, w ∈ wsX0_init := by decide +kernel
set_option maxHeartbeats 16000000 in
set_option maxRecDepth 100000 in
theorem c_X0_init (l : Launch) (dC : Nat → ClassId) (dI : Nat → Nat → Nat) (cA : Nat → ClassId) (h0 : Nat) (sz : Nat) : Met l yX0_init wsX0_init ({ frames := 1, cells := 1, slots := 64, locals := 12 } : Room) (va_Pc [.ref h0] (preC dC dI cA [(h0, .inr (0, [.null, .int 0, .int 0]))] sz)) (va_Qv (fun _ => True) (fun (u : Nat) t => va_P (dC, dI) vwCl [(h0, .inr (0, [.ref u, .int 0, .int 0])), (u, .inl (cA 0, 64, .inr (.inr (.inr (.inl (fun _ => 0))))))] t.heap ∧ va_K (dC, dI) vwCl (tyC cA) t ∧ va_D (va_A [(h0, .inr (0, [.null, .int 0, .int 0]))] sz) [(h0, .inr (0, [.ref u, .int 0, .int 0])), (u, .inl (cA 0, 64, .inr (.inr (.inr (.inl (fun _ => 0))))))]) (va_A [(h0, .inr (0, [.null, .int 0, .int 0]))] sz)) 1 64 (va_A [(h0, .inr (0, [.null, .int 0, .int 0]))] sz) := by
  refine Met.ofW (cc := cX0_init) (maxL := 1) (ret := none) (by decide) rfl ?_
  intro p e s m args below meth c s₁ B hml hv
  obtain ⟨rfl, hsz, hP, hK, hD0⟩ := hv
  have hx := B.exec
  have hb := B.bytes
  have hr := B.returns
  have hts := atoms_spec (ws := wsX0_init) B.pre
  have hown : s.vm.findClass RX0 = some m.cls := findClass_of_methodNamed B.named
  have hlocks := B.notSynchronized
  have hin : meth.name = "<init>" := (name_of_methodNamed B.named B.method).1
  subst hsz
  have hD := hD0.self (sz := s.heap.size)
  clear hD0
  generalize hAe : va_A [(h0, .inr (0, [.null, .int 0, .int 0]))] s.heap.size = A at hD ⊢
  have hA : ∀ q : Nat, s.heap.size ≤ q → A q := fun q h => by rw [← hAe]; exact Or.inr h
  have hl := lv_entry ([.ref h0]) (n := 1) (Nat.le_of_ble_eq_true rfl)
  rw [lg_entry_eq]
  generalize (lg_sl ([.ref h0]) ++ List.replicate (1 - (lg_sl ([.ref h0])).length) Slot.unset).toArray = ls at hl ⊢
  have hl : lv_has ls 1 [(0, .ref h0)] := hl
  generalize hHe : s.heap = H at hP ⊢
  have hS : va_S A s.heap H [] := by rw [← hHe]; exact va_S.rf
  clear hHe
  refine lv_aload_n hx hb dX0_init_0 rfl (lv_at hl 0 rfl) ?_
  refine W.objInit hx hb hown (hts (.methodLink RX0 1 objectInit) (by decide +kernel)) (hts (.instanceMethod objectInit) (by decide +kernel)) (hts _ (List.mem_of_getElem? (i := 3) rfl)) rfl (by rw [hml]; exact hl.1) rfl dX0_init_1 (Nat.le_of_ble_eq_true rfl) (Nat.le_of_ble_eq_true rfl) ?_
  refine W.eq (g2 := F0 m 4 ls []) rfl ?_
  refine lv_aload_n hx hb dX0_init_4 rfl (lv_at hl 0 rfl) ?_
  refine lv_bipush (v := 64) hx hb dX0_init_5 (by decide) ?_
  refine va_newa (atype := .double) (ty := .double) (a0 := (64, .inr (.inr (.inr (.inl (fun _ => 0)))))) (N' := 64) hx hb (hts (.arrayClass .double) (by decide +kernel)) rfl hK hP hD hS hA (fun _ => rfl) (by decide) (by decide) (by decide) (Nat.le_of_ble_eq_true rfl) (Nat.le_of_ble_eq_true rfl) dX0_init_7 (fun q1 c9 H hK9 hP hD hS => ?_)
  obtain rfl := newK 0 hK9 hK rfl
  clear hK9
  have hP : va_P (dC, dI) vwCl [(h0, .inr (0, [.null, .int 0, .int 0])), (q1, .inl (cA 0, 64, .inr (.inr (.inr (.inl (fun _ => 0))))))] H := hP
  have hD : va_D A [(h0, .inr (0, [.null, .int 0, .int 0])), (q1, .inl (cA 0, 64, .inr (.inr (.inr (.inl (fun _ => 0))))))] := hD
  refine va_putF (D := (dC, dI)) (ci := 0) (v := .ref q1) (ty := (.array .double)) (C := RX0) (T := TX0) (N := 3) hx hb hts iX0_init_0 tyX0 tyX0_ok nmX0 hown hK hP hD hS 0 rfl rfl 0 (by decide) (hts (.fieldLink RX0 9 "LinkQueues$Coins" "row" "[D") (by decide +kernel)) (fun _ h9 => h9) rfl hin rfl (by decide +kernel) rfl rfl (Nat.le_of_ble_eq_true rfl) dX0_init_9 (fun H locs hP hD hS => ?_)
  have hP : va_P (dC, dI) vwCl [(h0, .inr (0, [.ref q1, .int 0, .int 0])), (q1, .inl (cA 0, 64, .inr (.inr (.inr (.inl (fun _ => 0))))))] H := hP
  have hD : va_D A [(h0, .inr (0, [.ref q1, .int 0, .int 0])), (q1, .inl (cA 0, 64, .inr (.inr (.inr (.inl (fun _ => 0))))))] := hD
  refine lv_aload_n hx hb dX0_init_12 rfl (lv_at hl 0 rfl) ?_
  refine lv_iconst (v := 0) hx hb dX0_init_13 (by decide) ?_
  refine va_put (D := (dC, dI)) (ci := 0) (v := .int 0) (ty := .int) (C := RX0) (T := TX0) (N := 3) hx hb hts iX0_init_0 tyX0 tyX0_ok nmX0 hown hK hP hD hS 0 rfl rfl 1 (by decide) (hts (.fieldLink RX0 13 "LinkQueues$Coins" "told" "I") (by decide +kernel)) (fun _ h9 => h9) rfl (by decide +kernel) rfl rfl (Nat.le_of_ble_eq_true rfl) dX0_init_14 (fun H locs hP hD hS => ?_)
  have hP : va_P (dC, dI) vwCl [(h0, .inr (0, [.ref q1, .int 0, .int 0])), (q1, .inl (cA 0, 64, .inr (.inr (.inr (.inl (fun _ => 0))))))] H := hP
  have hD : va_D A [(h0, .inr (0, [.ref q1, .int 0, .int 0])), (q1, .inl (cA 0, 64, .inr (.inr (.inr (.inl (fun _ => 0))))))] := hD
  refine lv_aload_n hx hb dX0_init_17 rfl (lv_at hl 0 rfl) ?_
  refine lv_iconst (v := 0) hx hb dX0_init_18 (by decide) ?_
  refine va_put (D := (dC, dI)) (ci := 0) (v := .int 0) (ty := .int) (C := RX0) (T := TX0) (N := 3) hx hb hts iX0_init_0 tyX0 tyX0_ok nmX0 hown hK hP hD hS 0 rfl rfl 2 (by decide) (hts (.fieldLink RX0 17 "LinkQueues$Coins" "used" "I") (by decide +kernel)) (fun _ h9 => h9) rfl (by decide +kernel) rfl rfl (Nat.le_of_ble_eq_true rfl) dX0_init_19 (fun H locs hP hD hS => ?_)
  have hP : va_P (dC, dI) vwCl [(h0, .inr (0, [.ref q1, .int 0, .int 0])), (q1, .inl (cA 0, 64, .inr (.inr (.inr (.inl (fun _ => 0))))))] H := hP
  have hD : va_D A [(h0, .inr (0, [.ref q1, .int 0, .int 0])), (q1, .inl (cA 0, 64, .inr (.inr (.inr (.inl (fun _ => 0))))))] := hD
  refine W.widen (k := 1) (n := 64) (Nat.le_of_ble_eq_true rfl) (Nat.le_of_ble_eq_true rfl) ?_
  exact W.vret hx hb hr (fun t ht hW => ⟨⟨q1, rfl, trivial, by rw [ht]; exact hP, va_K.moved hW.alike hK, hD⟩, hS.F ht⟩) hS.2.2 dX0_init_22
set_option maxRecDepth 20000 in
theorem iX1_init_1 : ∀ w ∈ wsX10, w ∈ wsX1_init := by decide +kernel
set_option maxHeartbeats 16000000 in
set_option maxRecDepth 100000 in
theorem c_X1_init (l : Launch) (dC : Nat → ClassId) (dI : Nat → Nat → Nat) (cA : Nat → ClassId) (h0 : Nat) (sz : Nat) : Met l yX1_init wsX1_init ({ frames := 1, cells := 0, slots := 0, locals := 12 } : Room) (va_Pc [.ref h0] (preC dC dI cA [(h0, .inr (1, [.double 0, .double 0, .int 0, .double 0, .int 0, .double 0, .int 0, .int 0]))] sz)) (va_Qv (fun _ => True) (fun (u : Unit) t => va_P (dC, dI) vwCl [(h0, .inr (1, [.double 4617315517961601024, .double 4636737291354636288, .int 0, .double FP.dconst0, .int 0, .double FP.dconst0, .int 0, .int 0]))] t.heap ∧ va_K (dC, dI) vwCl (tyC cA) t ∧ va_D (va_A [(h0, .inr (1, [.double 0, .double 0, .int 0, .double 0, .int 0, .double 0, .int 0, .int 0]))] sz) [(h0, .inr (1, [.double 4617315517961601024, .double 4636737291354636288, .int 0, .double FP.dconst0, .int 0, .double FP.dconst0, .int 0, .int 0]))]) (va_A [(h0, .inr (1, [.double 0, .double 0, .int 0, .double 0, .int 0, .double 0, .int 0, .int 0]))] sz)) 0 0 (va_A [(h0, .inr (1, [.double 0, .double 0, .int 0, .double 0, .int 0, .double 0, .int 0, .int 0]))] sz) := by
  refine Met.ofW (cc := cX1_init) (maxL := 1) (ret := none) (by decide) rfl ?_
  intro p e s m args below meth c s₁ B hml hv
  obtain ⟨rfl, hsz, hP, hK, hD0⟩ := hv
  have hx := B.exec
  have hb := B.bytes
  have hr := B.returns
  have hts := atoms_spec (ws := wsX1_init) B.pre
  have hown : s.vm.findClass RX1 = some m.cls := findClass_of_methodNamed B.named
  have hlocks := B.notSynchronized
  have hin : meth.name = "<init>" := (name_of_methodNamed B.named B.method).1
  subst hsz
  have hD := hD0.self (sz := s.heap.size)
  clear hD0
  generalize hAe : va_A [(h0, .inr (1, [.double 0, .double 0, .int 0, .double 0, .int 0, .double 0, .int 0, .int 0]))] s.heap.size = A at hD ⊢
  have hA : ∀ q : Nat, s.heap.size ≤ q → A q := fun q h => by rw [← hAe]; exact Or.inr h
  have hl := lv_entry ([.ref h0]) (n := 1) (Nat.le_of_ble_eq_true rfl)
  rw [lg_entry_eq]
  generalize (lg_sl ([.ref h0]) ++ List.replicate (1 - (lg_sl ([.ref h0])).length) Slot.unset).toArray = ls at hl ⊢
  have hl : lv_has ls 1 [(0, .ref h0)] := hl
  generalize hHe : s.heap = H at hP ⊢
  have hS : va_S A s.heap H [] := by rw [← hHe]; exact va_S.rf
  clear hHe
  refine lv_aload_n hx hb dX1_init_0 rfl (lv_at hl 0 rfl) ?_
  refine W.objInit hx hb hown (hts (.methodLink RX1 1 objectInit) (by decide +kernel)) (hts (.instanceMethod objectInit) (by decide +kernel)) (hts _ (List.mem_of_getElem? (i := 3) rfl)) rfl (by rw [hml]; exact hl.1) rfl dX1_init_1 (Nat.le_of_ble_eq_true rfl) (Nat.le_of_ble_eq_true rfl) ?_
  refine W.eq (g2 := F0 m 4 ls []) rfl ?_
  refine lv_aload_n hx hb dX1_init_4 rfl (lv_at hl 0 rfl) ?_
  refine lv_ldc2d (v := 4617315517961601024) hx hb hown (hts (.constantDouble RX1 7 (4617315517961601024)) (by decide +kernel)) dX1_init_5 ?_
  refine va_put (D := (dC, dI)) (ci := 1) (v := .double 4617315517961601024) (ty := .double) (C := RX1) (T := TX1) (N := 8) hx hb hts iX1_init_1 tyX1 tyX1_ok nmX1 hown hK hP hD hS 0 rfl rfl 0 (by decide) (hts (.fieldLink RX1 9 "LinkQueues$Delay" "target" "D") (by decide +kernel)) (fun _ h9 => h9) rfl (by decide +kernel) rfl rfl (Nat.le_of_ble_eq_true rfl) dX1_init_8 (fun H locs hP hD hS => ?_)
  have hP : va_P (dC, dI) vwCl [(h0, .inr (1, [.double 4617315517961601024, .double 0, .int 0, .double 0, .int 0, .double 0, .int 0, .int 0]))] H := hP
  have hD : va_D A [(h0, .inr (1, [.double 4617315517961601024, .double 0, .int 0, .double 0, .int 0, .double 0, .int 0, .int 0]))] := hD
  refine lv_aload_n hx hb dX1_init_11 rfl (lv_at hl 0 rfl) ?_
  refine lv_ldc2d (v := 4636737291354636288) hx hb hown (hts (.constantDouble RX1 15 (4636737291354636288)) (by decide +kernel)) dX1_init_12 ?_
  refine va_put (D := (dC, dI)) (ci := 1) (v := .double 4636737291354636288) (ty := .double) (C := RX1) (T := TX1) (N := 8) hx hb hts iX1_init_1 tyX1 tyX1_ok nmX1 hown hK hP hD hS 0 rfl rfl 1 (by decide) (hts (.fieldLink RX1 17 "LinkQueues$Delay" "interval" "D") (by decide +kernel)) (fun _ h9 => h9) rfl (by decide +kernel) rfl rfl (Nat.le_of_ble_eq_true rfl) dX1_init_15 (fun H locs hP hD hS => ?_)
  have hP : va_P (dC, dI) vwCl [(h0, .inr (1, [.double 4617315517961601024, .double 4636737291354636288, .int 0, .double 0, .int 0, .double 0, .int 0, .int 0]))] H := hP
  have hD : va_D A [(h0, .inr (1, [.double 4617315517961601024, .double 4636737291354636288, .int 0, .double 0, .int 0, .double 0, .int 0, .int 0]))] := hD
  refine lv_aload_n hx hb dX1_init_18 rfl (lv_at hl 0 rfl) ?_
  refine lv_iconst (v := 0) hx hb dX1_init_19 (by decide) ?_
  refine va_put (D := (dC, dI)) (ci := 1) (v := .int 0) (ty := .boolean) (C := RX1) (T := TX1) (N := 8) hx hb hts iX1_init_1 tyX1 tyX1_ok nmX1 hown hK hP hD hS 0 rfl rfl 2 (by decide) (hts (.fieldLink RX1 20 "LinkQueues$Delay" "isAbove" "Z") (by decide +kernel)) (fun _ h9 => h9) rfl (by decide +kernel) rfl rfl (Nat.le_of_ble_eq_true rfl) dX1_init_20 (fun H locs hP hD hS => ?_)
  have hP : va_P (dC, dI) vwCl [(h0, .inr (1, [.double 4617315517961601024, .double 4636737291354636288, .int 0, .double 0, .int 0, .double 0, .int 0, .int 0]))] H := hP
  have hD : va_D A [(h0, .inr (1, [.double 4617315517961601024, .double 4636737291354636288, .int 0, .double 0, .int 0, .double 0, .int 0, .int 0]))] := hD
  refine lv_aload_n hx hb dX1_init_23 rfl (lv_at hl 0 rfl) ?_
  refine lv_dconst0 hx hb dX1_init_24 ?_
  refine va_put (D := (dC, dI)) (ci := 1) (v := .double FP.dconst0) (ty := .double) (C := RX1) (T := TX1) (N := 8) hx hb hts iX1_init_1 tyX1 tyX1_ok nmX1 hown hK hP hD hS 0 rfl rfl 3 (by decide) (hts (.fieldLink RX1 24 "LinkQueues$Delay" "above" "D") (by decide +kernel)) (fun _ h9 => h9) rfl (by decide +kernel) rfl rfl (Nat.le_of_ble_eq_true rfl) dX1_init_25 (fun H locs hP hD hS => ?_)
  have hP : va_P (dC, dI) vwCl [(h0, .inr (1, [.double 4617315517961601024, .double 4636737291354636288, .int 0, .double FP.dconst0, .int 0, .double 0, .int 0, .int 0]))] H := hP
  have hD : va_D A [(h0, .inr (1, [.double 4617315517961601024, .double 4636737291354636288, .int 0, .double FP.dconst0, .int 0, .double 0, .int 0, .int 0]))] := hD
  refine lv_aload_n hx hb dX1_init_28 rfl (lv_at hl 0 rfl) ?_
  refine lv_iconst (v := 0) hx hb dX1_init_29 (by decide) ?_
  refine va_put (D := (dC, dI)) (ci := 1) (v := .int 0) (ty := .boolean) (C := RX1) (T := TX1) (N := 8) hx hb hts iX1_init_1 tyX1 tyX1_ok nmX1 hown hK hP hD hS 0 rfl rfl 4 (by decide) (hts (.fieldLink RX1 27 "LinkQueues$Delay" "drops" "Z") (by decide +kernel)) (fun _ h9 => h9) rfl (by decide +kernel) rfl rfl (Nat.le_of_ble_eq_true rfl) dX1_init_30 (fun H locs hP hD hS => ?_)
  have hP : va_P (dC, dI) vwCl [(h0, .inr (1, [.double 4617315517961601024, .double 4636737291354636288, .int 0, .double FP.dconst0, .int 0, .double 0, .int 0, .int 0]))] H := hP
  have hD : va_D A [(h0, .inr (1, [.double 4617315517961601024, .double 4636737291354636288, .int 0, .double FP.dconst0, .int 0, .double 0, .int 0, .int 0]))] := hD
  refine lv_aload_n hx hb dX1_init_33 rfl (lv_at hl 0 rfl) ?_
  refine lv_dconst0 hx hb dX1_init_34 ?_
  refine va_put (D := (dC, dI)) (ci := 1) (v := .double FP.dconst0) (ty := .double) (C := RX1) (T := TX1) (N := 8) hx hb hts iX1_init_1 tyX1 tyX1_ok nmX1 hown hK hP hD hS 0 rfl rfl 5 (by decide) (hts (.fieldLink RX1 30 "LinkQueues$Delay" "next" "D") (by decide +kernel)) (fun _ h9 => h9) rfl (by decide +kernel) rfl rfl (Nat.le_of_ble_eq_true rfl) dX1_init_35 (fun H locs hP hD hS => ?_)
  have hP : va_P (dC, dI) vwCl [(h0, .inr (1, [.double 4617315517961601024, .double 4636737291354636288, .int 0, .double FP.dconst0, .int 0, .double FP.dconst0, .int 0, .int 0]))] H := hP
  have hD : va_D A [(h0, .inr (1, [.double 4617315517961601024, .double 4636737291354636288, .int 0, .double FP.dconst0, .int 0, .double FP.dconst0, .int 0, .int 0]))] := hD
  refine lv_aload_n hx hb dX1_init_38 rfl (lv_at hl 0 rfl) ?_
  refine lv_iconst (v := 0) hx hb dX1_init_39 (by decide) ?_
  refine va_put (D := (dC, dI)) (ci := 1) (v := .int 0) (ty := .int) (C := RX1) (T := TX1) (N := 8) hx hb hts iX1_init_1 tyX1 tyX1_ok nmX1 hown hK hP hD hS 0 rfl rfl 6 (by decide) (hts (.fieldLink RX1 33 "LinkQueues$Delay" "count" "I") (by decide +kernel)) (fun _ h9 => h9) rfl (by decide +kernel) rfl rfl (Nat.le_of_ble_eq_true rfl) dX1_init_40 (fun H locs hP hD hS => ?_)
  have hP : va_P (dC, dI) vwCl [(h0, .inr (1, [.double 4617315517961601024, .double 4636737291354636288, .int 0, .double FP.dconst0, .int 0, .double FP.dconst0, .int 0, .int 0]))] H := hP
  have hD : va_D A [(h0, .inr (1, [.double 4617315517961601024, .double 4636737291354636288, .int 0, .double FP.dconst0, .int 0, .double FP.dconst0, .int 0, .int 0]))] := hD
  refine lv_aload_n hx hb dX1_init_43 rfl (lv_at hl 0 rfl) ?_
  refine lv_iconst (v := 0) hx hb dX1_init_44 (by decide) ?_
  refine va_put (D := (dC, dI)) (ci := 1) (v := .int 0) (ty := .int) (C := RX1) (T := TX1) (N := 8) hx hb hts iX1_init_1 tyX1 tyX1_ok nmX1 hown hK hP hD hS 0 rfl rfl 7 (by decide) (hts (.fieldLink RX1 37 "LinkQueues$Delay" "last" "I") (by decide +kernel)) (fun _ h9 => h9) rfl (by decide +kernel) rfl rfl (Nat.le_of_ble_eq_true rfl) dX1_init_45 (fun H locs hP hD hS => ?_)
  have hP : va_P (dC, dI) vwCl [(h0, .inr (1, [.double 4617315517961601024, .double 4636737291354636288, .int 0, .double FP.dconst0, .int 0, .double FP.dconst0, .int 0, .int 0]))] H := hP
  have hD : va_D A [(h0, .inr (1, [.double 4617315517961601024, .double 4636737291354636288, .int 0, .double FP.dconst0, .int 0, .double FP.dconst0, .int 0, .int 0]))] := hD
  refine W.widen (k := 0) (n := 0) (Nat.le_of_ble_eq_true rfl) (Nat.le_of_ble_eq_true rfl) ?_
  exact W.vret hx hb hr (fun t ht hW => ⟨⟨(), rfl, trivial, by rw [ht]; exact hP, va_K.moved hW.alike hK, hD⟩, hS.F ht⟩) hS.2.2 dX1_init_48
set_option maxRecDepth 20000 in
theorem iX3_init_3 : ∀ w ∈ wsX30, w ∈ wsX3_init := by decide +kernel
set_option maxHeartbeats 16000000 in
set_option maxRecDepth 100000 in
theorem c_X3_init (l : Launch) (dC : Nat → ClassId) (dI : Nat → Nat → Nat) (cA : Nat → ClassId) (h0 : Nat) (sz : Nat) : Met l yX3_init wsX3_init ({ frames := 1, cells := 0, slots := 0, locals := 12 } : Room) (va_Pc [.ref h0] (preC dC dI cA [(h0, .inr (3, [.double 0, .double 0, .double 0, .double 0, .double 0, .int 0, .int 0]))] sz)) (va_Qv (fun _ => True) (fun (u : Unit) t => va_P (dC, dI) vwCl [(h0, .inr (3, [.double 4617315517961601024, .double 4624633867356078080, .double 4591870180066957722, .double 4598175219545276416, .double FP.dconst0, .int (-1), .int 0]))] t.heap ∧ va_K (dC, dI) vwCl (tyC cA) t ∧ va_D (va_A [(h0, .inr (3, [.double 0, .double 0, .double 0, .double 0, .double 0, .int 0, .int 0]))] sz) [(h0, .inr (3, [.double 4617315517961601024, .double 4624633867356078080, .double 4591870180066957722, .double 4598175219545276416, .double FP.dconst0, .int (-1), .int 0]))]) (va_A [(h0, .inr (3, [.double 0, .double 0, .double 0, .double 0, .double 0, .int 0, .int 0]))] sz)) 0 0 (va_A [(h0, .inr (3, [.double 0, .double 0, .double 0, .double 0, .double 0, .int 0, .int 0]))] sz) := by
  refine Met.ofW (cc := cX3_init) (maxL := 1) (ret := none) (by decide) rfl ?_
  intro p e s m args below meth c s₁ B hml hv
  obtain ⟨rfl, hsz, hP, hK, hD0⟩ := hv
  have hx := B.exec
  have hb := B.bytes
  have hr := B.returns
  have hts := atoms_spec (ws := wsX3_init) B.pre
  have hown : s.vm.findClass RX3 = some m.cls := findClass_of_methodNamed B.named
  have hlocks := B.notSynchronized
  have hin : meth.name = "<init>" := (name_of_methodNamed B.named B.method).1
  subst hsz
  have hD := hD0.self (sz := s.heap.size)
  clear hD0
  generalize hAe : va_A [(h0, .inr (3, [.double 0, .double 0, .double 0, .double 0, .double 0, .int 0, .int 0]))] s.heap.size = A at hD ⊢
  have hA : ∀ q : Nat, s.heap.size ≤ q → A q := fun q h => by rw [← hAe]; exact Or.inr h
  have hl := lv_entry ([.ref h0]) (n := 1) (Nat.le_of_ble_eq_true rfl)
  rw [lg_entry_eq]
  generalize (lg_sl ([.ref h0]) ++ List.replicate (1 - (lg_sl ([.ref h0])).length) Slot.unset).toArray = ls at hl ⊢
  have hl : lv_has ls 1 [(0, .ref h0)] := hl
  generalize hHe : s.heap = H at hP ⊢
  have hS : va_S A s.heap H [] := by rw [← hHe]; exact va_S.rf
  clear hHe
  refine lv_aload_n hx hb dX3_init_0 rfl (lv_at hl 0 rfl) ?_
  refine W.objInit hx hb hown (hts (.methodLink RX3 1 objectInit) (by decide +kernel)) (hts (.instanceMethod objectInit) (by decide +kernel)) (hts _ (List.mem_of_getElem? (i := 3) rfl)) rfl (by rw [hml]; exact hl.1) rfl dX3_init_1 (Nat.le_of_ble_eq_true rfl) (Nat.le_of_ble_eq_true rfl) ?_
  refine W.eq (g2 := F0 m 4 ls []) rfl ?_
  refine lv_aload_n hx hb dX3_init_4 rfl (lv_at hl 0 rfl) ?_
  refine lv_ldc2d (v := 4617315517961601024) hx hb hown (hts (.constantDouble RX3 7 (4617315517961601024)) (by decide +kernel)) dX3_init_5 ?_
  refine va_put (D := (dC, dI)) (ci := 3) (v := .double 4617315517961601024) (ty := .double) (C := RX3) (T := TX3) (N := 7) hx hb hts iX3_init_3 tyX3 tyX3_ok nmX3 hown hK hP hD hS 0 rfl rfl 0 (by decide) (hts (.fieldLink RX3 9 "LinkQueues$Mean" "low" "D") (by decide +kernel)) (fun _ h9 => h9) rfl (by decide +kernel) rfl rfl (Nat.le_of_ble_eq_true rfl) dX3_init_8 (fun H locs hP hD hS => ?_)
  have hP : va_P (dC, dI) vwCl [(h0, .inr (3, [.double 4617315517961601024, .double 0, .double 0, .double 0, .double 0, .int 0, .int 0]))] H := hP
  have hD : va_D A [(h0, .inr (3, [.double 4617315517961601024, .double 0, .double 0, .double 0, .double 0, .int 0, .int 0]))] := hD
  refine lv_aload_n hx hb dX3_init_11 rfl (lv_at hl 0 rfl) ?_
  refine lv_ldc2d (v := 4624633867356078080) hx hb hown (hts (.constantDouble RX3 15 (4624633867356078080)) (by decide +kernel)) dX3_init_12 ?_
  refine va_put (D := (dC, dI)) (ci := 3) (v := .double 4624633867356078080) (ty := .double) (C := RX3) (T := TX3) (N := 7) hx hb hts iX3_init_3 tyX3 tyX3_ok nmX3 hown hK hP hD hS 0 rfl rfl 1 (by decide) (hts (.fieldLink RX3 17 "LinkQueues$Mean" "high" "D") (by decide +kernel)) (fun _ h9 => h9) rfl (by decide +kernel) rfl rfl (Nat.le_of_ble_eq_true rfl) dX3_init_15 (fun H locs hP hD hS => ?_)
  have hP : va_P (dC, dI) vwCl [(h0, .inr (3, [.double 4617315517961601024, .double 4624633867356078080, .double 0, .double 0, .double 0, .int 0, .int 0]))] H := hP
  have hD : va_D A [(h0, .inr (3, [.double 4617315517961601024, .double 4624633867356078080, .double 0, .double 0, .double 0, .int 0, .int 0]))] := hD
  refine lv_aload_n hx hb dX3_init_18 rfl (lv_at hl 0 rfl) ?_
  refine lv_ldc2d (v := 4591870180066957722) hx hb hown (hts (.constantDouble RX3 20 (4591870180066957722)) (by decide +kernel)) dX3_init_19 ?_
  refine va_put (D := (dC, dI)) (ci := 3) (v := .double 4591870180066957722) (ty := .double) (C := RX3) (T := TX3) (N := 7) hx hb hts iX3_init_3 tyX3 tyX3_ok nmX3 hown hK hP hD hS 0 rfl rfl 2 (by decide) (hts (.fieldLink RX3 22 "LinkQueues$Mean" "top" "D") (by decide +kernel)) (fun _ h9 => h9) rfl (by decide +kernel) rfl rfl (Nat.le_of_ble_eq_true rfl) dX3_init_22 (fun H locs hP hD hS => ?_)
  have hP : va_P (dC, dI) vwCl [(h0, .inr (3, [.double 4617315517961601024, .double 4624633867356078080, .double 4591870180066957722, .double 0, .double 0, .int 0, .int 0]))] H := hP
  have hD : va_D A [(h0, .inr (3, [.double 4617315517961601024, .double 4624633867356078080, .double 4591870180066957722, .double 0, .double 0, .int 0, .int 0]))] := hD
  refine lv_aload_n hx hb dX3_init_25 rfl (lv_at hl 0 rfl) ?_
  refine lv_ldc2d (v := 4598175219545276416) hx hb hown (hts (.constantDouble RX3 25 (4598175219545276416)) (by decide +kernel)) dX3_init_26 ?_
  refine va_put (D := (dC, dI)) (ci := 3) (v := .double 4598175219545276416) (ty := .double) (C := RX3) (T := TX3) (N := 7) hx hb hts iX3_init_3 tyX3 tyX3_ok nmX3 hown hK hP hD hS 0 rfl rfl 3 (by decide) (hts (.fieldLink RX3 27 "LinkQueues$Mean" "weight" "D") (by decide +kernel)) (fun _ h9 => h9) rfl (by decide +kernel) rfl rfl (Nat.le_of_ble_eq_true rfl) dX3_init_29 (fun H locs hP hD hS => ?_)
  have hP : va_P (dC, dI) vwCl [(h0, .inr (3, [.double 4617315517961601024, .double 4624633867356078080, .double 4591870180066957722, .double 4598175219545276416, .double 0, .int 0, .int 0]))] H := hP
  have hD : va_D A [(h0, .inr (3, [.double 4617315517961601024, .double 4624633867356078080, .double 4591870180066957722, .double 4598175219545276416, .double 0, .int 0, .int 0]))] := hD
  refine lv_aload_n hx hb dX3_init_32 rfl (lv_at hl 0 rfl) ?_
  refine lv_dconst0 hx hb dX3_init_33 ?_
  refine va_put (D := (dC, dI)) (ci := 3) (v := .double FP.dconst0) (ty := .double) (C := RX3) (T := TX3) (N := 7) hx hb hts iX3_init_3 tyX3 tyX3_ok nmX3 hown hK hP hD hS 0 rfl rfl 4 (by decide) (hts (.fieldLink RX3 30 "LinkQueues$Mean" "average" "D") (by decide +kernel)) (fun _ h9 => h9) rfl (by decide +kernel) rfl rfl (Nat.le_of_ble_eq_true rfl) dX3_init_34 (fun H locs hP hD hS => ?_)
  have hP : va_P (dC, dI) vwCl [(h0, .inr (3, [.double 4617315517961601024, .double 4624633867356078080, .double 4591870180066957722, .double 4598175219545276416, .double FP.dconst0, .int 0, .int 0]))] H := hP
  have hD : va_D A [(h0, .inr (3, [.double 4617315517961601024, .double 4624633867356078080, .double 4591870180066957722, .double 4598175219545276416, .double FP.dconst0, .int 0, .int 0]))] := hD
  refine lv_aload_n hx hb dX3_init_37 rfl (lv_at hl 0 rfl) ?_
  refine lv_iconst (v := (-1)) hx hb dX3_init_38 (by decide) ?_
  refine va_put (D := (dC, dI)) (ci := 3) (v := .int (-1)) (ty := .int) (C := RX3) (T := TX3) (N := 7) hx hb hts iX3_init_3 tyX3 tyX3_ok nmX3 hown hK hP hD hS 0 rfl rfl 5 (by decide) (hts (.fieldLink RX3 33 "LinkQueues$Mean" "count" "I") (by decide +kernel)) (fun _ h9 => h9) rfl (by decide +kernel) rfl rfl (Nat.le_of_ble_eq_true rfl) dX3_init_39 (fun H locs hP hD hS => ?_)
  have hP : va_P (dC, dI) vwCl [(h0, .inr (3, [.double 4617315517961601024, .double 4624633867356078080, .double 4591870180066957722, .double 4598175219545276416, .double FP.dconst0, .int (-1), .int 0]))] H := hP
  have hD : va_D A [(h0, .inr (3, [.double 4617315517961601024, .double 4624633867356078080, .double 4591870180066957722, .double 4598175219545276416, .double FP.dconst0, .int (-1), .int 0]))] := hD
  refine lv_aload_n hx hb dX3_init_42 rfl (lv_at hl 0 rfl) ?_
  refine lv_iconst (v := 0) hx hb dX3_init_43 (by decide) ?_
  refine va_put (D := (dC, dI)) (ci := 3) (v := .int 0) (ty := .int) (C := RX3) (T := TX3) (N := 7) hx hb hts iX3_init_3 tyX3 tyX3_ok nmX3 hown hK hP hD hS 0 rfl rfl 6 (by decide) (hts (.fieldLink RX3 37 "LinkQueues$Mean" "emptySince" "I") (by decide +kernel)) (fun _ h9 => h9) rfl (by decide +kernel) rfl rfl (Nat.le_of_ble_eq_true rfl) dX3_init_44 (fun H locs hP hD hS => ?_)
  have hP : va_P (dC, dI) vwCl [(h0, .inr (3, [.double 4617315517961601024, .double 4624633867356078080, .double 4591870180066957722, .double 4598175219545276416, .double FP.dconst0, .int (-1), .int 0]))] H := hP
  have hD : va_D A [(h0, .inr (3, [.double 4617315517961601024, .double 4624633867356078080, .double 4591870180066957722, .double 4598175219545276416, .double FP.dconst0, .int (-1), .int 0]))] := hD
  refine W.widen (k := 0) (n := 0) (Nat.le_of_ble_eq_true rfl) (Nat.le_of_ble_eq_true rfl) ?_
  exact W.vret hx hb hr (fun t ht hW => ⟨⟨(), rfl, trivial, by rw [ht]; exact hP, va_K.moved hW.alike hK, hD⟩, hS.F ht⟩) hS.2.2 dX3_init_47
set_option maxRecDepth 20000 in
theorem iX6_init_6 : ∀ w ∈ wsX60, w ∈ wsX6_init := by decide +kernel
set_option maxHeartbeats 16000000 in
set_option maxRecDepth 100000 in
theorem c_X6_init (l : Launch) (dC : Nat → ClassId) (dI : Nat → Nat → Nat) (cA : Nat → ClassId) (h0 : Nat) (sz : Nat) : Met l yX6_init wsX6_init ({ frames := 1, cells := 0, slots := 0, locals := 12 } : Room) (va_Pc [.ref h0] (preC dC dI cA [(h0, .inr (6, [.null, .null, .int 0, .int 0]))] sz)) (va_Qv (fun _ => True) (fun (u : Unit) t => va_P (dC, dI) vwCl [(h0, .inr (6, [.null, .null, .int 0, .int 0]))] t.heap ∧ va_K (dC, dI) vwCl (tyC cA) t ∧ va_D (va_A [(h0, .inr (6, [.null, .null, .int 0, .int 0]))] sz) [(h0, .inr (6, [.null, .null, .int 0, .int 0]))]) (va_A [(h0, .inr (6, [.null, .null, .int 0, .int 0]))] sz)) 0 0 (va_A [(h0, .inr (6, [.null, .null, .int 0, .int 0]))] sz) := by
  refine Met.ofW (cc := cX6_init) (maxL := 1) (ret := none) (by decide) rfl ?_
  intro p e s m args below meth c s₁ B hml hv
  obtain ⟨rfl, hsz, hP, hK, hD0⟩ := hv
  have hx := B.exec
  have hb := B.bytes
  have hr := B.returns
  have hts := atoms_spec (ws := wsX6_init) B.pre
  have hown : s.vm.findClass RX6 = some m.cls := findClass_of_methodNamed B.named
  have hlocks := B.notSynchronized
  have hin : meth.name = "<init>" := (name_of_methodNamed B.named B.method).1
  subst hsz
  have hD := hD0.self (sz := s.heap.size)
  clear hD0
  generalize hAe : va_A [(h0, .inr (6, [.null, .null, .int 0, .int 0]))] s.heap.size = A at hD ⊢
  have hA : ∀ q : Nat, s.heap.size ≤ q → A q := fun q h => by rw [← hAe]; exact Or.inr h
  have hl := lv_entry ([.ref h0]) (n := 1) (Nat.le_of_ble_eq_true rfl)
  rw [lg_entry_eq]
  generalize (lg_sl ([.ref h0]) ++ List.replicate (1 - (lg_sl ([.ref h0])).length) Slot.unset).toArray = ls at hl ⊢
  have hl : lv_has ls 1 [(0, .ref h0)] := hl
  generalize hHe : s.heap = H at hP ⊢
  have hS : va_S A s.heap H [] := by rw [← hHe]; exact va_S.rf
  clear hHe
  refine lv_aload_n hx hb dX6_init_0 rfl (lv_at hl 0 rfl) ?_
  refine W.objInit hx hb hown (hts (.methodLink RX6 1 objectInit) (by decide +kernel)) (hts (.instanceMethod objectInit) (by decide +kernel)) (hts _ (List.mem_of_getElem? (i := 3) rfl)) rfl (by rw [hml]; exact hl.1) rfl dX6_init_1 (Nat.le_of_ble_eq_true rfl) (Nat.le_of_ble_eq_true rfl) ?_
  refine W.eq (g2 := F0 m 4 ls []) rfl ?_
  refine lv_aload_n hx hb dX6_init_4 rfl (lv_at hl 0 rfl) ?_
  refine lv_null hx hb dX6_init_5 ?_
  refine va_put (D := (dC, dI)) (ci := 6) (v := .null) (ty := (.object "LinkQueues$Packet")) (C := RX6) (T := TX6) (N := 4) hx hb hts iX6_init_6 tyX6 tyX6_ok nmX6 hown hK hP hD hS 0 rfl rfl 0 (by decide) (hts (.fieldLink RX6 7 "LinkQueues$Queue" "first" "LLinkQueues$Packet;") (by decide +kernel)) (fun _ h9 => h9) rfl (by decide +kernel) rfl rfl (Nat.le_of_ble_eq_true rfl) dX6_init_6 (fun H locs hP hD hS => ?_)
  have hP : va_P (dC, dI) vwCl [(h0, .inr (6, [.null, .null, .int 0, .int 0]))] H := hP
  have hD : va_D A [(h0, .inr (6, [.null, .null, .int 0, .int 0]))] := hD
  refine lv_aload_n hx hb dX6_init_9 rfl (lv_at hl 0 rfl) ?_
  refine lv_null hx hb dX6_init_10 ?_
  refine va_put (D := (dC, dI)) (ci := 6) (v := .null) (ty := (.object "LinkQueues$Packet")) (C := RX6) (T := TX6) (N := 4) hx hb hts iX6_init_6 tyX6 tyX6_ok nmX6 hown hK hP hD hS 0 rfl rfl 1 (by decide) (hts (.fieldLink RX6 13 "LinkQueues$Queue" "last" "LLinkQueues$Packet;") (by decide +kernel)) (fun _ h9 => h9) rfl (by decide +kernel) rfl rfl (Nat.le_of_ble_eq_true rfl) dX6_init_11 (fun H locs hP hD hS => ?_)
  have hP : va_P (dC, dI) vwCl [(h0, .inr (6, [.null, .null, .int 0, .int 0]))] H := hP
  have hD : va_D A [(h0, .inr (6, [.null, .null, .int 0, .int 0]))] := hD
  refine lv_aload_n hx hb dX6_init_14 rfl (lv_at hl 0 rfl) ?_
  refine lv_iconst (v := 0) hx hb dX6_init_15 (by decide) ?_
  refine va_put (D := (dC, dI)) (ci := 6) (v := .int 0) (ty := .int) (C := RX6) (T := TX6) (N := 4) hx hb hts iX6_init_6 tyX6 tyX6_ok nmX6 hown hK hP hD hS 0 rfl rfl 2 (by decide) (hts (.fieldLink RX6 16 "LinkQueues$Queue" "packets" "I") (by decide +kernel)) (fun _ h9 => h9) rfl (by decide +kernel) rfl rfl (Nat.le_of_ble_eq_true rfl) dX6_init_16 (fun H locs hP hD hS => ?_)
  have hP : va_P (dC, dI) vwCl [(h0, .inr (6, [.null, .null, .int 0, .int 0]))] H := hP
  have hD : va_D A [(h0, .inr (6, [.null, .null, .int 0, .int 0]))] := hD
  refine lv_aload_n hx hb dX6_init_19 rfl (lv_at hl 0 rfl) ?_
  refine lv_iconst (v := 0) hx hb dX6_init_20 (by decide) ?_
  refine va_put (D := (dC, dI)) (ci := 6) (v := .int 0) (ty := .int) (C := RX6) (T := TX6) (N := 4) hx hb hts iX6_init_6 tyX6 tyX6_ok nmX6 hown hK hP hD hS 0 rfl rfl 3 (by decide) (hts (.fieldLink RX6 20 "LinkQueues$Queue" "bytes" "I") (by decide +kernel)) (fun _ h9 => h9) rfl (by decide +kernel) rfl rfl (Nat.le_of_ble_eq_true rfl) dX6_init_21 (fun H locs hP hD hS => ?_)
  have hP : va_P (dC, dI) vwCl [(h0, .inr (6, [.null, .null, .int 0, .int 0]))] H := hP
  have hD : va_D A [(h0, .inr (6, [.null, .null, .int 0, .int 0]))] := hD
  refine W.widen (k := 0) (n := 0) (Nat.le_of_ble_eq_true rfl) (Nat.le_of_ble_eq_true rfl) ?_
  exact W.vret hx hb hr (fun t ht hW => ⟨⟨(), rfl, trivial, by rw [ht]; exact hP, va_K.moved hW.alike hK, hD⟩, hS.F ht⟩) hS.2.2 dX6_init_24
set_option maxRecDepth 20000 in
theorem iX7_init_7 : ∀ w ∈ wsX70, w ∈ wsX7_init := by decide +kernel
set_option maxHeartbeats 16000000 in
set_option maxRecDepth 100000 in
theorem c_X7_init (l : Launch) (dC : Nat → ClassId) (dI : Nat → Nat → Nat) (cA : Nat → ClassId) (h0 : Nat) (sz : Nat) : Met l yX7_init wsX7_init ({ frames := 1, cells := 0, slots := 0, locals := 12 } : Room) (va_Pc [.ref h0] (preC dC dI cA [(h0, .inr (7, [.null, .null, .int 0]))] sz)) (va_Qv (fun _ => True) (fun (u : Unit) t => va_P (dC, dI) vwCl [(h0, .inr (7, [.null, .null, .int 0]))] t.heap ∧ va_K (dC, dI) vwCl (tyC cA) t ∧ va_D (va_A [(h0, .inr (7, [.null, .null, .int 0]))] sz) [(h0, .inr (7, [.null, .null, .int 0]))]) (va_A [(h0, .inr (7, [.null, .null, .int 0]))] sz)) 0 0 (va_A [(h0, .inr (7, [.null, .null, .int 0]))] sz) := by
  refine Met.ofW (cc := cX7_init) (maxL := 1) (ret := none) (by decide) rfl ?_
  intro p e s m args below meth c s₁ B hml hv
  obtain ⟨rfl, hsz, hP, hK, hD0⟩ := hv
  have hx := B.exec
  have hb := B.bytes
  have hr := B.returns
  have hts := atoms_spec (ws := wsX7_init) B.pre
  have hown : s.vm.findClass RX7 = some m.cls := findClass_of_methodNamed B.named
  have hlocks := B.notSynchronized
  have hin : meth.name = "<init>" := (name_of_methodNamed B.named B.method).1
  subst hsz
  have hD := hD0.self (sz := s.heap.size)
  clear hD0
  generalize hAe : va_A [(h0, .inr (7, [.null, .null, .int 0]))] s.heap.size = A at hD ⊢
  have hA : ∀ q : Nat, s.heap.size ≤ q → A q := fun q h => by rw [← hAe]; exact Or.inr h
  have hl := lv_entry ([.ref h0]) (n := 1) (Nat.le_of_ble_eq_true rfl)
  rw [lg_entry_eq]
  generalize (lg_sl ([.ref h0]) ++ List.replicate (1 - (lg_sl ([.ref h0])).length) Slot.unset).toArray = ls at hl ⊢
  have hl : lv_has ls 1 [(0, .ref h0)] := hl
  generalize hHe : s.heap = H at hP ⊢
  have hS : va_S A s.heap H [] := by rw [← hHe]; exact va_S.rf
  clear hHe
  refine lv_aload_n hx hb dX7_init_0 rfl (lv_at hl 0 rfl) ?_
  refine W.objInit hx hb hown (hts (.methodLink RX7 1 objectInit) (by decide +kernel)) (hts (.instanceMethod objectInit) (by decide +kernel)) (hts _ (List.mem_of_getElem? (i := 3) rfl)) rfl (by rw [hml]; exact hl.1) rfl dX7_init_1 (Nat.le_of_ble_eq_true rfl) (Nat.le_of_ble_eq_true rfl) ?_
  refine W.eq (g2 := F0 m 4 ls []) rfl ?_
  refine lv_aload_n hx hb dX7_init_4 rfl (lv_at hl 0 rfl) ?_
  refine lv_null hx hb dX7_init_5 ?_
  refine va_put (D := (dC, dI)) (ci := 7) (v := .null) (ty := (.object "LinkQueues$Flow")) (C := RX7) (T := TX7) (N := 3) hx hb hts iX7_init_7 tyX7 tyX7_ok nmX7 hown hK hP hD hS 0 rfl rfl 0 (by decide) (hts (.fieldLink RX7 7 "LinkQueues$Turns" "first" "LLinkQueues$Flow;") (by decide +kernel)) (fun _ h9 => h9) rfl (by decide +kernel) rfl rfl (Nat.le_of_ble_eq_true rfl) dX7_init_6 (fun H locs hP hD hS => ?_)
  have hP : va_P (dC, dI) vwCl [(h0, .inr (7, [.null, .null, .int 0]))] H := hP
  have hD : va_D A [(h0, .inr (7, [.null, .null, .int 0]))] := hD
  refine lv_aload_n hx hb dX7_init_9 rfl (lv_at hl 0 rfl) ?_
  refine lv_null hx hb dX7_init_10 ?_
  refine va_put (D := (dC, dI)) (ci := 7) (v := .null) (ty := (.object "LinkQueues$Flow")) (C := RX7) (T := TX7) (N := 3) hx hb hts iX7_init_7 tyX7 tyX7_ok nmX7 hown hK hP hD hS 0 rfl rfl 1 (by decide) (hts (.fieldLink RX7 13 "LinkQueues$Turns" "last" "LLinkQueues$Flow;") (by decide +kernel)) (fun _ h9 => h9) rfl (by decide +kernel) rfl rfl (Nat.le_of_ble_eq_true rfl) dX7_init_11 (fun H locs hP hD hS => ?_)
  have hP : va_P (dC, dI) vwCl [(h0, .inr (7, [.null, .null, .int 0]))] H := hP
  have hD : va_D A [(h0, .inr (7, [.null, .null, .int 0]))] := hD
  refine lv_aload_n hx hb dX7_init_14 rfl (lv_at hl 0 rfl) ?_
  refine lv_iconst (v := 0) hx hb dX7_init_15 (by decide) ?_
  refine va_put (D := (dC, dI)) (ci := 7) (v := .int 0) (ty := .boolean) (C := RX7) (T := TX7) (N := 3) hx hb hts iX7_init_7 tyX7 tyX7_ok nmX7 hown hK hP hD hS 0 rfl rfl 2 (by decide) (hts (.fieldLink RX7 16 "LinkQueues$Turns" "begun" "Z") (by decide +kernel)) (fun _ h9 => h9) rfl (by decide +kernel) rfl rfl (Nat.le_of_ble_eq_true rfl) dX7_init_16 (fun H locs hP hD hS => ?_)
  have hP : va_P (dC, dI) vwCl [(h0, .inr (7, [.null, .null, .int 0]))] H := hP
  have hD : va_D A [(h0, .inr (7, [.null, .null, .int 0]))] := hD
  refine W.widen (k := 0) (n := 0) (Nat.le_of_ble_eq_true rfl) (Nat.le_of_ble_eq_true rfl) ?_
  exact W.vret hx hb hr (fun t ht hW => ⟨⟨(), rfl, trivial, by rw [ht]; exact hP, va_K.moved hW.alike hK, hD⟩, hS.F ht⟩) hS.2.2 dX7_init_19
set_option maxRecDepth 20000 in
theorem iX4_init_4 : ∀ w ∈ wsX40, w ∈ wsX4_init := by decide +kernel
set_option maxHeartbeats 16000000 in
set_option maxRecDepth 100000 in
theorem c_X4_init (l : Launch) (dC : Nat → ClassId) (dI : Nat → Nat → Nat) (cA : Nat → ClassId) (h0 : Nat) (sz : Nat) : Met l yX4_init wsX4_init ({ frames := 1, cells := 1, slots := 32, locals := 12 } : Room) (va_Pc [.ref h0] (preO dC dI cA [(h0, .inr (4, [.null, .int 0]))] sz)) (va_Qv (fun _ => True) (fun (u : Nat) t => va_P (dC, dI) vwCl [(h0, .inr (4, [.ref u, .int 0])), (u, .inl (cA 4, 32, .inr (.inr (.inr (.inr (fun _ => none))))))] t.heap ∧ va_K (dC, dI) vwCl (tyC cA) t ∧ va_D (va_A [(h0, .inr (4, [.null, .int 0]))] sz) [(h0, .inr (4, [.ref u, .int 0])), (u, .inl (cA 4, 32, .inr (.inr (.inr (.inr (fun _ => none))))))]) (va_A [(h0, .inr (4, [.null, .int 0]))] sz)) 1 32 (va_A [(h0, .inr (4, [.null, .int 0]))] sz) := by
  refine Met.ofW (cc := cX4_init) (maxL := 1) (ret := none) (by decide) rfl ?_
  intro p e s m args below meth c s₁ B hml hv
  obtain ⟨rfl, ⟨hsz, hP, hK, hD0⟩, hAO5⟩ := hv
  have hx := B.exec
  have hb := B.bytes
  have hr := B.returns
  have hts := atoms_spec (ws := wsX4_init) B.pre
  have hown : s.vm.findClass RX4 = some m.cls := findClass_of_methodNamed B.named
  have hlocks := B.notSynchronized
  have hin : meth.name = "<init>" := (name_of_methodNamed B.named B.method).1
  subst hsz
  have hD := hD0.self (sz := s.heap.size)
  clear hD0
  generalize hAe : va_A [(h0, .inr (4, [.null, .int 0]))] s.heap.size = A at hD ⊢
  have hA : ∀ q : Nat, s.heap.size ≤ q → A q := fun q h => by rw [← hAe]; exact Or.inr h
  have hl := lv_entry ([.ref h0]) (n := 1) (Nat.le_of_ble_eq_true rfl)
  rw [lg_entry_eq]
  generalize (lg_sl ([.ref h0]) ++ List.replicate (1 - (lg_sl ([.ref h0])).length) Slot.unset).toArray = ls at hl ⊢
  have hl : lv_has ls 1 [(0, .ref h0)] := hl
  generalize hHe : s.heap = H at hP ⊢
  have hS : va_S A s.heap H [] := by rw [← hHe]; exact va_S.rf
  clear hHe
  refine lv_aload_n hx hb dX4_init_0 rfl (lv_at hl 0 rfl) ?_
  refine W.objInit hx hb hown (hts (.methodLink RX4 1 objectInit) (by decide +kernel)) (hts (.instanceMethod objectInit) (by decide +kernel)) (hts _ (List.mem_of_getElem? (i := 3) rfl)) rfl (by rw [hml]; exact hl.1) rfl dX4_init_1 (Nat.le_of_ble_eq_true rfl) (Nat.le_of_ble_eq_true rfl) ?_
  refine W.eq (g2 := F0 m 4 ls []) rfl ?_
  refine lv_aload_n hx hb dX4_init_4 rfl (lv_at hl 0 rfl) ?_
  refine lv_bipush (v := 32) hx hb dX4_init_5 (by decide) ?_
  refine va_newq (N' := 32) hx hb hown (hts (.classLink RX4 9 RX5) (by decide +kernel)) hAO5 hK hP hD hS hA (by decide) (by decide) (by decide) (Nat.le_of_ble_eq_true rfl) (Nat.le_of_ble_eq_true rfl) dX4_init_7 (fun q1 c9 H hK9 hP hD hS => ?_)
  obtain rfl := newK 4 hK9 hK rfl
  clear hK9
  have hP : va_P (dC, dI) vwCl [(h0, .inr (4, [.null, .int 0])), (q1, .inl (cA 4, 32, .inr (.inr (.inr (.inr (fun _ => none))))))] H := hP
  have hD : va_D A [(h0, .inr (4, [.null, .int 0])), (q1, .inl (cA 4, 32, .inr (.inr (.inr (.inr (fun _ => none))))))] := hD
  refine va_putF (D := (dC, dI)) (ci := 4) (v := .ref q1) (ty := (.array (.object "LinkQueues$Packet"))) (C := RX4) (T := TX4) (N := 2) hx hb hts iX4_init_4 tyX4 tyX4_ok nmX4 hown hK hP hD hS 0 rfl rfl 0 (by decide) (hts (.fieldLink RX4 11 "LinkQueues$Outlog" "row" "[LLinkQueues$Packet;") (by decide +kernel)) (fun _ h9 => h9) rfl hin rfl (by decide +kernel) rfl rfl (Nat.le_of_ble_eq_true rfl) dX4_init_10 (fun H locs hP hD hS => ?_)
  have hP : va_P (dC, dI) vwCl [(h0, .inr (4, [.ref q1, .int 0])), (q1, .inl (cA 4, 32, .inr (.inr (.inr (.inr (fun _ => none))))))] H := hP
  have hD : va_D A [(h0, .inr (4, [.ref q1, .int 0])), (q1, .inl (cA 4, 32, .inr (.inr (.inr (.inr (fun _ => none))))))] := hD
  refine lv_aload_n hx hb dX4_init_13 rfl (lv_at hl 0 rfl) ?_
  refine lv_iconst (v := 0) hx hb dX4_init_14 (by decide) ?_
  refine va_put (D := (dC, dI)) (ci := 4) (v := .int 0) (ty := .int) (C := RX4) (T := TX4) (N := 2) hx hb hts iX4_init_4 tyX4 tyX4_ok nmX4 hown hK hP hD hS 0 rfl rfl 1 (by decide) (hts (.fieldLink RX4 15 "LinkQueues$Outlog" "nth" "I") (by decide +kernel)) (fun _ h9 => h9) rfl (by decide +kernel) rfl rfl (Nat.le_of_ble_eq_true rfl) dX4_init_15 (fun H locs hP hD hS => ?_)
  have hP : va_P (dC, dI) vwCl [(h0, .inr (4, [.ref q1, .int 0])), (q1, .inl (cA 4, 32, .inr (.inr (.inr (.inr (fun _ => none))))))] H := hP
  have hD : va_D A [(h0, .inr (4, [.ref q1, .int 0])), (q1, .inl (cA 4, 32, .inr (.inr (.inr (.inr (fun _ => none))))))] := hD
  refine W.widen (k := 1) (n := 32) (Nat.le_of_ble_eq_true rfl) (Nat.le_of_ble_eq_true rfl) ?_
  exact W.vret hx hb hr (fun t ht hW => ⟨⟨q1, rfl, trivial, by rw [ht]; exact hP, va_K.moved hW.alike hK, hD⟩, hS.F ht⟩) hS.2.2 dX4_init_18
set_option maxRecDepth 20000 in
theorem iX2_init_1 : ∀ w ∈ wsX10, w ∈ wsX2_init := by decide +kernel
set_option maxRecDepth 20000 in
theorem iX2_init_2 : ∀ w ∈ wsX20, w ∈ wsX2_init := by decide +kernel
set_option maxRecDepth 20000 in
theorem iX2_init_3 : ∀ w ∈ wsX30, w ∈ wsX2_init := by decide +kernel
set_option maxRecDepth 20000 in
theorem iX2_init_6 : ∀ w ∈ wsX60, w ∈ wsX2_init := by decide +kernel
set_option maxHeartbeats 16000000 in
set_option maxRecDepth 100000 in
theorem c_X2_init (l : Launch) (dC : Nat → ClassId) (dI : Nat → Nat → Nat) (cA : Nat → ClassId) (h0 : Nat) (a1 : Int32) (sz : Nat) : Met l yX2_init wsX2_init ({ frames := 2, cells := 3, slots := 19, locals := 32 } : Room) (va_Pc [.ref h0, .int a1] (preN2 dC dI cA [(h0, .inr (2, [.int 0, .null, .null, .null, .int 0, .int 0, .int 0, .null, .int 0, .int 0, .int 0, .int 0, .int 0, .int 0, .int 0]))] sz)) (va_Qv (fun _ => True) (fun (u : Nat × Nat × Nat) t => match u with | (q1, q2, q3) => va_P (dC, dI) vwCl [(h0, .inr (2, [.int a1, .ref q1, .ref q2, .ref q3, .int 0, .int 1500, .int 0, .null, .int 0, .int 0, .int 0, .int 0, .int 0, .int 0, .int 0])), (q1, .inr (6, [.null, .null, .int 0, .int 0])), (q2, .inr (3, [.double 4617315517961601024, .double 4624633867356078080, .double 4591870180066957722, .double 4598175219545276416, .double FP.dconst0, .int (-1), .int 0])), (q3, .inr (1, [.double 4617315517961601024, .double 4636737291354636288, .int 0, .double FP.dconst0, .int 0, .double FP.dconst0, .int 0, .int 0]))] t.heap ∧ va_K (dC, dI) vwCl (tyC cA) t ∧ va_D (va_A [(h0, .inr (2, [.int 0, .null, .null, .null, .int 0, .int 0, .int 0, .null, .int 0, .int 0, .int 0, .int 0, .int 0, .int 0, .int 0]))] sz) [(h0, .inr (2, [.int a1, .ref q1, .ref q2, .ref q3, .int 0, .int 1500, .int 0, .null, .int 0, .int 0, .int 0, .int 0, .int 0, .int 0, .int 0])), (q1, .inr (6, [.null, .null, .int 0, .int 0])), (q2, .inr (3, [.double 4617315517961601024, .double 4624633867356078080, .double 4591870180066957722, .double 4598175219545276416, .double FP.dconst0, .int (-1), .int 0])), (q3, .inr (1, [.double 4617315517961601024, .double 4636737291354636288, .int 0, .double FP.dconst0, .int 0, .double FP.dconst0, .int 0, .int 0]))]) (va_A [(h0, .inr (2, [.int 0, .null, .null, .null, .int 0, .int 0, .int 0, .null, .int 0, .int 0, .int 0, .int 0, .int 0, .int 0, .int 0]))] sz)) 3 19 (va_A [(h0, .inr (2, [.int 0, .null, .null, .null, .int 0, .int 0, .int 0, .null, .int 0, .int 0, .int 0, .int 0, .int 0, .int 0, .int 0]))] sz) := by
  refine Met.ofW (cc := cX2_init) (maxL := 2) (ret := none) (by decide) rfl ?_
  intro p e s m args below meth c s₁ B hml hv
  obtain ⟨rfl, ⟨hsz, hP, hK, hD0⟩, hN⟩ := hv
  have hx := B.exec
  have hb := B.bytes
  have hr := B.returns
  have hts := atoms_spec (ws := wsX2_init) B.pre
  have hown : s.vm.findClass RX2 = some m.cls := findClass_of_methodNamed B.named
  have hlocks := B.notSynchronized
  have hin : meth.name = "<init>" := (name_of_methodNamed B.named B.method).1
  subst hsz
  have hD := hD0.self (sz := s.heap.size)
  clear hD0
  generalize hAe : va_A [(h0, .inr (2, [.int 0, .null, .null, .null, .int 0, .int 0, .int 0, .null, .int 0, .int 0, .int 0, .int 0, .int 0, .int 0, .int 0]))] s.heap.size = A at hD ⊢
  have hA : ∀ q : Nat, s.heap.size ≤ q → A q := fun q h => by rw [← hAe]; exact Or.inr h
  have hl := lv_entry ([.ref h0, .int a1]) (n := 2) (Nat.le_of_ble_eq_true rfl)
  rw [lg_entry_eq]
  generalize (lg_sl ([.ref h0, .int a1]) ++ List.replicate (2 - (lg_sl ([.ref h0, .int a1])).length) Slot.unset).toArray = ls at hl ⊢
  have hl : lv_has ls 2 [(0, .ref h0), (1, .int a1)] := hl
  generalize hHe : s.heap = H at hP ⊢
  have hS : va_S A s.heap H [] := by rw [← hHe]; exact va_S.rf
  clear hHe
  refine lv_aload_n hx hb dX2_init_0 rfl (lv_at hl 0 rfl) ?_
  refine W.objInit hx hb hown (hts (.methodLink RX2 3 objectInit) (by decide +kernel)) (hts (.instanceMethod objectInit) (by decide +kernel)) (hts _ (List.mem_of_getElem? (i := 3) rfl)) rfl (by rw [hml]; exact hl.1) rfl dX2_init_1 (Nat.le_of_ble_eq_true rfl) (Nat.le_of_ble_eq_true rfl) ?_
  refine W.eq (g2 := F0 m 4 ls []) rfl ?_
  refine lv_aload_n hx hb dX2_init_4 rfl (lv_at hl 0 rfl) ?_
  refine va_new (ci := 6) (fs := [.null, .null, .int 0, .int 0]) (C := RX6) (T := TX6) (N := 4) hx hb hts iX2_init_6 tyX6 tyX6_ok hown (hts (.classLink RX2 9 RX6) (by decide +kernel)) (hts (.instantiable RX6 4) (by decide +kernel)) (hts (.initialized RX6) (by decide +kernel)) hK hP hD hS hA rfl (fun j hj => by rcases (show j = 0 ∨ j = 1 ∨ j = 2 ∨ j = 3 by omega) with rfl | rfl | rfl | rfl <;> rfl) (Nat.le_of_ble_eq_true rfl) (Nat.le_of_ble_eq_true rfl) dX2_init_5 (fun q1 H hP hD hS => ?_)
  have hP : va_P (dC, dI) vwCl [(h0, .inr (2, [.int 0, .null, .null, .null, .int 0, .int 0, .int 0, .null, .int 0, .int 0, .int 0, .int 0, .int 0, .int 0, .int 0])), (q1, .inr (6, [.null, .null, .int 0, .int 0]))] H := hP
  have hD : va_D A [(h0, .inr (2, [.int 0, .null, .null, .null, .int 0, .int 0, .int 0, .null, .int 0, .int 0, .int 0, .int 0, .int 0, .int 0, .int 0])), (q1, .inr (6, [.null, .null, .int 0, .int 0]))] := hD
  refine lv_dup hx hb dX2_init_8 rfl ?_
  have hPc := hP.sub (ws' := [(q1, .inr (6, [.null, .null, .int 0, .int 0]))]) [1] rfl
  have hDc := hD.sub (ws' := [(q1, .inr (6, [.null, .null, .int 0, .int 0]))]) [1] (by decide) rfl
  have hF := fA hDc hS hA
  refine va_callv (va_runIN (As := []) (rest := [.ref q1, .ref h0]) ⟨hx, hb, hml, hown, hts⟩ (c_X6_init l dC dI cA q1 H.size) ⟨va_cnB 0 hts ggX2_init_X6_init rfl rfl rfl hN.1 (hts (.initialized RX6) (by decide +kernel)) (by decide +kernel) ⟨Nat.le_of_ble_eq_true rfl, Nat.le_of_ble_eq_true rfl⟩, rfl, hts (.instanceMethod yX6_init) (by decide +kernel)⟩ ⟨fbC, fun U hU hW => ⟨rfl, by rw [hU], by rw [hU]; exact hPc, va_K.moved hW.alike hK, hDc.weaken (fun _ _ _ _ => trivial)⟩⟩ rfl rfl hl.1 rfl (lv_room (Nat.le_of_ble_eq_true rfl)) dX2_init_9 ⟨Nat.le_of_ble_eq_true rfl, Nat.le_of_ble_eq_true rfl⟩) hS (fun q _ h => hF q h) hF (fun u t H1 locs ht hvm hwp hB hz1 hk1 hS => ?_)
  obtain ⟨hP1, hK1, hD1⟩ := hB
  rw [ht] at hP1
  obtain ⟨hP, hD⟩ := va_join (wr := [(h0, .inr (2, [.int 0, .null, .null, .null, .int 0, .int 0, .int 0, .null, .int 0, .int 0, .int 0, .int 0, .int 0, .int 0, .int 0]))]) (w1 := [(q1, .inr (6, [.null, .null, .int 0, .int 0]))]) hP hD [1] [0] rfl rfl (by decide) (by decide) hk1 hF hP1 hD1
  generalize H1 = H at hP hS ⊢
  clear hPc hDc hF hP1 hD1 hK1 hk1 hz1
  have hP : va_P (dC, dI) vwCl [(h0, .inr (2, [.int 0, .null, .null, .null, .int 0, .int 0, .int 0, .null, .int 0, .int 0, .int 0, .int 0, .int 0, .int 0, .int 0])), (q1, .inr (6, [.null, .null, .int 0, .int 0]))] H := hP
  have hD : va_D A [(h0, .inr (2, [.int 0, .null, .null, .null, .int 0, .int 0, .int 0, .null, .int 0, .int 0, .int 0, .int 0, .int 0, .int 0, .int 0])), (q1, .inr (6, [.null, .null, .int 0, .int 0]))] := hD
  refine va_putF (D := (dC, dI)) (ci := 2) (v := .ref q1) (ty := (.object "LinkQueues$Queue")) (C := RX2) (T := TX2) (N := 15) hx hb hts iX2_init_2 tyX2 tyX2_ok nmX2 hown hK hP hD hS 0 rfl rfl 1 (by decide) (hts (.fieldLink RX2 12 "LinkQueues$Flow" "queue" "LLinkQueues$Queue;") (by decide +kernel)) (fun _ h9 => h9) rfl hin rfl (by decide +kernel) rfl rfl (Nat.le_of_ble_eq_true rfl) dX2_init_12 (fun H locs hP hD hS => ?_)
  have hP : va_P (dC, dI) vwCl [(h0, .inr (2, [.int 0, .ref q1, .null, .null, .int 0, .int 0, .int 0, .null, .int 0, .int 0, .int 0, .int 0, .int 0, .int 0, .int 0])), (q1, .inr (6, [.null, .null, .int 0, .int 0]))] H := hP
  have hD : va_D A [(h0, .inr (2, [.int 0, .ref q1, .null, .null, .int 0, .int 0, .int 0, .null, .int 0, .int 0, .int 0, .int 0, .int 0, .int 0, .int 0])), (q1, .inr (6, [.null, .null, .int 0, .int 0]))] := hD
  refine lv_aload_n hx hb dX2_init_15 rfl (lv_at hl 0 rfl) ?_
  refine va_new (ci := 3) (fs := [.double 0, .double 0, .double 0, .double 0, .double 0, .int 0, .int 0]) (C := RX3) (T := TX3) (N := 7) hx hb hts iX2_init_3 tyX3 tyX3_ok hown (hts (.classLink RX2 18 RX3) (by decide +kernel)) (hts (.instantiable RX3 7) (by decide +kernel)) (hts (.initialized RX3) (by decide +kernel)) hK hP hD hS hA rfl (fun j hj => by rcases (show j = 0 ∨ j = 1 ∨ j = 2 ∨ j = 3 ∨ j = 4 ∨ j = 5 ∨ j = 6 by omega) with rfl | rfl | rfl | rfl | rfl | rfl | rfl <;> rfl) (Nat.le_of_ble_eq_true rfl) (Nat.le_of_ble_eq_true rfl) dX2_init_16 (fun q2 H hP hD hS => ?_)
  have hP : va_P (dC, dI) vwCl [(h0, .inr (2, [.int 0, .ref q1, .null, .null, .int 0, .int 0, .int 0, .null, .int 0, .int 0, .int 0, .int 0, .int 0, .int 0, .int 0])), (q1, .inr (6, [.null, .null, .int 0, .int 0])), (q2, .inr (3, [.double 0, .double 0, .double 0, .double 0, .double 0, .int 0, .int 0]))] H := hP
  have hD : va_D A [(h0, .inr (2, [.int 0, .ref q1, .null, .null, .int 0, .int 0, .int 0, .null, .int 0, .int 0, .int 0, .int 0, .int 0, .int 0, .int 0])), (q1, .inr (6, [.null, .null, .int 0, .int 0])), (q2, .inr (3, [.double 0, .double 0, .double 0, .double 0, .double 0, .int 0, .int 0]))] := hD
  refine lv_dup hx hb dX2_init_19 rfl ?_
  have hPc := hP.sub (ws' := [(q2, .inr (3, [.double 0, .double 0, .double 0, .double 0, .double 0, .int 0, .int 0]))]) [2] rfl
  have hDc := hD.sub (ws' := [(q2, .inr (3, [.double 0, .double 0, .double 0, .double 0, .double 0, .int 0, .int 0]))]) [2] (by decide) rfl
  have hF := fA hDc hS hA
  refine va_callv (va_runIN (As := []) (rest := [.ref q2, .ref h0]) ⟨hx, hb, hml, hown, hts⟩ (c_X3_init l dC dI cA q2 H.size) ⟨va_cnB 0 hts ggX2_init_X3_init rfl rfl rfl hN.2.1 (hts (.initialized RX3) (by decide +kernel)) (by decide +kernel) ⟨Nat.le_of_ble_eq_true rfl, Nat.le_of_ble_eq_true rfl⟩, rfl, hts (.instanceMethod yX3_init) (by decide +kernel)⟩ ⟨fbC, fun U hU hW => ⟨rfl, by rw [hU], by rw [hU]; exact hPc, va_K.moved hW.alike hK, hDc.weaken (fun _ _ _ _ => trivial)⟩⟩ rfl rfl hl.1 rfl (lv_room (Nat.le_of_ble_eq_true rfl)) dX2_init_20 ⟨Nat.le_of_ble_eq_true rfl, Nat.le_of_ble_eq_true rfl⟩) hS (fun q _ h => hF q h) hF (fun u t H1 locs ht hvm hwp hB hz1 hk1 hS => ?_)
  obtain ⟨hP1, hK1, hD1⟩ := hB
  rw [ht] at hP1
  obtain ⟨hP, hD⟩ := va_join (wr := [(h0, .inr (2, [.int 0, .ref q1, .null, .null, .int 0, .int 0, .int 0, .null, .int 0, .int 0, .int 0, .int 0, .int 0, .int 0, .int 0])), (q1, .inr (6, [.null, .null, .int 0, .int 0]))]) (w1 := [(q2, .inr (3, [.double 4617315517961601024, .double 4624633867356078080, .double 4591870180066957722, .double 4598175219545276416, .double FP.dconst0, .int (-1), .int 0]))]) hP hD [2] [0, 1] rfl rfl (by decide) (by decide) hk1 hF hP1 hD1
  generalize H1 = H at hP hS ⊢
  clear hPc hDc hF hP1 hD1 hK1 hk1 hz1
  have hP : va_P (dC, dI) vwCl [(h0, .inr (2, [.int 0, .ref q1, .null, .null, .int 0, .int 0, .int 0, .null, .int 0, .int 0, .int 0, .int 0, .int 0, .int 0, .int 0])), (q1, .inr (6, [.null, .null, .int 0, .int 0])), (q2, .inr (3, [.double 4617315517961601024, .double 4624633867356078080, .double 4591870180066957722, .double 4598175219545276416, .double FP.dconst0, .int (-1), .int 0]))] H := hP
  have hD : va_D A [(h0, .inr (2, [.int 0, .ref q1, .null, .null, .int 0, .int 0, .int 0, .null, .int 0, .int 0, .int 0, .int 0, .int 0, .int 0, .int 0])), (q1, .inr (6, [.null, .null, .int 0, .int 0])), (q2, .inr (3, [.double 4617315517961601024, .double 4624633867356078080, .double 4591870180066957722, .double 4598175219545276416, .double FP.dconst0, .int (-1), .int 0]))] := hD
  refine va_putF (D := (dC, dI)) (ci := 2) (v := .ref q2) (ty := (.object "LinkQueues$Mean")) (C := RX2) (T := TX2) (N := 15) hx hb hts iX2_init_2 tyX2 tyX2_ok nmX2 hown hK hP hD hS 0 rfl rfl 2 (by decide) (hts (.fieldLink RX2 21 "LinkQueues$Flow" "mean" "LLinkQueues$Mean;") (by decide +kernel)) (fun _ h9 => h9) rfl hin rfl (by decide +kernel) rfl rfl (Nat.le_of_ble_eq_true rfl) dX2_init_23 (fun H locs hP hD hS => ?_)
  have hP : va_P (dC, dI) vwCl [(h0, .inr (2, [.int 0, .ref q1, .ref q2, .null, .int 0, .int 0, .int 0, .null, .int 0, .int 0, .int 0, .int 0, .int 0, .int 0, .int 0])), (q1, .inr (6, [.null, .null, .int 0, .int 0])), (q2, .inr (3, [.double 4617315517961601024, .double 4624633867356078080, .double 4591870180066957722, .double 4598175219545276416, .double FP.dconst0, .int (-1), .int 0]))] H := hP
  have hD : va_D A [(h0, .inr (2, [.int 0, .ref q1, .ref q2, .null, .int 0, .int 0, .int 0, .null, .int 0, .int 0, .int 0, .int 0, .int 0, .int 0, .int 0])), (q1, .inr (6, [.null, .null, .int 0, .int 0])), (q2, .inr (3, [.double 4617315517961601024, .double 4624633867356078080, .double 4591870180066957722, .double 4598175219545276416, .double FP.dconst0, .int (-1), .int 0]))] := hD
  refine lv_aload_n hx hb dX2_init_26 rfl (lv_at hl 0 rfl) ?_
  refine va_new (ci := 1) (fs := [.double 0, .double 0, .int 0, .double 0, .int 0, .double 0, .int 0, .int 0]) (C := RX1) (T := TX1) (N := 8) hx hb hts iX2_init_1 tyX1 tyX1_ok hown (hts (.classLink RX2 25 RX1) (by decide +kernel)) (hts (.instantiable RX1 8) (by decide +kernel)) (hts (.initialized RX1) (by decide +kernel)) hK hP hD hS hA rfl (fun j hj => by rcases (show j = 0 ∨ j = 1 ∨ j = 2 ∨ j = 3 ∨ j = 4 ∨ j = 5 ∨ j = 6 ∨ j = 7 by omega) with rfl | rfl | rfl | rfl | rfl | rfl | rfl | rfl <;> rfl) (Nat.le_of_ble_eq_true rfl) (Nat.le_of_ble_eq_true rfl) dX2_init_27 (fun q3 H hP hD hS => ?_)
  have hP : va_P (dC, dI) vwCl [(h0, .inr (2, [.int 0, .ref q1, .ref q2, .null, .int 0, .int 0, .int 0, .null, .int 0, .int 0, .int 0, .int 0, .int 0, .int 0, .int 0])), (q1, .inr (6, [.null, .null, .int 0, .int 0])), (q2, .inr (3, [.double 4617315517961601024, .double 4624633867356078080, .double 4591870180066957722, .double 4598175219545276416, .double FP.dconst0, .int (-1), .int 0])), (q3, .inr (1, [.double 0, .double 0, .int 0, .double 0, .int 0, .double 0, .int 0, .int 0]))] H := hP
  have hD : va_D A [(h0, .inr (2, [.int 0, .ref q1, .ref q2, .null, .int 0, .int 0, .int 0, .null, .int 0, .int 0, .int 0, .int 0, .int 0, .int 0, .int 0])), (q1, .inr (6, [.null, .null, .int 0, .int 0])), (q2, .inr (3, [.double 4617315517961601024, .double 4624633867356078080, .double 4591870180066957722, .double 4598175219545276416, .double FP.dconst0, .int (-1), .int 0])), (q3, .inr (1, [.double 0, .double 0, .int 0, .double 0, .int 0, .double 0, .int 0, .int 0]))] := hD
  refine lv_dup hx hb dX2_init_30 rfl ?_
  have hPc := hP.sub (ws' := [(q3, .inr (1, [.double 0, .double 0, .int 0, .double 0, .int 0, .double 0, .int 0, .int 0]))]) [3] rfl
  have hDc := hD.sub (ws' := [(q3, .inr (1, [.double 0, .double 0, .int 0, .double 0, .int 0, .double 0, .int 0, .int 0]))]) [3] (by decide) rfl
  have hF := fA hDc hS hA
  refine va_callv (va_runIN (As := []) (rest := [.ref q3, .ref h0]) ⟨hx, hb, hml, hown, hts⟩ (c_X1_init l dC dI cA q3 H.size) ⟨va_cnB 0 hts ggX2_init_X1_init rfl rfl rfl hN.2.2 (hts (.initialized RX1) (by decide +kernel)) (by decide +kernel) ⟨Nat.le_of_ble_eq_true rfl, Nat.le_of_ble_eq_true rfl⟩, rfl, hts (.instanceMethod yX1_init) (by decide +kernel)⟩ ⟨fbC, fun U hU hW => ⟨rfl, by rw [hU], by rw [hU]; exact hPc, va_K.moved hW.alike hK, hDc.weaken (fun _ _ _ _ => trivial)⟩⟩ rfl rfl hl.1 rfl (lv_room (Nat.le_of_ble_eq_true rfl)) dX2_init_31 ⟨Nat.le_of_ble_eq_true rfl, Nat.le_of_ble_eq_true rfl⟩) hS (fun q _ h => hF q h) hF (fun u t H1 locs ht hvm hwp hB hz1 hk1 hS => ?_)
  obtain ⟨hP1, hK1, hD1⟩ := hB
  rw [ht] at hP1
  obtain ⟨hP, hD⟩ := va_join (wr := [(h0, .inr (2, [.int 0, .ref q1, .ref q2, .null, .int 0, .int 0, .int 0, .null, .int 0, .int 0, .int 0, .int 0, .int 0, .int 0, .int 0])), (q1, .inr (6, [.null, .null, .int 0, .int 0])), (q2, .inr (3, [.double 4617315517961601024, .double 4624633867356078080, .double 4591870180066957722, .double 4598175219545276416, .double FP.dconst0, .int (-1), .int 0]))]) (w1 := [(q3, .inr (1, [.double 4617315517961601024, .double 4636737291354636288, .int 0, .double FP.dconst0, .int 0, .double FP.dconst0, .int 0, .int 0]))]) hP hD [3] [0, 1, 2] rfl rfl (by decide) (by decide) hk1 hF hP1 hD1
  generalize H1 = H at hP hS ⊢
  clear hPc hDc hF hP1 hD1 hK1 hk1 hz1
  have hP : va_P (dC, dI) vwCl [(h0, .inr (2, [.int 0, .ref q1, .ref q2, .null, .int 0, .int 0, .int 0, .null, .int 0, .int 0, .int 0, .int 0, .int 0, .int 0, .int 0])), (q1, .inr (6, [.null, .null, .int 0, .int 0])), (q2, .inr (3, [.double 4617315517961601024, .double 4624633867356078080, .double 4591870180066957722, .double 4598175219545276416, .double FP.dconst0, .int (-1), .int 0])), (q3, .inr (1, [.double 4617315517961601024, .double 4636737291354636288, .int 0, .double FP.dconst0, .int 0, .double FP.dconst0, .int 0, .int 0]))] H := hP
  have hD : va_D A [(h0, .inr (2, [.int 0, .ref q1, .ref q2, .null, .int 0, .int 0, .int 0, .null, .int 0, .int 0, .int 0, .int 0, .int 0, .int 0, .int 0])), (q1, .inr (6, [.null, .null, .int 0, .int 0])), (q2, .inr (3, [.double 4617315517961601024, .double 4624633867356078080, .double 4591870180066957722, .double 4598175219545276416, .double FP.dconst0, .int (-1), .int 0])), (q3, .inr (1, [.double 4617315517961601024, .double 4636737291354636288, .int 0, .double FP.dconst0, .int 0, .double FP.dconst0, .int 0, .int 0]))] := hD
  refine va_putF (D := (dC, dI)) (ci := 2) (v := .ref q3) (ty := (.object "LinkQueues$Delay")) (C := RX2) (T := TX2) (N := 15) hx hb hts iX2_init_2 tyX2 tyX2_ok nmX2 hown hK hP hD hS 0 rfl rfl 3 (by decide) (hts (.fieldLink RX2 28 "LinkQueues$Flow" "delay" "LLinkQueues$Delay;") (by decide +kernel)) (fun _ h9 => h9) rfl hin rfl (by decide +kernel) rfl rfl (Nat.le_of_ble_eq_true rfl) dX2_init_34 (fun H locs hP hD hS => ?_)
  have hP : va_P (dC, dI) vwCl [(h0, .inr (2, [.int 0, .ref q1, .ref q2, .ref q3, .int 0, .int 0, .int 0, .null, .int 0, .int 0, .int 0, .int 0, .int 0, .int 0, .int 0])), (q1, .inr (6, [.null, .null, .int 0, .int 0])), (q2, .inr (3, [.double 4617315517961601024, .double 4624633867356078080, .double 4591870180066957722, .double 4598175219545276416, .double FP.dconst0, .int (-1), .int 0])), (q3, .inr (1, [.double 4617315517961601024, .double 4636737291354636288, .int 0, .double FP.dconst0, .int 0, .double FP.dconst0, .int 0, .int 0]))] H := hP
  have hD : va_D A [(h0, .inr (2, [.int 0, .ref q1, .ref q2, .ref q3, .int 0, .int 0, .int 0, .null, .int 0, .int 0, .int 0, .int 0, .int 0, .int 0, .int 0])), (q1, .inr (6, [.null, .null, .int 0, .int 0])), (q2, .inr (3, [.double 4617315517961601024, .double 4624633867356078080, .double 4591870180066957722, .double 4598175219545276416, .double FP.dconst0, .int (-1), .int 0])), (q3, .inr (1, [.double 4617315517961601024, .double 4636737291354636288, .int 0, .double FP.dconst0, .int 0, .double FP.dconst0, .int 0, .int 0]))] := hD
  refine lv_aload_n hx hb dX2_init_37 rfl (lv_at hl 0 rfl) ?_
  refine lv_iconst (v := 0) hx hb dX2_init_38 (by decide) ?_
  refine va_put (D := (dC, dI)) (ci := 2) (v := .int 0) (ty := .int) (C := RX2) (T := TX2) (N := 15) hx hb hts iX2_init_2 tyX2 tyX2_ok nmX2 hown hK hP hD hS 0 rfl rfl 4 (by decide) (hts (.fieldLink RX2 32 "LinkQueues$Flow" "kind" "I") (by decide +kernel)) (fun _ h9 => h9) rfl (by decide +kernel) rfl rfl (Nat.le_of_ble_eq_true rfl) dX2_init_39 (fun H locs hP hD hS => ?_)
  have hP : va_P (dC, dI) vwCl [(h0, .inr (2, [.int 0, .ref q1, .ref q2, .ref q3, .int 0, .int 0, .int 0, .null, .int 0, .int 0, .int 0, .int 0, .int 0, .int 0, .int 0])), (q1, .inr (6, [.null, .null, .int 0, .int 0])), (q2, .inr (3, [.double 4617315517961601024, .double 4624633867356078080, .double 4591870180066957722, .double 4598175219545276416, .double FP.dconst0, .int (-1), .int 0])), (q3, .inr (1, [.double 4617315517961601024, .double 4636737291354636288, .int 0, .double FP.dconst0, .int 0, .double FP.dconst0, .int 0, .int 0]))] H := hP
  have hD : va_D A [(h0, .inr (2, [.int 0, .ref q1, .ref q2, .ref q3, .int 0, .int 0, .int 0, .null, .int 0, .int 0, .int 0, .int 0, .int 0, .int 0, .int 0])), (q1, .inr (6, [.null, .null, .int 0, .int 0])), (q2, .inr (3, [.double 4617315517961601024, .double 4624633867356078080, .double 4591870180066957722, .double 4598175219545276416, .double FP.dconst0, .int (-1), .int 0])), (q3, .inr (1, [.double 4617315517961601024, .double 4636737291354636288, .int 0, .double FP.dconst0, .int 0, .double FP.dconst0, .int 0, .int 0]))] := hD
  refine lv_aload_n hx hb dX2_init_42 rfl (lv_at hl 0 rfl) ?_
  refine lv_sipush (v := 1500) hx hb dX2_init_43 (by decide) ?_
  refine va_put (D := (dC, dI)) (ci := 2) (v := .int 1500) (ty := .int) (C := RX2) (T := TX2) (N := 15) hx hb hts iX2_init_2 tyX2 tyX2_ok nmX2 hown hK hP hD hS 0 rfl rfl 5 (by decide) (hts (.fieldLink RX2 36 "LinkQueues$Flow" "quantum" "I") (by decide +kernel)) (fun _ h9 => h9) rfl (by decide +kernel) rfl rfl (Nat.le_of_ble_eq_true rfl) dX2_init_46 (fun H locs hP hD hS => ?_)
  have hP : va_P (dC, dI) vwCl [(h0, .inr (2, [.int 0, .ref q1, .ref q2, .ref q3, .int 0, .int 1500, .int 0, .null, .int 0, .int 0, .int 0, .int 0, .int 0, .int 0, .int 0])), (q1, .inr (6, [.null, .null, .int 0, .int 0])), (q2, .inr (3, [.double 4617315517961601024, .double 4624633867356078080, .double 4591870180066957722, .double 4598175219545276416, .double FP.dconst0, .int (-1), .int 0])), (q3, .inr (1, [.double 4617315517961601024, .double 4636737291354636288, .int 0, .double FP.dconst0, .int 0, .double FP.dconst0, .int 0, .int 0]))] H := hP
  have hD : va_D A [(h0, .inr (2, [.int 0, .ref q1, .ref q2, .ref q3, .int 0, .int 1500, .int 0, .null, .int 0, .int 0, .int 0, .int 0, .int 0, .int 0, .int 0])), (q1, .inr (6, [.null, .null, .int 0, .int 0])), (q2, .inr (3, [.double 4617315517961601024, .double 4624633867356078080, .double 4591870180066957722, .double 4598175219545276416, .double FP.dconst0, .int (-1), .int 0])), (q3, .inr (1, [.double 4617315517961601024, .double 4636737291354636288, .int 0, .double FP.dconst0, .int 0, .double FP.dconst0, .int 0, .int 0]))] := hD
  refine lv_aload_n hx hb dX2_init_49 rfl (lv_at hl 0 rfl) ?_
  refine lv_iconst (v := 0) hx hb dX2_init_50 (by decide) ?_
  refine va_put (D := (dC, dI)) (ci := 2) (v := .int 0) (ty := .int) (C := RX2) (T := TX2) (N := 15) hx hb hts iX2_init_2 tyX2 tyX2_ok nmX2 hown hK hP hD hS 0 rfl rfl 6 (by decide) (hts (.fieldLink RX2 39 "LinkQueues$Flow" "deficit" "I") (by decide +kernel)) (fun _ h9 => h9) rfl (by decide +kernel) rfl rfl (Nat.le_of_ble_eq_true rfl) dX2_init_51 (fun H locs hP hD hS => ?_)
  have hP : va_P (dC, dI) vwCl [(h0, .inr (2, [.int 0, .ref q1, .ref q2, .ref q3, .int 0, .int 1500, .int 0, .null, .int 0, .int 0, .int 0, .int 0, .int 0, .int 0, .int 0])), (q1, .inr (6, [.null, .null, .int 0, .int 0])), (q2, .inr (3, [.double 4617315517961601024, .double 4624633867356078080, .double 4591870180066957722, .double 4598175219545276416, .double FP.dconst0, .int (-1), .int 0])), (q3, .inr (1, [.double 4617315517961601024, .double 4636737291354636288, .int 0, .double FP.dconst0, .int 0, .double FP.dconst0, .int 0, .int 0]))] H := hP
  have hD : va_D A [(h0, .inr (2, [.int 0, .ref q1, .ref q2, .ref q3, .int 0, .int 1500, .int 0, .null, .int 0, .int 0, .int 0, .int 0, .int 0, .int 0, .int 0])), (q1, .inr (6, [.null, .null, .int 0, .int 0])), (q2, .inr (3, [.double 4617315517961601024, .double 4624633867356078080, .double 4591870180066957722, .double 4598175219545276416, .double FP.dconst0, .int (-1), .int 0])), (q3, .inr (1, [.double 4617315517961601024, .double 4636737291354636288, .int 0, .double FP.dconst0, .int 0, .double FP.dconst0, .int 0, .int 0]))] := hD
  refine lv_aload_n hx hb dX2_init_54 rfl (lv_at hl 0 rfl) ?_
  refine lv_null hx hb dX2_init_55 ?_
  refine va_put (D := (dC, dI)) (ci := 2) (v := .null) (ty := (.object "LinkQueues$Flow")) (C := RX2) (T := TX2) (N := 15) hx hb hts iX2_init_2 tyX2 tyX2_ok nmX2 hown hK hP hD hS 0 rfl rfl 7 (by decide) (hts (.fieldLink RX2 42 "LinkQueues$Flow" "behind" "LLinkQueues$Flow;") (by decide +kernel)) (fun _ h9 => h9) rfl (by decide +kernel) rfl rfl (Nat.le_of_ble_eq_true rfl) dX2_init_56 (fun H locs hP hD hS => ?_)
  have hP : va_P (dC, dI) vwCl [(h0, .inr (2, [.int 0, .ref q1, .ref q2, .ref q3, .int 0, .int 1500, .int 0, .null, .int 0, .int 0, .int 0, .int 0, .int 0, .int 0, .int 0])), (q1, .inr (6, [.null, .null, .int 0, .int 0])), (q2, .inr (3, [.double 4617315517961601024, .double 4624633867356078080, .double 4591870180066957722, .double 4598175219545276416, .double FP.dconst0, .int (-1), .int 0])), (q3, .inr (1, [.double 4617315517961601024, .double 4636737291354636288, .int 0, .double FP.dconst0, .int 0, .double FP.dconst0, .int 0, .int 0]))] H := hP
  have hD : va_D A [(h0, .inr (2, [.int 0, .ref q1, .ref q2, .ref q3, .int 0, .int 1500, .int 0, .null, .int 0, .int 0, .int 0, .int 0, .int 0, .int 0, .int 0])), (q1, .inr (6, [.null, .null, .int 0, .int 0])), (q2, .inr (3, [.double 4617315517961601024, .double 4624633867356078080, .double 4591870180066957722, .double 4598175219545276416, .double FP.dconst0, .int (-1), .int 0])), (q3, .inr (1, [.double 4617315517961601024, .double 4636737291354636288, .int 0, .double FP.dconst0, .int 0, .double FP.dconst0, .int 0, .int 0]))] := hD
  refine lv_aload_n hx hb dX2_init_59 rfl (lv_at hl 0 rfl) ?_
  refine lv_iconst (v := 0) hx hb dX2_init_60 (by decide) ?_
  refine va_put (D := (dC, dI)) (ci := 2) (v := .int 0) (ty := .int) (C := RX2) (T := TX2) (N := 15) hx hb hts iX2_init_2 tyX2 tyX2_ok nmX2 hown hK hP hD hS 0 rfl rfl 8 (by decide) (hts (.fieldLink RX2 46 "LinkQueues$Flow" "came" "I") (by decide +kernel)) (fun _ h9 => h9) rfl (by decide +kernel) rfl rfl (Nat.le_of_ble_eq_true rfl) dX2_init_61 (fun H locs hP hD hS => ?_)
  have hP : va_P (dC, dI) vwCl [(h0, .inr (2, [.int 0, .ref q1, .ref q2, .ref q3, .int 0, .int 1500, .int 0, .null, .int 0, .int 0, .int 0, .int 0, .int 0, .int 0, .int 0])), (q1, .inr (6, [.null, .null, .int 0, .int 0])), (q2, .inr (3, [.double 4617315517961601024, .double 4624633867356078080, .double 4591870180066957722, .double 4598175219545276416, .double FP.dconst0, .int (-1), .int 0])), (q3, .inr (1, [.double 4617315517961601024, .double 4636737291354636288, .int 0, .double FP.dconst0, .int 0, .double FP.dconst0, .int 0, .int 0]))] H := hP
  have hD : va_D A [(h0, .inr (2, [.int 0, .ref q1, .ref q2, .ref q3, .int 0, .int 1500, .int 0, .null, .int 0, .int 0, .int 0, .int 0, .int 0, .int 0, .int 0])), (q1, .inr (6, [.null, .null, .int 0, .int 0])), (q2, .inr (3, [.double 4617315517961601024, .double 4624633867356078080, .double 4591870180066957722, .double 4598175219545276416, .double FP.dconst0, .int (-1), .int 0])), (q3, .inr (1, [.double 4617315517961601024, .double 4636737291354636288, .int 0, .double FP.dconst0, .int 0, .double FP.dconst0, .int 0, .int 0]))] := hD
  refine lv_aload_n hx hb dX2_init_64 rfl (lv_at hl 0 rfl) ?_
  refine lv_iconst (v := 0) hx hb dX2_init_65 (by decide) ?_
  refine va_put (D := (dC, dI)) (ci := 2) (v := .int 0) (ty := .int) (C := RX2) (T := TX2) (N := 15) hx hb hts iX2_init_2 tyX2 tyX2_ok nmX2 hown hK hP hD hS 0 rfl rfl 9 (by decide) (hts (.fieldLink RX2 49 "LinkQueues$Flow" "sent" "I") (by decide +kernel)) (fun _ h9 => h9) rfl (by decide +kernel) rfl rfl (Nat.le_of_ble_eq_true rfl) dX2_init_66 (fun H locs hP hD hS => ?_)
  have hP : va_P (dC, dI) vwCl [(h0, .inr (2, [.int 0, .ref q1, .ref q2, .ref q3, .int 0, .int 1500, .int 0, .null, .int 0, .int 0, .int 0, .int 0, .int 0, .int 0, .int 0])), (q1, .inr (6, [.null, .null, .int 0, .int 0])), (q2, .inr (3, [.double 4617315517961601024, .double 4624633867356078080, .double 4591870180066957722, .double 4598175219545276416, .double FP.dconst0, .int (-1), .int 0])), (q3, .inr (1, [.double 4617315517961601024, .double 4636737291354636288, .int 0, .double FP.dconst0, .int 0, .double FP.dconst0, .int 0, .int 0]))] H := hP
  have hD : va_D A [(h0, .inr (2, [.int 0, .ref q1, .ref q2, .ref q3, .int 0, .int 1500, .int 0, .null, .int 0, .int 0, .int 0, .int 0, .int 0, .int 0, .int 0])), (q1, .inr (6, [.null, .null, .int 0, .int 0])), (q2, .inr (3, [.double 4617315517961601024, .double 4624633867356078080, .double 4591870180066957722, .double 4598175219545276416, .double FP.dconst0, .int (-1), .int 0])), (q3, .inr (1, [.double 4617315517961601024, .double 4636737291354636288, .int 0, .double FP.dconst0, .int 0, .double FP.dconst0, .int 0, .int 0]))] := hD
  refine lv_aload_n hx hb dX2_init_69 rfl (lv_at hl 0 rfl) ?_
  refine lv_iconst (v := 0) hx hb dX2_init_70 (by decide) ?_
  refine va_put (D := (dC, dI)) (ci := 2) (v := .int 0) (ty := .int) (C := RX2) (T := TX2) (N := 15) hx hb hts iX2_init_2 tyX2 tyX2_ok nmX2 hown hK hP hD hS 0 rfl rfl 10 (by decide) (hts (.fieldLink RX2 52 "LinkQueues$Flow" "sentBytes" "I") (by decide +kernel)) (fun _ h9 => h9) rfl (by decide +kernel) rfl rfl (Nat.le_of_ble_eq_true rfl) dX2_init_71 (fun H locs hP hD hS => ?_)
  have hP : va_P (dC, dI) vwCl [(h0, .inr (2, [.int 0, .ref q1, .ref q2, .ref q3, .int 0, .int 1500, .int 0, .null, .int 0, .int 0, .int 0, .int 0, .int 0, .int 0, .int 0])), (q1, .inr (6, [.null, .null, .int 0, .int 0])), (q2, .inr (3, [.double 4617315517961601024, .double 4624633867356078080, .double 4591870180066957722, .double 4598175219545276416, .double FP.dconst0, .int (-1), .int 0])), (q3, .inr (1, [.double 4617315517961601024, .double 4636737291354636288, .int 0, .double FP.dconst0, .int 0, .double FP.dconst0, .int 0, .int 0]))] H := hP
  have hD : va_D A [(h0, .inr (2, [.int 0, .ref q1, .ref q2, .ref q3, .int 0, .int 1500, .int 0, .null, .int 0, .int 0, .int 0, .int 0, .int 0, .int 0, .int 0])), (q1, .inr (6, [.null, .null, .int 0, .int 0])), (q2, .inr (3, [.double 4617315517961601024, .double 4624633867356078080, .double 4591870180066957722, .double 4598175219545276416, .double FP.dconst0, .int (-1), .int 0])), (q3, .inr (1, [.double 4617315517961601024, .double 4636737291354636288, .int 0, .double FP.dconst0, .int 0, .double FP.dconst0, .int 0, .int 0]))] := hD
  refine lv_aload_n hx hb dX2_init_74 rfl (lv_at hl 0 rfl) ?_
  refine lv_iconst (v := 0) hx hb dX2_init_75 (by decide) ?_
  refine va_put (D := (dC, dI)) (ci := 2) (v := .int 0) (ty := .int) (C := RX2) (T := TX2) (N := 15) hx hb hts iX2_init_2 tyX2 tyX2_ok nmX2 hown hK hP hD hS 0 rfl rfl 11 (by decide) (hts (.fieldLink RX2 55 "LinkQueues$Flow" "lostFull" "I") (by decide +kernel)) (fun _ h9 => h9) rfl (by decide +kernel) rfl rfl (Nat.le_of_ble_eq_true rfl) dX2_init_76 (fun H locs hP hD hS => ?_)
  have hP : va_P (dC, dI) vwCl [(h0, .inr (2, [.int 0, .ref q1, .ref q2, .ref q3, .int 0, .int 1500, .int 0, .null, .int 0, .int 0, .int 0, .int 0, .int 0, .int 0, .int 0])), (q1, .inr (6, [.null, .null, .int 0, .int 0])), (q2, .inr (3, [.double 4617315517961601024, .double 4624633867356078080, .double 4591870180066957722, .double 4598175219545276416, .double FP.dconst0, .int (-1), .int 0])), (q3, .inr (1, [.double 4617315517961601024, .double 4636737291354636288, .int 0, .double FP.dconst0, .int 0, .double FP.dconst0, .int 0, .int 0]))] H := hP
  have hD : va_D A [(h0, .inr (2, [.int 0, .ref q1, .ref q2, .ref q3, .int 0, .int 1500, .int 0, .null, .int 0, .int 0, .int 0, .int 0, .int 0, .int 0, .int 0])), (q1, .inr (6, [.null, .null, .int 0, .int 0])), (q2, .inr (3, [.double 4617315517961601024, .double 4624633867356078080, .double 4591870180066957722, .double 4598175219545276416, .double FP.dconst0, .int (-1), .int 0])), (q3, .inr (1, [.double 4617315517961601024, .double 4636737291354636288, .int 0, .double FP.dconst0, .int 0, .double FP.dconst0, .int 0, .int 0]))] := hD
  refine lv_aload_n hx hb dX2_init_79 rfl (lv_at hl 0 rfl) ?_
  refine lv_iconst (v := 0) hx hb dX2_init_80 (by decide) ?_
  refine va_put (D := (dC, dI)) (ci := 2) (v := .int 0) (ty := .int) (C := RX2) (T := TX2) (N := 15) hx hb hts iX2_init_2 tyX2 tyX2_ok nmX2 hown hK hP hD hS 0 rfl rfl 12 (by decide) (hts (.fieldLink RX2 58 "LinkQueues$Flow" "lostMean" "I") (by decide +kernel)) (fun _ h9 => h9) rfl (by decide +kernel) rfl rfl (Nat.le_of_ble_eq_true rfl) dX2_init_81 (fun H locs hP hD hS => ?_)
  have hP : va_P (dC, dI) vwCl [(h0, .inr (2, [.int 0, .ref q1, .ref q2, .ref q3, .int 0, .int 1500, .int 0, .null, .int 0, .int 0, .int 0, .int 0, .int 0, .int 0, .int 0])), (q1, .inr (6, [.null, .null, .int 0, .int 0])), (q2, .inr (3, [.double 4617315517961601024, .double 4624633867356078080, .double 4591870180066957722, .double 4598175219545276416, .double FP.dconst0, .int (-1), .int 0])), (q3, .inr (1, [.double 4617315517961601024, .double 4636737291354636288, .int 0, .double FP.dconst0, .int 0, .double FP.dconst0, .int 0, .int 0]))] H := hP
  have hD : va_D A [(h0, .inr (2, [.int 0, .ref q1, .ref q2, .ref q3, .int 0, .int 1500, .int 0, .null, .int 0, .int 0, .int 0, .int 0, .int 0, .int 0, .int 0])), (q1, .inr (6, [.null, .null, .int 0, .int 0])), (q2, .inr (3, [.double 4617315517961601024, .double 4624633867356078080, .double 4591870180066957722, .double 4598175219545276416, .double FP.dconst0, .int (-1), .int 0])), (q3, .inr (1, [.double 4617315517961601024, .double 4636737291354636288, .int 0, .double FP.dconst0, .int 0, .double FP.dconst0, .int 0, .int 0]))] := hD
  refine lv_aload_n hx hb dX2_init_84 rfl (lv_at hl 0 rfl) ?_
  refine lv_iconst (v := 0) hx hb dX2_init_85 (by decide) ?_
  refine va_put (D := (dC, dI)) (ci := 2) (v := .int 0) (ty := .int) (C := RX2) (T := TX2) (N := 15) hx hb hts iX2_init_2 tyX2 tyX2_ok nmX2 hown hK hP hD hS 0 rfl rfl 13 (by decide) (hts (.fieldLink RX2 61 "LinkQueues$Flow" "lostDelay" "I") (by decide +kernel)) (fun _ h9 => h9) rfl (by decide +kernel) rfl rfl (Nat.le_of_ble_eq_true rfl) dX2_init_86 (fun H locs hP hD hS => ?_)
  have hP : va_P (dC, dI) vwCl [(h0, .inr (2, [.int 0, .ref q1, .ref q2, .ref q3, .int 0, .int 1500, .int 0, .null, .int 0, .int 0, .int 0, .int 0, .int 0, .int 0, .int 0])), (q1, .inr (6, [.null, .null, .int 0, .int 0])), (q2, .inr (3, [.double 4617315517961601024, .double 4624633867356078080, .double 4591870180066957722, .double 4598175219545276416, .double FP.dconst0, .int (-1), .int 0])), (q3, .inr (1, [.double 4617315517961601024, .double 4636737291354636288, .int 0, .double FP.dconst0, .int 0, .double FP.dconst0, .int 0, .int 0]))] H := hP
  have hD : va_D A [(h0, .inr (2, [.int 0, .ref q1, .ref q2, .ref q3, .int 0, .int 1500, .int 0, .null, .int 0, .int 0, .int 0, .int 0, .int 0, .int 0, .int 0])), (q1, .inr (6, [.null, .null, .int 0, .int 0])), (q2, .inr (3, [.double 4617315517961601024, .double 4624633867356078080, .double 4591870180066957722, .double 4598175219545276416, .double FP.dconst0, .int (-1), .int 0])), (q3, .inr (1, [.double 4617315517961601024, .double 4636737291354636288, .int 0, .double FP.dconst0, .int 0, .double FP.dconst0, .int 0, .int 0]))] := hD
  refine lv_aload_n hx hb dX2_init_89 rfl (lv_at hl 0 rfl) ?_
  refine lv_iconst (v := 0) hx hb dX2_init_90 (by decide) ?_
  refine va_put (D := (dC, dI)) (ci := 2) (v := .int 0) (ty := .int) (C := RX2) (T := TX2) (N := 15) hx hb hts iX2_init_2 tyX2 tyX2_ok nmX2 hown hK hP hD hS 0 rfl rfl 14 (by decide) (hts (.fieldLink RX2 64 "LinkQueues$Flow" "marked" "I") (by decide +kernel)) (fun _ h9 => h9) rfl (by decide +kernel) rfl rfl (Nat.le_of_ble_eq_true rfl) dX2_init_91 (fun H locs hP hD hS => ?_)
  have hP : va_P (dC, dI) vwCl [(h0, .inr (2, [.int 0, .ref q1, .ref q2, .ref q3, .int 0, .int 1500, .int 0, .null, .int 0, .int 0, .int 0, .int 0, .int 0, .int 0, .int 0])), (q1, .inr (6, [.null, .null, .int 0, .int 0])), (q2, .inr (3, [.double 4617315517961601024, .double 4624633867356078080, .double 4591870180066957722, .double 4598175219545276416, .double FP.dconst0, .int (-1), .int 0])), (q3, .inr (1, [.double 4617315517961601024, .double 4636737291354636288, .int 0, .double FP.dconst0, .int 0, .double FP.dconst0, .int 0, .int 0]))] H := hP
  have hD : va_D A [(h0, .inr (2, [.int 0, .ref q1, .ref q2, .ref q3, .int 0, .int 1500, .int 0, .null, .int 0, .int 0, .int 0, .int 0, .int 0, .int 0, .int 0])), (q1, .inr (6, [.null, .null, .int 0, .int 0])), (q2, .inr (3, [.double 4617315517961601024, .double 4624633867356078080, .double 4591870180066957722, .double 4598175219545276416, .double FP.dconst0, .int (-1), .int 0])), (q3, .inr (1, [.double 4617315517961601024, .double 4636737291354636288, .int 0, .double FP.dconst0, .int 0, .double FP.dconst0, .int 0, .int 0]))] := hD
  refine lv_aload_n hx hb dX2_init_94 rfl (lv_at hl 0 rfl) ?_
  refine lv_iload_n hx hb dX2_init_95 rfl (lv_at hl 1 rfl) ?_
  refine va_putF (D := (dC, dI)) (ci := 2) (v := .int a1) (ty := .int) (C := RX2) (T := TX2) (N := 15) hx hb hts iX2_init_2 tyX2 tyX2_ok nmX2 hown hK hP hD hS 0 rfl rfl 0 (by decide) (hts (.fieldLink RX2 67 "LinkQueues$Flow" "place" "I") (by decide +kernel)) (fun _ h9 => h9) rfl hin rfl (by decide +kernel) rfl rfl (Nat.le_of_ble_eq_true rfl) dX2_init_96 (fun H locs hP hD hS => ?_)
  have hP : va_P (dC, dI) vwCl [(h0, .inr (2, [.int a1, .ref q1, .ref q2, .ref q3, .int 0, .int 1500, .int 0, .null, .int 0, .int 0, .int 0, .int 0, .int 0, .int 0, .int 0])), (q1, .inr (6, [.null, .null, .int 0, .int 0])), (q2, .inr (3, [.double 4617315517961601024, .double 4624633867356078080, .double 4591870180066957722, .double 4598175219545276416, .double FP.dconst0, .int (-1), .int 0])), (q3, .inr (1, [.double 4617315517961601024, .double 4636737291354636288, .int 0, .double FP.dconst0, .int 0, .double FP.dconst0, .int 0, .int 0]))] H := hP
  have hD : va_D A [(h0, .inr (2, [.int a1, .ref q1, .ref q2, .ref q3, .int 0, .int 1500, .int 0, .null, .int 0, .int 0, .int 0, .int 0, .int 0, .int 0, .int 0])), (q1, .inr (6, [.null, .null, .int 0, .int 0])), (q2, .inr (3, [.double 4617315517961601024, .double 4624633867356078080, .double 4591870180066957722, .double 4598175219545276416, .double FP.dconst0, .int (-1), .int 0])), (q3, .inr (1, [.double 4617315517961601024, .double 4636737291354636288, .int 0, .double FP.dconst0, .int 0, .double FP.dconst0, .int 0, .int 0]))] := hD
  refine W.widen (k := 3) (n := 19) (Nat.le_of_ble_eq_true rfl) (Nat.le_of_ble_eq_true rfl) ?_
  exact W.vret hx hb hr (fun t ht hW => ⟨⟨(q1, q2, q3), rfl, trivial, by rw [ht]; exact hP, va_K.moved hW.alike hK, hD⟩, hS.F ht⟩) hS.2.2 dX2_init_99
