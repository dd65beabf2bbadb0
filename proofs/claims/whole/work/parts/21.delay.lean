def wp_X1_tell (n : Nat) (σ : ST) (j : Nat) (a1 : UInt64) (a3 : UInt64) (K : ST → Prop) : Prop := j < 6 ∧
∀ s2, s2 = upD σ 16 j a1 →
∀ s3, s3 = upD s2 17 j a3 →
K s3
set_option maxRecDepth 20000 in
theorem iX1_tell_1 : ∀ w ∈ wsX10, w ∈ wsX1_tell := by decide +kernel
set_option maxHeartbeats 8000000 in
set_option maxRecDepth 100000 in
theorem c_X1_tell (l : Launch) (dC : Nat → ClassId) (dI : Nat → Nat → Nat) (cA : Nat → ClassId) (ad : Nat → Nat → Nat) (n : Nat) (σ : ST) (j : Nat) (a1 : UInt64) (a3 : UInt64) (sz : Nat) (K : ST → Prop) (hwp : wp_X1_tell n σ j a1 a3 K) : Met l yX1_tell wsX1_tell ({ frames := 0, cells := 0, slots := 0, locals := 0 } : Room) (va_Pc [.ref (ad 1 j), .double a1, .double a3] (preC dC dI cA (Wc cA ad n σ) sz)) (va_Qv K (atC dC dI cA (Wc cA ad n) (va_A (Wc cA ad n σ) sz)) (va_A (Wc cA ad n σ) sz)) 0 0 (va_A (Wc cA ad n σ) sz) := by
  refine Met.ofW (cc := cX1_tell) (maxL := 5) (ret := none) (by decide) rfl ?_
  intro p e s m args below meth c s₁ B hml hv
  obtain ⟨rfl, hsz, hP, hK, hD0⟩ := hv
  have hx := B.exec
  have hb := B.bytes
  have hr := B.returns
  have hts := atoms_spec (ws := wsX1_tell) B.pre
  have hown : s.vm.findClass RX1 = some m.cls := findClass_of_methodNamed B.named
  have hlocks := B.notSynchronized
  subst hsz
  have hD := hD0.self (sz := s.heap.size)
  clear hD0
  generalize hAe : va_A (Wc cA ad n σ) s.heap.size = A at hD ⊢
  have hA : ∀ q : Nat, s.heap.size ≤ q → A q := fun q h => by rw [← hAe]; exact Or.inr h
  have hS : va_S A s.heap s.heap [] := va_S.rf
  have hkc : 0 ≤ 0 := Nat.le_refl 0
  have hks : 0 ≤ 0 := Nat.le_refl 0
  have hl := lv_entry ([.ref (ad 1 j), .double a1, .double a3]) (n := 5) (Nat.le_of_ble_eq_true rfl)
  rw [lg_entry_eq]
  generalize (lg_sl ([.ref (ad 1 j), .double a1, .double a3]) ++ List.replicate (5 - (lg_sl ([.ref (ad 1 j), .double a1, .double a3])).length) Slot.unset).toArray = ls at hl ⊢
  have hl : lv_has ls 5 [(0, .ref (ad 1 j)), (1, .double a1), (3, .double a3)] := hl
  unfold wp_X1_tell at hwp
  generalize hHe : s.heap = H at hP ⊢
  have hS : va_S A s.heap H [] := by rw [← hHe]; exact va_S.rf
  clear hHe
  refine lv_aload_n hx hb dX1_tell_0 rfl (lv_at hl 0 rfl) ?_
  refine lv_dload_n hx hb dX1_tell_1 rfl (lv_at hl 1 rfl) ?_
  obtain ⟨hb_1, hwp⟩ := hwp
  obtain ⟨s2, e_s2⟩ : ∃ z, z = upD σ 16 j a1 := ⟨_, rfl⟩
  refine st_put (D := (dC, dI)) (ci := 1) (v := .double a1) (ty := .double) (C := RX1) (T := TX1) (N := 8) (ws' := Wc cA ad n s2) hx hb hts iX1_tell_1 tyX1 tyX1_ok nmX1 hown hK hP hD hS (25 + j) (atDelay hb_1) rfl 0 (by decide) (hts (.fieldLink RX1 9 "LinkQueues$Delay" "target" "D") (by decide +kernel)) (fun _ h9 => h9) rfl (by decide +kernel) rfl rfl (Nat.le_of_ble_eq_true rfl) dX1_tell_2 (by rw [e_s2]; exact stDelay_0 hb_1 a1) (fun H locs hP hD hS => ?_)
  replace hwp := hwp s2 e_s2
  refine lv_aload_n hx hb dX1_tell_5 rfl (lv_at hl 0 rfl) ?_
  refine lv_dload_n hx hb dX1_tell_6 rfl (lv_at hl 2 rfl) ?_
  obtain ⟨s3, e_s3⟩ : ∃ z, z = upD s2 17 j a3 := ⟨_, rfl⟩
  refine st_put (D := (dC, dI)) (ci := 1) (v := .double a3) (ty := .double) (C := RX1) (T := TX1) (N := 8) (ws' := Wc cA ad n s3) hx hb hts iX1_tell_1 tyX1 tyX1_ok nmX1 hown hK hP hD hS (25 + j) (atDelay hb_1) rfl 1 (by decide) (hts (.fieldLink RX1 17 "LinkQueues$Delay" "interval" "D") (by decide +kernel)) (fun _ h9 => h9) rfl (by decide +kernel) rfl rfl (Nat.le_of_ble_eq_true rfl) dX1_tell_7 (by rw [e_s3]; exact stDelay_1 hb_1 a3) (fun H locs hP hD hS => ?_)
  replace hwp := hwp s3 e_s3
  exact W.vret hx hb hr (fun t ht hW => ⟨⟨s3, rfl, hwp, by rw [ht]; exact hP, va_K.moved hW.alike hK, hD⟩, hS.F ht⟩) hS.2.2 dX1_tell_10
def wp_X1_restart (n : Nat) (σ : ST) (j : Nat) (K : ST → Prop) : Prop := j < 6 ∧
∀ s2, s2 = upI σ 18 j 0 →
∀ s3, s3 = upI s2 20 j 0 →
∀ s4, s4 = upI s3 22 j 0 →
∀ s5, s5 = upI s4 23 j 0 →
K s5
set_option maxRecDepth 20000 in
theorem iX1_restart_1 : ∀ w ∈ wsX10, w ∈ wsX1_restart := by decide +kernel
set_option maxHeartbeats 8000000 in
set_option maxRecDepth 100000 in
theorem c_X1_restart (l : Launch) (dC : Nat → ClassId) (dI : Nat → Nat → Nat) (cA : Nat → ClassId) (ad : Nat → Nat → Nat) (n : Nat) (σ : ST) (j : Nat) (sz : Nat) (K : ST → Prop) (hwp : wp_X1_restart n σ j K) : Met l yX1_restart wsX1_restart ({ frames := 0, cells := 0, slots := 0, locals := 0 } : Room) (va_Pc [.ref (ad 1 j)] (preC dC dI cA (Wc cA ad n σ) sz)) (va_Qv K (atC dC dI cA (Wc cA ad n) (va_A (Wc cA ad n σ) sz)) (va_A (Wc cA ad n σ) sz)) 0 0 (va_A (Wc cA ad n σ) sz) := by
  refine Met.ofW (cc := cX1_restart) (maxL := 1) (ret := none) (by decide) rfl ?_
  intro p e s m args below meth c s₁ B hml hv
  obtain ⟨rfl, hsz, hP, hK, hD0⟩ := hv
  have hx := B.exec
  have hb := B.bytes
  have hr := B.returns
  have hts := atoms_spec (ws := wsX1_restart) B.pre
  have hown : s.vm.findClass RX1 = some m.cls := findClass_of_methodNamed B.named
  have hlocks := B.notSynchronized
  subst hsz
  have hD := hD0.self (sz := s.heap.size)
  clear hD0
  generalize hAe : va_A (Wc cA ad n σ) s.heap.size = A at hD ⊢
  have hA : ∀ q : Nat, s.heap.size ≤ q → A q := fun q h => by rw [← hAe]; exact Or.inr h
  have hS : va_S A s.heap s.heap [] := va_S.rf
  have hkc : 0 ≤ 0 := Nat.le_refl 0
  have hks : 0 ≤ 0 := Nat.le_refl 0
  have hl := lv_entry ([.ref (ad 1 j)]) (n := 1) (Nat.le_of_ble_eq_true rfl)
  rw [lg_entry_eq]
  generalize (lg_sl ([.ref (ad 1 j)]) ++ List.replicate (1 - (lg_sl ([.ref (ad 1 j)])).length) Slot.unset).toArray = ls at hl ⊢
  have hl : lv_has ls 1 [(0, .ref (ad 1 j))] := hl
  unfold wp_X1_restart at hwp
  generalize hHe : s.heap = H at hP ⊢
  have hS : va_S A s.heap H [] := by rw [← hHe]; exact va_S.rf
  clear hHe
  refine lv_aload_n hx hb dX1_restart_0 rfl (lv_at hl 0 rfl) ?_
  refine lv_iconst (v := 0) hx hb dX1_restart_1 (by decide) ?_
  obtain ⟨hb_1, hwp⟩ := hwp
  obtain ⟨s2, e_s2⟩ : ∃ z, z = upI σ 18 j 0 := ⟨_, rfl⟩
  refine st_put (D := (dC, dI)) (ci := 1) (v := .int 0) (ty := .boolean) (C := RX1) (T := TX1) (N := 8) (ws' := Wc cA ad n s2) hx hb hts iX1_restart_1 tyX1 tyX1_ok nmX1 hown hK hP hD hS (25 + j) (atDelay hb_1) rfl 2 (by decide) (hts (.fieldLink RX1 20 "LinkQueues$Delay" "isAbove" "Z") (by decide +kernel)) (fun _ h9 => h9) rfl (by decide +kernel) rfl rfl (Nat.le_of_ble_eq_true rfl) dX1_restart_2 (by rw [e_s2]; exact stDelay_2 hb_1 0) (fun H locs hP hD hS => ?_)
  replace hwp := hwp s2 e_s2
  refine lv_aload_n hx hb dX1_restart_5 rfl (lv_at hl 0 rfl) ?_
  refine lv_iconst (v := 0) hx hb dX1_restart_6 (by decide) ?_
  obtain ⟨s3, e_s3⟩ : ∃ z, z = upI s2 20 j 0 := ⟨_, rfl⟩
  refine st_put (D := (dC, dI)) (ci := 1) (v := .int 0) (ty := .boolean) (C := RX1) (T := TX1) (N := 8) (ws' := Wc cA ad n s3) hx hb hts iX1_restart_1 tyX1 tyX1_ok nmX1 hown hK hP hD hS (25 + j) (atDelay hb_1) rfl 4 (by decide) (hts (.fieldLink RX1 27 "LinkQueues$Delay" "drops" "Z") (by decide +kernel)) (fun _ h9 => h9) rfl (by decide +kernel) rfl rfl (Nat.le_of_ble_eq_true rfl) dX1_restart_7 (by rw [e_s3]; exact stDelay_4 hb_1 0) (fun H locs hP hD hS => ?_)
  replace hwp := hwp s3 e_s3
  refine lv_aload_n hx hb dX1_restart_10 rfl (lv_at hl 0 rfl) ?_
  refine lv_iconst (v := 0) hx hb dX1_restart_11 (by decide) ?_
  obtain ⟨s4, e_s4⟩ : ∃ z, z = upI s3 22 j 0 := ⟨_, rfl⟩
  refine st_put (D := (dC, dI)) (ci := 1) (v := .int 0) (ty := .int) (C := RX1) (T := TX1) (N := 8) (ws' := Wc cA ad n s4) hx hb hts iX1_restart_1 tyX1 tyX1_ok nmX1 hown hK hP hD hS (25 + j) (atDelay hb_1) rfl 6 (by decide) (hts (.fieldLink RX1 33 "LinkQueues$Delay" "count" "I") (by decide +kernel)) (fun _ h9 => h9) rfl (by decide +kernel) rfl rfl (Nat.le_of_ble_eq_true rfl) dX1_restart_12 (by rw [e_s4]; exact stDelay_6 hb_1 0) (fun H locs hP hD hS => ?_)
  replace hwp := hwp s4 e_s4
  refine lv_aload_n hx hb dX1_restart_15 rfl (lv_at hl 0 rfl) ?_
  refine lv_iconst (v := 0) hx hb dX1_restart_16 (by decide) ?_
  obtain ⟨s5, e_s5⟩ : ∃ z, z = upI s4 23 j 0 := ⟨_, rfl⟩
  refine st_put (D := (dC, dI)) (ci := 1) (v := .int 0) (ty := .int) (C := RX1) (T := TX1) (N := 8) (ws' := Wc cA ad n s5) hx hb hts iX1_restart_1 tyX1 tyX1_ok nmX1 hown hK hP hD hS (25 + j) (atDelay hb_1) rfl 7 (by decide) (hts (.fieldLink RX1 37 "LinkQueues$Delay" "last" "I") (by decide +kernel)) (fun _ h9 => h9) rfl (by decide +kernel) rfl rfl (Nat.le_of_ble_eq_true rfl) dX1_restart_17 (by rw [e_s5]; exact stDelay_7 hb_1 0) (fun H locs hP hD hS => ?_)
  replace hwp := hwp s5 e_s5
  exact W.vret hx hb hr (fun t ht hW => ⟨⟨s5, rfl, hwp, by rw [ht]; exact hP, va_K.moved hW.alike hK, hD⟩, hS.F ht⟩) hS.2.2 dX1_restart_20
def wp_X1_isLate (n : Nat) (σ : ST) (j : Nat) (a1 : Int32) (a2 : Int32) (a3 : Int32) (K : Int32 → ST → Prop) : Prop := j < 6 ∧
(((Op.cmpValue (FP.dcmp (FP.i2d a1) (sD σ 16 j)) .g) < 0 → (∀ s2, s2 = upI σ 18 j 0 →
K 0 s2)) ∧ (¬ ((Op.cmpValue (FP.dcmp (FP.i2d a1) (sD σ 16 j)) .g) < 0) → (((a3 = 0 → (((¬ (sI σ 18 j) = 0 → ((((Op.cmpValue (FP.dcmp (FP.i2d a2) (sD σ 19 j)) .l) < 0 → (K 0 σ)) ∧ (¬ ((Op.cmpValue (FP.dcmp (FP.i2d a2) (sD σ 19 j)) .l) < 0) → (K 1 σ))))) ∧ ((sI σ 18 j) = 0 → (∀ s3, s3 = upI σ 18 j 1 →
vf_n64 (FP.dadd (FP.i2d a2) (sD s3 17 j)) ∧
∀ s4, s4 = upD s3 19 j (FP.dadd (FP.i2d a2) (sD s3 17 j)) →
K 0 s4))))) ∧ (¬ (a3 = 0) → (∀ s5, s5 = upI σ 18 j 0 →
K 0 s5))))))
set_option maxRecDepth 20000 in
theorem iX1_isLate_1 : ∀ w ∈ wsX10, w ∈ wsX1_isLate := by decide +kernel
set_option maxHeartbeats 8000000 in
set_option maxRecDepth 100000 in
theorem c_X1_isLate (l : Launch) (dC : Nat → ClassId) (dI : Nat → Nat → Nat) (cA : Nat → ClassId) (ad : Nat → Nat → Nat) (n : Nat) (σ : ST) (j : Nat) (a1 : Int32) (a2 : Int32) (a3 : Int32) (sz : Nat) (K : Int32 → ST → Prop) (hwp : wp_X1_isLate n σ j a1 a2 a3 K) : Met l yX1_isLate wsX1_isLate ({ frames := 0, cells := 0, slots := 0, locals := 0 } : Room) (va_Pc [.ref (ad 1 j), .int a1, .int a2, .int a3] (preC dC dI cA (Wc cA ad n σ) sz)) (va_Qi K (atC dC dI cA (Wc cA ad n) (va_A (Wc cA ad n σ) sz)) (va_A (Wc cA ad n σ) sz)) 0 0 (va_A (Wc cA ad n σ) sz) := by
  refine Met.ofW (cc := cX1_isLate) (maxL := 4) (ret := (some .boolean)) (by decide) rfl ?_
  intro p e s m args below meth c s₁ B hml hv
  obtain ⟨rfl, hsz, hP, hK, hD0⟩ := hv
  have hx := B.exec
  have hb := B.bytes
  have hr := B.returns
  have hts := atoms_spec (ws := wsX1_isLate) B.pre
  have hown : s.vm.findClass RX1 = some m.cls := findClass_of_methodNamed B.named
  have hlocks := B.notSynchronized
  subst hsz
  have hD := hD0.self (sz := s.heap.size)
  clear hD0
  generalize hAe : va_A (Wc cA ad n σ) s.heap.size = A at hD ⊢
  have hA : ∀ q : Nat, s.heap.size ≤ q → A q := fun q h => by rw [← hAe]; exact Or.inr h
  have hS : va_S A s.heap s.heap [] := va_S.rf
  have hkc : 0 ≤ 0 := Nat.le_refl 0
  have hks : 0 ≤ 0 := Nat.le_refl 0
  have hl := lv_entry ([.ref (ad 1 j), .int a1, .int a2, .int a3]) (n := 4) (Nat.le_of_ble_eq_true rfl)
  rw [lg_entry_eq]
  generalize (lg_sl ([.ref (ad 1 j), .int a1, .int a2, .int a3]) ++ List.replicate (4 - (lg_sl ([.ref (ad 1 j), .int a1, .int a2, .int a3])).length) Slot.unset).toArray = ls at hl ⊢
  have hl : lv_has ls 4 [(0, .ref (ad 1 j)), (1, .int a1), (2, .int a2), (3, .int a3)] := hl
  unfold wp_X1_isLate at hwp
  generalize hHe : s.heap = H at hP ⊢
  have hS : va_S A s.heap H [] := by rw [← hHe]; exact va_S.rf
  clear hHe
  refine lv_iload_n hx hb dX1_isLate_0 rfl (lv_at hl 1 rfl) ?_
  refine lv_i2d hx hb dX1_isLate_1 ?_
  refine lv_aload_n hx hb dX1_isLate_2 rfl (lv_at hl 0 rfl) ?_
  obtain ⟨hb_1, hwp⟩ := hwp
  refine va_get (D := (dC, dI)) (ci := 1) (v := .double (sD σ 16 j)) (C := RX1) (T := TX1) (N := 8) hx hb hts iX1_isLate_1 hown hK hP (25 + j) (atDelay hb_1) rfl 0 (by decide) (hts (.fieldLink RX1 9 "LinkQueues$Delay" "target" "D") (by decide +kernel)) (fun _ h9 => h9) rfl dX1_isLate_3 ?_
  refine lv_dcmp hx hb dX1_isLate_6 ?_
  refine lv_if_lt (tgt := 14) hx hb dX1_isLate_7 (by decide) (fun c_7 => ?_) (fun c_7 => ?_)
  · replace hwp := hwp.1 c_7
    refine lv_aload_n hx hb dX1_isLate_14 rfl (lv_at hl 0 rfl) ?_
    refine lv_iconst (v := 0) hx hb dX1_isLate_15 (by decide) ?_
    obtain ⟨s2, e_s2⟩ : ∃ z, z = upI σ 18 j 0 := ⟨_, rfl⟩
    refine st_put (D := (dC, dI)) (ci := 1) (v := .int 0) (ty := .boolean) (C := RX1) (T := TX1) (N := 8) (ws' := Wc cA ad n s2) hx hb hts iX1_isLate_1 tyX1 tyX1_ok nmX1 hown hK hP hD hS (25 + j) (atDelay hb_1) rfl 2 (by decide) (hts (.fieldLink RX1 20 "LinkQueues$Delay" "isAbove" "Z") (by decide +kernel)) (fun _ h9 => h9) rfl (by decide +kernel) rfl rfl (Nat.le_of_ble_eq_true rfl) dX1_isLate_16 (by rw [e_s2]; exact stDelay_2 hb_1 0) (fun H locs hP hD hS => ?_)
    replace hwp := hwp s2 e_s2
    refine lv_iconst (v := 0) hx hb dX1_isLate_19 (by decide) ?_
    exact W.zret (ty := .boolean) (v := 0) hx hb hr (isB_nar isB0) (fun t ht hW => ⟨⟨0, s2, rfl, hwp, by rw [ht]; exact hP, va_K.moved hW.alike hK, hD⟩, hS.F ht⟩) hS.2.2 dX1_isLate_20
  · replace hwp := hwp.2 c_7
    refine lv_iload_n hx hb dX1_isLate_10 rfl (lv_at hl 3 rfl) ?_
    refine lv_if_eq (tgt := 21) hx hb dX1_isLate_11 (by decide) (fun c_11 => ?_) (fun c_11 => ?_)
    · replace hwp := hwp.1 c_11
      refine lv_aload_n hx hb dX1_isLate_21 rfl (lv_at hl 0 rfl) ?_
      refine va_get (D := (dC, dI)) (ci := 1) (v := .int (sI σ 18 j)) (C := RX1) (T := TX1) (N := 8) hx hb hts iX1_isLate_1 hown hK hP (25 + j) (atDelay hb_1) rfl 2 (by decide) (hts (.fieldLink RX1 20 "LinkQueues$Delay" "isAbove" "Z") (by decide +kernel)) (fun _ h9 => h9) rfl dX1_isLate_22 ?_
      refine lv_if_ne (tgt := 46) hx hb dX1_isLate_25 (by decide) (fun c_25 => ?_) (fun c_25 => ?_)
      · replace hwp := hwp.1 c_25
        refine lv_iload_n hx hb dX1_isLate_46 rfl (lv_at hl 2 rfl) ?_
        refine lv_i2d hx hb dX1_isLate_47 ?_
        refine lv_aload_n hx hb dX1_isLate_48 rfl (lv_at hl 0 rfl) ?_
        refine va_get (D := (dC, dI)) (ci := 1) (v := .double (sD σ 19 j)) (C := RX1) (T := TX1) (N := 8) hx hb hts iX1_isLate_1 hown hK hP (25 + j) (atDelay hb_1) rfl 3 (by decide) (hts (.fieldLink RX1 24 "LinkQueues$Delay" "above" "D") (by decide +kernel)) (fun _ h9 => h9) rfl dX1_isLate_49 ?_
        refine lv_dcmp hx hb dX1_isLate_52 ?_
        refine lv_if_lt (tgt := 60) hx hb dX1_isLate_53 (by decide) (fun c_53 => ?_) (fun c_53 => ?_)
        · replace hwp := hwp.1 c_53
          refine lv_iconst (v := 0) hx hb dX1_isLate_60 (by decide) ?_
          exact W.zret (ty := .boolean) (v := 0) hx hb hr (isB_nar isB0) (fun t ht hW => ⟨⟨0, σ, rfl, hwp, by rw [ht]; exact hP, va_K.moved hW.alike hK, hD⟩, hS.F ht⟩) hS.2.2 dX1_isLate_61
        · replace hwp := hwp.2 c_53
          refine lv_iconst (v := 1) hx hb dX1_isLate_56 (by decide) ?_
          refine lv_goto (tgt := 61) hx hb dX1_isLate_57 (by decide) ?_
          exact W.zret (ty := .boolean) (v := 1) hx hb hr (isB_nar isB1) (fun t ht hW => ⟨⟨1, σ, rfl, hwp, by rw [ht]; exact hP, va_K.moved hW.alike hK, hD⟩, hS.F ht⟩) hS.2.2 dX1_isLate_61
      · replace hwp := hwp.2 c_25
        refine lv_aload_n hx hb dX1_isLate_28 rfl (lv_at hl 0 rfl) ?_
        refine lv_iconst (v := 1) hx hb dX1_isLate_29 (by decide) ?_
        obtain ⟨s3, e_s3⟩ : ∃ z, z = upI σ 18 j 1 := ⟨_, rfl⟩
        refine st_put (D := (dC, dI)) (ci := 1) (v := .int 1) (ty := .boolean) (C := RX1) (T := TX1) (N := 8) (ws' := Wc cA ad n s3) hx hb hts iX1_isLate_1 tyX1 tyX1_ok nmX1 hown hK hP hD hS (25 + j) (atDelay hb_1) rfl 2 (by decide) (hts (.fieldLink RX1 20 "LinkQueues$Delay" "isAbove" "Z") (by decide +kernel)) (fun _ h9 => h9) rfl (by decide +kernel) rfl rfl (Nat.le_of_ble_eq_true rfl) dX1_isLate_30 (by rw [e_s3]; exact stDelay_2 hb_1 1) (fun H locs hP hD hS => ?_)
        replace hwp := hwp s3 e_s3
        refine lv_aload_n hx hb dX1_isLate_33 rfl (lv_at hl 0 rfl) ?_
        refine lv_iload_n hx hb dX1_isLate_34 rfl (lv_at hl 2 rfl) ?_
        refine lv_i2d hx hb dX1_isLate_35 ?_
        refine lv_aload_n hx hb dX1_isLate_36 rfl (lv_at hl 0 rfl) ?_
        refine va_get (D := (dC, dI)) (ci := 1) (v := .double (sD s3 17 j)) (C := RX1) (T := TX1) (N := 8) hx hb hts iX1_isLate_1 hown hK hP (25 + j) (atDelay hb_1) rfl 1 (by decide) (hts (.fieldLink RX1 17 "LinkQueues$Delay" "interval" "D") (by decide +kernel)) (fun _ h9 => h9) rfl dX1_isLate_37 ?_
        refine lv_dadd hx hb dX1_isLate_40 hwp.1 ?_
        replace hwp := hwp.2
        obtain ⟨s4, e_s4⟩ : ∃ z, z = upD s3 19 j (FP.dadd (FP.i2d a2) (sD s3 17 j)) := ⟨_, rfl⟩
        refine st_put (D := (dC, dI)) (ci := 1) (v := .double (FP.dadd (FP.i2d a2) (sD s3 17 j))) (ty := .double) (C := RX1) (T := TX1) (N := 8) (ws' := Wc cA ad n s4) hx hb hts iX1_isLate_1 tyX1 tyX1_ok nmX1 hown hK hP hD hS (25 + j) (atDelay hb_1) rfl 3 (by decide) (hts (.fieldLink RX1 24 "LinkQueues$Delay" "above" "D") (by decide +kernel)) (fun _ h9 => h9) rfl (by decide +kernel) rfl rfl (Nat.le_of_ble_eq_true rfl) dX1_isLate_41 (by rw [e_s4]; exact stDelay_3 hb_1 (FP.dadd (FP.i2d a2) (sD s3 17 j))) (fun H locs hP hD hS => ?_)
        replace hwp := hwp s4 e_s4
        refine lv_iconst (v := 0) hx hb dX1_isLate_44 (by decide) ?_
        exact W.zret (ty := .boolean) (v := 0) hx hb hr (isB_nar isB0) (fun t ht hW => ⟨⟨0, s4, rfl, hwp, by rw [ht]; exact hP, va_K.moved hW.alike hK, hD⟩, hS.F ht⟩) hS.2.2 dX1_isLate_45
    · replace hwp := hwp.2 c_11
      refine lv_aload_n hx hb dX1_isLate_14 rfl (lv_at hl 0 rfl) ?_
      refine lv_iconst (v := 0) hx hb dX1_isLate_15 (by decide) ?_
      obtain ⟨s5, e_s5⟩ : ∃ z, z = upI σ 18 j 0 := ⟨_, rfl⟩
      refine st_put (D := (dC, dI)) (ci := 1) (v := .int 0) (ty := .boolean) (C := RX1) (T := TX1) (N := 8) (ws' := Wc cA ad n s5) hx hb hts iX1_isLate_1 tyX1 tyX1_ok nmX1 hown hK hP hD hS (25 + j) (atDelay hb_1) rfl 2 (by decide) (hts (.fieldLink RX1 20 "LinkQueues$Delay" "isAbove" "Z") (by decide +kernel)) (fun _ h9 => h9) rfl (by decide +kernel) rfl rfl (Nat.le_of_ble_eq_true rfl) dX1_isLate_16 (by rw [e_s5]; exact stDelay_2 hb_1 0) (fun H locs hP hD hS => ?_)
      replace hwp := hwp s5 e_s5
      refine lv_iconst (v := 0) hx hb dX1_isLate_19 (by decide) ?_
      exact W.zret (ty := .boolean) (v := 0) hx hb hr (isB_nar isB0) (fun t ht hW => ⟨⟨0, s5, rfl, hwp, by rw [ht]; exact hP, va_K.moved hW.alike hK, hD⟩, hS.F ht⟩) hS.2.2 dX1_isLate_20
def wp_X1_countToBeginWith (n : Nat) (σ : ST) (j : Nat) (a1 : Int32) (K : Int32 → ST → Prop) : Prop := j < 6 ∧
((((sI σ 22 j) - (sI σ 23 j)) ≤ 1 → (K 1 σ)) ∧ (¬ (((sI σ 22 j) - (sI σ 23 j)) ≤ 1) → (vf_n64 (FP.dsub (FP.i2d a1) (sD σ 21 j)) ∧
vf_n64 (FP.dmul 4625196817309499392 (sD σ 17 j)) ∧
((0 ≤ (Op.cmpValue (FP.dcmp (FP.dsub (FP.i2d a1) (sD σ 21 j)) (FP.dmul 4625196817309499392 (sD σ 17 j))) .g) → (K 1 σ)) ∧ (¬ (0 ≤ (Op.cmpValue (FP.dcmp (FP.dsub (FP.i2d a1) (sD σ 21 j)) (FP.dmul 4625196817309499392 (sD σ 17 j))) .g)) → (K ((sI σ 22 j) - (sI σ 23 j)) σ))))))
set_option maxRecDepth 20000 in
theorem iX1_countToBeginWith_1 : ∀ w ∈ wsX10, w ∈ wsX1_countToBeginWith := by decide +kernel
set_option maxHeartbeats 8000000 in
set_option maxRecDepth 100000 in
theorem c_X1_countToBeginWith (l : Launch) (dC : Nat → ClassId) (dI : Nat → Nat → Nat) (cA : Nat → ClassId) (ad : Nat → Nat → Nat) (n : Nat) (σ : ST) (j : Nat) (a1 : Int32) (sz : Nat) (K : Int32 → ST → Prop) (hwp : wp_X1_countToBeginWith n σ j a1 K) : Met l yX1_countToBeginWith wsX1_countToBeginWith ({ frames := 0, cells := 0, slots := 0, locals := 0 } : Room) (va_Pc [.ref (ad 1 j), .int a1] (preC dC dI cA (Wc cA ad n σ) sz)) (va_Qi K (atC dC dI cA (Wc cA ad n) (va_A (Wc cA ad n σ) sz)) (va_A (Wc cA ad n σ) sz)) 0 0 (va_A (Wc cA ad n σ) sz) := by
  refine Met.ofW (cc := cX1_countToBeginWith) (maxL := 3) (ret := (some .int)) (by decide) rfl ?_
  intro p e s m args below meth c s₁ B hml hv
  obtain ⟨rfl, hsz, hP, hK, hD0⟩ := hv
  have hx := B.exec
  have hb := B.bytes
  have hr := B.returns
  have hts := atoms_spec (ws := wsX1_countToBeginWith) B.pre
  have hown : s.vm.findClass RX1 = some m.cls := findClass_of_methodNamed B.named
  have hlocks := B.notSynchronized
  subst hsz
  have hD := hD0.self (sz := s.heap.size)
  clear hD0
  generalize hAe : va_A (Wc cA ad n σ) s.heap.size = A at hD ⊢
  have hA : ∀ q : Nat, s.heap.size ≤ q → A q := fun q h => by rw [← hAe]; exact Or.inr h
  have hS : va_S A s.heap s.heap [] := va_S.rf
  have hkc : 0 ≤ 0 := Nat.le_refl 0
  have hks : 0 ≤ 0 := Nat.le_refl 0
  have hl := lv_entry ([.ref (ad 1 j), .int a1]) (n := 3) (Nat.le_of_ble_eq_true rfl)
  rw [lg_entry_eq]
  generalize (lg_sl ([.ref (ad 1 j), .int a1]) ++ List.replicate (3 - (lg_sl ([.ref (ad 1 j), .int a1])).length) Slot.unset).toArray = ls at hl ⊢
  have hl : lv_has ls 3 [(0, .ref (ad 1 j)), (1, .int a1)] := hl
  unfold wp_X1_countToBeginWith at hwp
  generalize hHe : s.heap = H at hP ⊢
  have hS : va_S A s.heap H [] := by rw [← hHe]; exact va_S.rf
  clear hHe
  refine lv_aload_n hx hb dX1_countToBeginWith_0 rfl (lv_at hl 0 rfl) ?_
  obtain ⟨hb_1, hwp⟩ := hwp
  refine va_get (D := (dC, dI)) (ci := 1) (v := .int (sI σ 22 j)) (C := RX1) (T := TX1) (N := 8) hx hb hts iX1_countToBeginWith_1 hown hK hP (25 + j) (atDelay hb_1) rfl 6 (by decide) (hts (.fieldLink RX1 33 "LinkQueues$Delay" "count" "I") (by decide +kernel)) (fun _ h9 => h9) rfl dX1_countToBeginWith_1 ?_
  refine lv_aload_n hx hb dX1_countToBeginWith_4 rfl (lv_at hl 0 rfl) ?_
  refine va_get (D := (dC, dI)) (ci := 1) (v := .int (sI σ 23 j)) (C := RX1) (T := TX1) (N := 8) hx hb hts iX1_countToBeginWith_1 hown hK hP (25 + j) (atDelay hb_1) rfl 7 (by decide) (hts (.fieldLink RX1 37 "LinkQueues$Delay" "last" "I") (by decide +kernel)) (fun _ h9 => h9) rfl dX1_countToBeginWith_5 ?_
  refine lv_isub hx hb dX1_countToBeginWith_8 ?_
  refine lv_istore_n (lv' := [(2, .int ((sI σ 22 j) - (sI σ 23 j))), (0, .ref (ad 1 j)), (1, .int a1)]) hx hb dX1_countToBeginWith_9 rfl hl (by decide) rfl (fun ls hl => ?_)
  refine lv_iload_n hx hb dX1_countToBeginWith_10 rfl (lv_at hl 0 rfl) ?_
  refine lv_iconst (v := 1) hx hb dX1_countToBeginWith_11 (by decide) ?_
  refine lv_icmp_le (tgt := 38) hx hb dX1_countToBeginWith_12 (by decide) (fun c_12 => ?_) (fun c_12 => ?_)
  · replace hwp := hwp.1 c_12
    refine lv_iconst (v := 1) hx hb dX1_countToBeginWith_38 (by decide) ?_
    exact W.iret (v := 1) hx hb hr (fun t ht hW => ⟨⟨1, σ, rfl, hwp, by rw [ht]; exact hP, va_K.moved hW.alike hK, hD⟩, hS.F ht⟩) hS.2.2 dX1_countToBeginWith_39
  · replace hwp := hwp.2 c_12
    refine lv_iload_n hx hb dX1_countToBeginWith_15 rfl (lv_at hl 2 rfl) ?_
    refine lv_i2d hx hb dX1_countToBeginWith_16 ?_
    refine lv_aload_n hx hb dX1_countToBeginWith_17 rfl (lv_at hl 1 rfl) ?_
    refine va_get (D := (dC, dI)) (ci := 1) (v := .double (sD σ 21 j)) (C := RX1) (T := TX1) (N := 8) hx hb hts iX1_countToBeginWith_1 hown hK hP (25 + j) (atDelay hb_1) rfl 5 (by decide) (hts (.fieldLink RX1 30 "LinkQueues$Delay" "next" "D") (by decide +kernel)) (fun _ h9 => h9) rfl dX1_countToBeginWith_18 ?_
    refine lv_dsub hx hb dX1_countToBeginWith_21 hwp.1 ?_
    replace hwp := hwp.2
    refine lv_ldc2d (v := 4625196817309499392) hx hb hown (hts (.constantDouble RX1 52 (4625196817309499392)) (by decide +kernel)) dX1_countToBeginWith_22 ?_
    refine lv_aload_n hx hb dX1_countToBeginWith_25 rfl (lv_at hl 1 rfl) ?_
    refine va_get (D := (dC, dI)) (ci := 1) (v := .double (sD σ 17 j)) (C := RX1) (T := TX1) (N := 8) hx hb hts iX1_countToBeginWith_1 hown hK hP (25 + j) (atDelay hb_1) rfl 1 (by decide) (hts (.fieldLink RX1 17 "LinkQueues$Delay" "interval" "D") (by decide +kernel)) (fun _ h9 => h9) rfl dX1_countToBeginWith_26 ?_
    refine lv_dmul hx hb dX1_countToBeginWith_29 hwp.1 ?_
    replace hwp := hwp.2
    refine lv_dcmp hx hb dX1_countToBeginWith_30 ?_
    refine lv_if_ge (tgt := 38) hx hb dX1_countToBeginWith_31 (by decide) (fun c_31 => ?_) (fun c_31 => ?_)
    · replace hwp := hwp.1 c_31
      refine lv_iconst (v := 1) hx hb dX1_countToBeginWith_38 (by decide) ?_
      exact W.iret (v := 1) hx hb hr (fun t ht hW => ⟨⟨1, σ, rfl, hwp, by rw [ht]; exact hP, va_K.moved hW.alike hK, hD⟩, hS.F ht⟩) hS.2.2 dX1_countToBeginWith_39
    · replace hwp := hwp.2 c_31
      refine lv_iload_n hx hb dX1_countToBeginWith_34 rfl (lv_at hl 0 rfl) ?_
      refine lv_goto (tgt := 39) hx hb dX1_countToBeginWith_35 (by decide) ?_
      exact W.iret (v := ((sI σ 22 j) - (sI σ 23 j))) hx hb hr (fun t ht hW => ⟨⟨((sI σ 22 j) - (sI σ 23 j)), σ, rfl, hwp, by rw [ht]; exact hP, va_K.moved hW.alike hK, hD⟩, hS.F ht⟩) hS.2.2 dX1_countToBeginWith_39
def wp_X1_root_L5 (n : Nat) (a0 : Int32) (K : UInt64 → ST → Prop) : Nat → ST → Int32 → UInt64 → Prop
  | 0 => fun _ _ _ => False
  | fu5 + 1 => fun z5 x3_5 x1_5 => ((20 ≤ x3_5 → (K x1_5 z5)) ∧ (¬ (20 ≤ x3_5) → ((((Op.cmpValue (FP.dcmp x1_5 FP.dconst0) .l) ≤ 0 → (K x1_5 z5)) ∧ (¬ ((Op.cmpValue (FP.dcmp x1_5 FP.dconst0) .l) ≤ 0) → (vf_n64 (FP.ddiv (FP.i2d a0) x1_5) ∧
vf_n64 (FP.dadd x1_5 (FP.ddiv (FP.i2d a0) x1_5)) ∧
vf_n64 (FP.ddiv (FP.dadd x1_5 (FP.ddiv (FP.i2d a0) x1_5)) 4611686018427387904) ∧
wp_X1_root_L5 n a0 K fu5 z5 (x3_5 + 1) (FP.ddiv (FP.dadd x1_5 (FP.ddiv (FP.i2d a0) x1_5)) 4611686018427387904)))))))
def wp_X1_root (n : Nat) (σ : ST) (a0 : Int32) (K : UInt64 → ST → Prop) : Prop := ∃ n5, wp_X1_root_L5 n a0 K n5 σ 0 (FP.i2d a0)
set_option maxHeartbeats 8000000 in
set_option maxRecDepth 100000 in
theorem c_X1_root (l : Launch) (dC : Nat → ClassId) (dI : Nat → Nat → Nat) (cA : Nat → ClassId) (ad : Nat → Nat → Nat) (n : Nat) (σ : ST) (a0 : Int32) (sz : Nat) (K : UInt64 → ST → Prop) (hwp : wp_X1_root n σ a0 K) : Met l yX1_root wsX1_root ({ frames := 0, cells := 0, slots := 0, locals := 0 } : Room) (va_Pc [.int a0] (preC dC dI cA (Wc cA ad n σ) sz)) (va_Qd K (atC dC dI cA (Wc cA ad n) (va_A (Wc cA ad n σ) sz)) (va_A (Wc cA ad n σ) sz)) 0 0 (va_A (Wc cA ad n σ) sz) := by
  refine Met.ofW (cc := cX1_root) (maxL := 4) (ret := (some .double)) (by decide) rfl ?_
  intro p e s m args below meth c s₁ B hml hv
  obtain ⟨rfl, hsz, hP, hK, hD0⟩ := hv
  have hx := B.exec
  have hb := B.bytes
  have hr := B.returns
  have hts := atoms_spec (ws := wsX1_root) B.pre
  have hown : s.vm.findClass RX1 = some m.cls := findClass_of_methodNamed B.named
  have hlocks := B.notSynchronized
  subst hsz
  have hD := hD0.self (sz := s.heap.size)
  clear hD0
  generalize hAe : va_A (Wc cA ad n σ) s.heap.size = A at hD ⊢
  have hA : ∀ q : Nat, s.heap.size ≤ q → A q := fun q h => by rw [← hAe]; exact Or.inr h
  have hS : va_S A s.heap s.heap [] := va_S.rf
  have hkc : 0 ≤ 0 := Nat.le_refl 0
  have hks : 0 ≤ 0 := Nat.le_refl 0
  have hl := lv_entry ([.int a0]) (n := 4) (Nat.le_of_ble_eq_true rfl)
  rw [lg_entry_eq]
  generalize (lg_sl ([.int a0]) ++ List.replicate (4 - (lg_sl ([.int a0])).length) Slot.unset).toArray = ls at hl ⊢
  have hl : lv_has ls 4 [(0, .int a0)] := hl
  unfold wp_X1_root at hwp
  generalize hHe : s.heap = H at hP ⊢
  have hS : va_S A s.heap H [] := by rw [← hHe]; exact va_S.rf
  clear hHe
  refine lv_iload_n hx hb dX1_root_0 rfl (lv_at hl 0 rfl) ?_
  refine lv_i2d hx hb dX1_root_1 ?_
  refine lv_dstore_n (lv' := [(1, .double (FP.i2d a0)), (0, .int a0)]) hx hb dX1_root_2 rfl hl (by decide) rfl (fun ls hl => ?_)
  refine lv_iconst (v := 0) hx hb dX1_root_3 (by decide) ?_
  refine lv_istore_n (lv' := [(3, .int 0), (1, .double (FP.i2d a0)), (0, .int a0)]) hx hb dX1_root_4 rfl hl (by decide) rfl (fun ls hl => ?_)
  obtain ⟨n5, hwp⟩ := hwp
  have L5 : ∀ (fu5 : Nat) (z5 : ST) (x3_5 : Int32) (x1_5 : UInt64), wp_X1_root_L5 n a0 K fu5 z5 x3_5 x1_5 → ∀ (H : Heap) (locs : List Loc) (ls : Array Slot), va_P (dC, dI) vwCl (Wc cA ad n z5) H → va_D A (Wc cA ad n z5) → va_S A s.heap H locs → lv_has ls 4 [(3, .int x3_5), (1, .double x1_5), (0, .int a0)] → W p l e ({ frames := 0, cells := 0, slots := 0, locals := 0 } : Room) s m (([.int a0] : List Value).toArray) below meth c H locs 0 0 (MQ below (va_Qd K (atC dC dI cA (Wc cA ad n) A) A) (([.int a0] : List Value).toArray) s 0 0 A) (F0 m 5 ls []) := by
    intro fu5
    induction fu5 with
    | zero => intro z5 x3_5 x1_5 h; exact h.elim
    | succ fu5 ih5 =>
      intro z5 x3_5 x1_5 hwp H locs ls hP hD hS hl
      refine lv_iload_n hx hb dX1_root_5 rfl (lv_at hl 0 rfl) ?_
      refine lv_bipush (v := 20) hx hb dX1_root_6 (by decide) ?_
      refine lv_icmp_ge (tgt := 34) hx hb dX1_root_8 (by decide) (fun c_8 => ?_) (fun c_8 => ?_)
      · replace hwp := hwp.1 c_8
        refine lv_dload_n hx hb dX1_root_34 rfl (lv_at hl 1 rfl) ?_
        exact W.dret (v := x1_5) hx hb hr (fun t ht hW => ⟨⟨x1_5, z5, rfl, hwp, by rw [ht]; exact hP, va_K.moved hW.alike hK, hD⟩, hS.F ht⟩) hS.2.2 dX1_root_35
      · replace hwp := hwp.2 c_8
        refine lv_dload_n hx hb dX1_root_11 rfl (lv_at hl 1 rfl) ?_
        refine lv_dconst0 hx hb dX1_root_12 ?_
        refine lv_dcmp hx hb dX1_root_13 ?_
        refine lv_if_le (tgt := 34) hx hb dX1_root_14 (by decide) (fun c_14 => ?_) (fun c_14 => ?_)
        · replace hwp := hwp.1 c_14
          refine lv_dload_n hx hb dX1_root_34 rfl (lv_at hl 1 rfl) ?_
          exact W.dret (v := x1_5) hx hb hr (fun t ht hW => ⟨⟨x1_5, z5, rfl, hwp, by rw [ht]; exact hP, va_K.moved hW.alike hK, hD⟩, hS.F ht⟩) hS.2.2 dX1_root_35
        · replace hwp := hwp.2 c_14
          refine lv_dload_n hx hb dX1_root_17 rfl (lv_at hl 1 rfl) ?_
          refine lv_iload_n hx hb dX1_root_18 rfl (lv_at hl 2 rfl) ?_
          refine lv_i2d hx hb dX1_root_19 ?_
          refine lv_dload_n hx hb dX1_root_20 rfl (lv_at hl 1 rfl) ?_
          refine lv_ddiv hx hb dX1_root_21 hwp.1 ?_
          replace hwp := hwp.2
          refine lv_dadd hx hb dX1_root_22 hwp.1 ?_
          replace hwp := hwp.2
          refine lv_ldc2d (v := 4611686018427387904) hx hb hown (hts (.constantDouble RX1 54 (4611686018427387904)) (by decide +kernel)) dX1_root_23 ?_
          refine lv_ddiv hx hb dX1_root_26 hwp.1 ?_
          replace hwp := hwp.2
          refine lv_dstore_n (lv' := [(1, .double (FP.ddiv (FP.dadd x1_5 (FP.ddiv (FP.i2d a0) x1_5)) 4611686018427387904)), (3, .int x3_5), (0, .int a0)]) hx hb dX1_root_27 rfl hl (by decide) rfl (fun ls hl => ?_)
          refine lv_iinc (v := (x3_5 + 1)) (lv' := [(3, .int (x3_5 + 1)), (1, .double (FP.ddiv (FP.dadd x1_5 (FP.ddiv (FP.i2d a0) x1_5)) 4611686018427387904)), (0, .int a0)]) hx hb dX1_root_28 hl (k := 1) rfl rfl (by decide) rfl (fun ls hl => ?_)
          refine lv_goto (tgt := 5) hx hb dX1_root_31 (by decide) ?_
          exact ih5 z5 (x3_5 + 1) (FP.ddiv (FP.dadd x1_5 (FP.ddiv (FP.i2d a0) x1_5)) 4611686018427387904) hwp _ _ _ hP hD hS (lv_sub hl [0, 1, 2] rfl)
  exact L5 n5 σ 0 (FP.i2d a0) hwp _ _ _ hP hD hS (lv_sub hl [0, 1, 2] rfl)
def wp_X1_hits (n : Nat) (σ : ST) (j : Nat) (a1 : Int32) (a2 : Int32) (a3 : Int32) (K : Int32 → ST → Prop) : Prop := j < 6 ∧
wp_X1_isLate n σ j a1 a2 a3 (fun r2 s1 =>
((¬ r2 = 0 → (((¬ (sI s1 20 j) = 0 → (((0 ≤ (Op.cmpValue (FP.dcmp (FP.i2d a2) (sD s1 21 j)) .g) → (∀ s4, s4 = upI s1 22 j ((sI s1 22 j) + 1) →
wp_X1_root n s4 (sI s4 22 j) (fun r6 s5 =>
vf_n64 (FP.ddiv (sD s4 17 j) r6) ∧
vf_n64 (FP.dadd (sD s4 21 j) (FP.ddiv (sD s4 17 j) r6)) ∧
∀ s7, s7 = upD s5 21 j (FP.dadd (sD s4 21 j) (FP.ddiv (sD s4 17 j) r6)) →
K 1 s7
))) ∧ (¬ (0 ≤ (Op.cmpValue (FP.dcmp (FP.i2d a2) (sD s1 21 j)) .g)) → (K 0 s1))))) ∧ ((sI s1 20 j) = 0 → (∀ s8, s8 = upI s1 20 j 1 →
wp_X1_countToBeginWith n s8 j a2 (fun r10 s9 =>
∀ s11, s11 = upI s9 22 j r10 →
∀ s12, s12 = upI s11 23 j (sI s11 22 j) →
wp_X1_root n s12 (sI s12 22 j) (fun r14 s13 =>
vf_n64 (FP.ddiv (sD s12 17 j) r14) ∧
vf_n64 (FP.dadd (FP.i2d a2) (FP.ddiv (sD s12 17 j) r14)) ∧
∀ s15, s15 = upD s13 21 j (FP.dadd (FP.i2d a2) (FP.ddiv (sD s12 17 j) r14)) →
K 1 s15
)
)))))) ∧ (r2 = 0 → (∀ s16, s16 = upI s1 20 j 0 →
K 0 s16)))
)
set_option maxRecDepth 20000 in
theorem iX1_hits_1 : ∀ w ∈ wsX10, w ∈ wsX1_hits := by decide +kernel
set_option maxHeartbeats 8000000 in
set_option maxRecDepth 100000 in
theorem c_X1_hits (l : Launch) (dC : Nat → ClassId) (dI : Nat → Nat → Nat) (cA : Nat → ClassId) (ad : Nat → Nat → Nat) (n : Nat) (σ : ST) (j : Nat) (a1 : Int32) (a2 : Int32) (a3 : Int32) (sz : Nat) (K : Int32 → ST → Prop) (hwp : wp_X1_hits n σ j a1 a2 a3 K) : Met l yX1_hits wsX1_hits ({ frames := 1, cells := 0, slots := 0, locals := 23 } : Room) (va_Pc [.ref (ad 1 j), .int a1, .int a2, .int a3] (preC dC dI cA (Wc cA ad n σ) sz)) (va_Qi K (atC dC dI cA (Wc cA ad n) (va_A (Wc cA ad n σ) sz)) (va_A (Wc cA ad n σ) sz)) 0 0 (va_A (Wc cA ad n σ) sz) := by
  refine Met.ofW (cc := cX1_hits) (maxL := 4) (ret := (some .boolean)) (by decide) rfl ?_
  intro p e s m args below meth c s₁ B hml hv
  obtain ⟨rfl, hsz, hP, hK, hD0⟩ := hv
  have hx := B.exec
  have hb := B.bytes
  have hr := B.returns
  have hts := atoms_spec (ws := wsX1_hits) B.pre
  have hown : s.vm.findClass RX1 = some m.cls := findClass_of_methodNamed B.named
  have hlocks := B.notSynchronized
  subst hsz
  have hD := hD0.self (sz := s.heap.size)
  clear hD0
  generalize hAe : va_A (Wc cA ad n σ) s.heap.size = A at hD ⊢
  have hA : ∀ q : Nat, s.heap.size ≤ q → A q := fun q h => by rw [← hAe]; exact Or.inr h
  have hS : va_S A s.heap s.heap [] := va_S.rf
  have hkc : 0 ≤ 0 := Nat.le_refl 0
  have hks : 0 ≤ 0 := Nat.le_refl 0
  have hl := lv_entry ([.ref (ad 1 j), .int a1, .int a2, .int a3]) (n := 4) (Nat.le_of_ble_eq_true rfl)
  rw [lg_entry_eq]
  generalize (lg_sl ([.ref (ad 1 j), .int a1, .int a2, .int a3]) ++ List.replicate (4 - (lg_sl ([.ref (ad 1 j), .int a1, .int a2, .int a3])).length) Slot.unset).toArray = ls at hl ⊢
  have hl : lv_has ls 4 [(0, .ref (ad 1 j)), (1, .int a1), (2, .int a2), (3, .int a3)] := hl
  unfold wp_X1_hits at hwp
  generalize hHe : s.heap = H at hP ⊢
  have hS : va_S A s.heap H [] := by rw [← hHe]; exact va_S.rf
  clear hHe
  refine lv_aload_n hx hb dX1_hits_0 rfl (lv_at hl 0 rfl) ?_
  refine lv_iload_n hx hb dX1_hits_1 rfl (lv_at hl 1 rfl) ?_
  refine lv_iload_n hx hb dX1_hits_2 rfl (lv_at hl 2 rfl) ?_
  refine lv_iload_n hx hb dX1_hits_3 rfl (lv_at hl 3 rfl) ?_
  obtain ⟨hb_3, hwp⟩ := hwp
  have hF := fA hD hS hA
  refine va_calli (va_runV (As := [.int a1, .int a2, .int a3]) (rest := []) ⟨hx, hb, hml, hown, hts⟩ (c_X1_isLate l dC dI cA ad n σ j a1 a2 a3 H.size _ hwp) (cwV 3 hts gX1_hits_X1_isLate rfl rfl rfl (by decide +kernel) ⟨Nat.le_of_ble_eq_true rfl, Nat.le_of_ble_eq_true rfl⟩) ⟨fbC, va_recv hK hP (ci := 1) (q0 := (25 + j)) rfl (atDelay hb_3), fun U hU hW => ⟨rfl, by rw [hU], by rw [hU]; exact hP, va_K.moved hW.alike hK, hD.weaken (fun _ _ _ _ => trivial)⟩⟩ rfl rfl hl.1 rfl (lv_room (Nat.le_of_ble_eq_true rfl)) dX1_hits_4 ⟨Nat.le_of_ble_eq_true rfl, Nat.le_of_ble_eq_true rfl⟩) hS (fun q _ h => hF q h) hF (fun r2 s1 t H1 locs ht hvm hwp hB hz1 hk1 hS => ?_)
  obtain ⟨hP1, hK1, hD1⟩ := hB
  rw [ht] at hP1
  have hD2 := hD1.weaken (fun _ q _ h => hF q.1 h)
  clear hP hD
  have hP := hP1
  have hD := hD2
  clear hP1 hD1 hD2 hK1 hk1 hz1 hF
  generalize H1 = H at hP hS ⊢
  refine lv_if_ne (tgt := 17) hx hb dX1_hits_7 (by decide) (fun c_7 => ?_) (fun c_7 => ?_)
  · replace hwp := hwp.1 c_7
    refine lv_aload_n hx hb dX1_hits_17 rfl (lv_at hl 0 rfl) ?_
    refine va_get (D := (dC, dI)) (ci := 1) (v := .int (sI s1 20 j)) (C := RX1) (T := TX1) (N := 8) hx hb hts iX1_hits_1 hown hK hP (25 + j) (atDelay hb_3) rfl 4 (by decide) (hts (.fieldLink RX1 27 "LinkQueues$Delay" "drops" "Z") (by decide +kernel)) (fun _ h9 => h9) rfl dX1_hits_18 ?_
    refine lv_if_ne (tgt := 67) hx hb dX1_hits_21 (by decide) (fun c_21 => ?_) (fun c_21 => ?_)
    · replace hwp := hwp.1 c_21
      refine lv_iload_n hx hb dX1_hits_67 rfl (lv_at hl 2 rfl) ?_
      refine lv_i2d hx hb dX1_hits_68 ?_
      refine lv_aload_n hx hb dX1_hits_69 rfl (lv_at hl 0 rfl) ?_
      refine va_get (D := (dC, dI)) (ci := 1) (v := .double (sD s1 21 j)) (C := RX1) (T := TX1) (N := 8) hx hb hts iX1_hits_1 hown hK hP (25 + j) (atDelay hb_3) rfl 5 (by decide) (hts (.fieldLink RX1 30 "LinkQueues$Delay" "next" "D") (by decide +kernel)) (fun _ h9 => h9) rfl dX1_hits_70 ?_
      refine lv_dcmp hx hb dX1_hits_73 ?_
      refine lv_if_ge (tgt := 79) hx hb dX1_hits_74 (by decide) (fun c_74 => ?_) (fun c_74 => ?_)
      · replace hwp := hwp.1 c_74
        refine lv_aload_n hx hb dX1_hits_79 rfl (lv_at hl 0 rfl) ?_
        refine lv_dup hx hb dX1_hits_80 rfl ?_
        refine va_get (D := (dC, dI)) (ci := 1) (v := .int (sI s1 22 j)) (C := RX1) (T := TX1) (N := 8) hx hb hts iX1_hits_1 hown hK hP (25 + j) (atDelay hb_3) rfl 6 (by decide) (hts (.fieldLink RX1 33 "LinkQueues$Delay" "count" "I") (by decide +kernel)) (fun _ h9 => h9) rfl dX1_hits_81 ?_
        refine lv_iconst (v := 1) hx hb dX1_hits_84 (by decide) ?_
        refine lv_iadd hx hb dX1_hits_85 ?_
        obtain ⟨s4, e_s4⟩ : ∃ z, z = upI s1 22 j ((sI s1 22 j) + 1) := ⟨_, rfl⟩
        refine st_put (D := (dC, dI)) (ci := 1) (v := .int ((sI s1 22 j) + 1)) (ty := .int) (C := RX1) (T := TX1) (N := 8) (ws' := Wc cA ad n s4) hx hb hts iX1_hits_1 tyX1 tyX1_ok nmX1 hown hK hP hD hS (25 + j) (atDelay hb_3) rfl 6 (by decide) (hts (.fieldLink RX1 33 "LinkQueues$Delay" "count" "I") (by decide +kernel)) (fun _ h9 => h9) rfl (by decide +kernel) rfl rfl (Nat.le_of_ble_eq_true rfl) dX1_hits_86 (by rw [e_s4]; exact stDelay_6 hb_3 ((sI s1 22 j) + 1)) (fun H locs hP hD hS => ?_)
        replace hwp := hwp s4 e_s4
        refine lv_aload_n hx hb dX1_hits_89 rfl (lv_at hl 0 rfl) ?_
        refine lv_aload_n hx hb dX1_hits_90 rfl (lv_at hl 0 rfl) ?_
        refine va_get (D := (dC, dI)) (ci := 1) (v := .double (sD s4 21 j)) (C := RX1) (T := TX1) (N := 8) hx hb hts iX1_hits_1 hown hK hP (25 + j) (atDelay hb_3) rfl 5 (by decide) (hts (.fieldLink RX1 30 "LinkQueues$Delay" "next" "D") (by decide +kernel)) (fun _ h9 => h9) rfl dX1_hits_91 ?_
        refine lv_aload_n hx hb dX1_hits_94 rfl (lv_at hl 0 rfl) ?_
        refine va_get (D := (dC, dI)) (ci := 1) (v := .double (sD s4 17 j)) (C := RX1) (T := TX1) (N := 8) hx hb hts iX1_hits_1 hown hK hP (25 + j) (atDelay hb_3) rfl 1 (by decide) (hts (.fieldLink RX1 17 "LinkQueues$Delay" "interval" "D") (by decide +kernel)) (fun _ h9 => h9) rfl dX1_hits_95 ?_
        refine lv_aload_n hx hb dX1_hits_98 rfl (lv_at hl 0 rfl) ?_
        refine va_get (D := (dC, dI)) (ci := 1) (v := .int (sI s4 22 j)) (C := RX1) (T := TX1) (N := 8) hx hb hts iX1_hits_1 hown hK hP (25 + j) (atDelay hb_3) rfl 6 (by decide) (hts (.fieldLink RX1 33 "LinkQueues$Delay" "count" "I") (by decide +kernel)) (fun _ h9 => h9) rfl dX1_hits_99 ?_
        have hF := fA hD hS hA
        refine va_calld (va_runS (As := [.int (sI s4 22 j)]) (rest := [.double (sD s4 17 j), .double (sD s4 21 j), .ref (ad 1 j)]) ⟨hx, hb, hml, hown, hts⟩ (c_X1_root l dC dI cA ad n s4 (sI s4 22 j) H.size _ hwp) (cwS 1 hts gX1_hits_X1_root rfl rfl rfl (by decide +kernel) ⟨Nat.le_of_ble_eq_true rfl, Nat.le_of_ble_eq_true rfl⟩) ⟨fbC, fun U hU hW => ⟨rfl, by rw [hU], by rw [hU]; exact hP, va_K.moved hW.alike hK, hD.weaken (fun _ _ _ _ => trivial)⟩⟩ rfl rfl hl.1 rfl (lv_room (Nat.le_of_ble_eq_true rfl)) dX1_hits_102 ⟨Nat.le_of_ble_eq_true rfl, Nat.le_of_ble_eq_true rfl⟩) hS (fun q _ h => hF q h) hF (fun r6 s5 t H1 locs ht hvm hwp hB hz1 hk1 hS => ?_)
        obtain ⟨hP1, hK1, hD1⟩ := hB
        rw [ht] at hP1
        have hD2 := hD1.weaken (fun _ q _ h => hF q.1 h)
        clear hP hD
        have hP := hP1
        have hD := hD2
        clear hP1 hD1 hD2 hK1 hk1 hz1 hF
        generalize H1 = H at hP hS ⊢
        refine lv_ddiv hx hb dX1_hits_105 hwp.1 ?_
        replace hwp := hwp.2
        refine lv_dadd hx hb dX1_hits_106 hwp.1 ?_
        replace hwp := hwp.2
        obtain ⟨s7, e_s7⟩ : ∃ z, z = upD s5 21 j (FP.dadd (sD s4 21 j) (FP.ddiv (sD s4 17 j) r6)) := ⟨_, rfl⟩
        refine st_put (D := (dC, dI)) (ci := 1) (v := .double (FP.dadd (sD s4 21 j) (FP.ddiv (sD s4 17 j) r6))) (ty := .double) (C := RX1) (T := TX1) (N := 8) (ws' := Wc cA ad n s7) hx hb hts iX1_hits_1 tyX1 tyX1_ok nmX1 hown hK hP hD hS (25 + j) (atDelay hb_3) rfl 5 (by decide) (hts (.fieldLink RX1 30 "LinkQueues$Delay" "next" "D") (by decide +kernel)) (fun _ h9 => h9) rfl (by decide +kernel) rfl rfl (Nat.le_of_ble_eq_true rfl) dX1_hits_107 (by rw [e_s7]; exact stDelay_5 hb_3 (FP.dadd (sD s4 21 j) (FP.ddiv (sD s4 17 j) r6))) (fun H locs hP hD hS => ?_)
        replace hwp := hwp s7 e_s7
        refine lv_iconst (v := 1) hx hb dX1_hits_110 (by decide) ?_
        exact W.zret (ty := .boolean) (v := 1) hx hb hr (isB_nar isB1) (fun t ht hW => ⟨⟨1, s7, rfl, hwp, by rw [ht]; exact hP, va_K.moved hW.alike hK, hD⟩, hS.F ht⟩) hS.2.2 dX1_hits_111
      · replace hwp := hwp.2 c_74
        refine lv_iconst (v := 0) hx hb dX1_hits_77 (by decide) ?_
        exact W.zret (ty := .boolean) (v := 0) hx hb hr (isB_nar isB0) (fun t ht hW => ⟨⟨0, s1, rfl, hwp, by rw [ht]; exact hP, va_K.moved hW.alike hK, hD⟩, hS.F ht⟩) hS.2.2 dX1_hits_78
    · replace hwp := hwp.2 c_21
      refine lv_aload_n hx hb dX1_hits_24 rfl (lv_at hl 0 rfl) ?_
      refine lv_iconst (v := 1) hx hb dX1_hits_25 (by decide) ?_
      obtain ⟨s8, e_s8⟩ : ∃ z, z = upI s1 20 j 1 := ⟨_, rfl⟩
      refine st_put (D := (dC, dI)) (ci := 1) (v := .int 1) (ty := .boolean) (C := RX1) (T := TX1) (N := 8) (ws' := Wc cA ad n s8) hx hb hts iX1_hits_1 tyX1 tyX1_ok nmX1 hown hK hP hD hS (25 + j) (atDelay hb_3) rfl 4 (by decide) (hts (.fieldLink RX1 27 "LinkQueues$Delay" "drops" "Z") (by decide +kernel)) (fun _ h9 => h9) rfl (by decide +kernel) rfl rfl (Nat.le_of_ble_eq_true rfl) dX1_hits_26 (by rw [e_s8]; exact stDelay_4 hb_3 1) (fun H locs hP hD hS => ?_)
      replace hwp := hwp s8 e_s8
      refine lv_aload_n hx hb dX1_hits_29 rfl (lv_at hl 0 rfl) ?_
      refine lv_aload_n hx hb dX1_hits_30 rfl (lv_at hl 0 rfl) ?_
      refine lv_iload_n hx hb dX1_hits_31 rfl (lv_at hl 2 rfl) ?_
      have hF := fA hD hS hA
      refine va_calli (va_runV (As := [.int a2]) (rest := [.ref (ad 1 j)]) ⟨hx, hb, hml, hown, hts⟩ (c_X1_countToBeginWith l dC dI cA ad n s8 j a2 H.size _ hwp) (cwV 1 hts gX1_hits_X1_countToBeginWith rfl rfl rfl (by decide +kernel) ⟨Nat.le_of_ble_eq_true rfl, Nat.le_of_ble_eq_true rfl⟩) ⟨fbC, va_recv hK hP (ci := 1) (q0 := (25 + j)) rfl (atDelay hb_3), fun U hU hW => ⟨rfl, by rw [hU], by rw [hU]; exact hP, va_K.moved hW.alike hK, hD.weaken (fun _ _ _ _ => trivial)⟩⟩ rfl rfl hl.1 rfl (lv_room (Nat.le_of_ble_eq_true rfl)) dX1_hits_32 ⟨Nat.le_of_ble_eq_true rfl, Nat.le_of_ble_eq_true rfl⟩) hS (fun q _ h => hF q h) hF (fun r10 s9 t H1 locs ht hvm hwp hB hz1 hk1 hS => ?_)
      obtain ⟨hP1, hK1, hD1⟩ := hB
      rw [ht] at hP1
      have hD2 := hD1.weaken (fun _ q _ h => hF q.1 h)
      clear hP hD
      have hP := hP1
      have hD := hD2
      clear hP1 hD1 hD2 hK1 hk1 hz1 hF
      generalize H1 = H at hP hS ⊢
      obtain ⟨s11, e_s11⟩ : ∃ z, z = upI s9 22 j r10 := ⟨_, rfl⟩
      refine st_put (D := (dC, dI)) (ci := 1) (v := .int r10) (ty := .int) (C := RX1) (T := TX1) (N := 8) (ws' := Wc cA ad n s11) hx hb hts iX1_hits_1 tyX1 tyX1_ok nmX1 hown hK hP hD hS (25 + j) (atDelay hb_3) rfl 6 (by decide) (hts (.fieldLink RX1 33 "LinkQueues$Delay" "count" "I") (by decide +kernel)) (fun _ h9 => h9) rfl (by decide +kernel) rfl rfl (Nat.le_of_ble_eq_true rfl) dX1_hits_35 (by rw [e_s11]; exact stDelay_6 hb_3 r10) (fun H locs hP hD hS => ?_)
      replace hwp := hwp s11 e_s11
      refine lv_aload_n hx hb dX1_hits_38 rfl (lv_at hl 0 rfl) ?_
      refine lv_aload_n hx hb dX1_hits_39 rfl (lv_at hl 0 rfl) ?_
      refine va_get (D := (dC, dI)) (ci := 1) (v := .int (sI s11 22 j)) (C := RX1) (T := TX1) (N := 8) hx hb hts iX1_hits_1 hown hK hP (25 + j) (atDelay hb_3) rfl 6 (by decide) (hts (.fieldLink RX1 33 "LinkQueues$Delay" "count" "I") (by decide +kernel)) (fun _ h9 => h9) rfl dX1_hits_40 ?_
      obtain ⟨s12, e_s12⟩ : ∃ z, z = upI s11 23 j (sI s11 22 j) := ⟨_, rfl⟩
      refine st_put (D := (dC, dI)) (ci := 1) (v := .int (sI s11 22 j)) (ty := .int) (C := RX1) (T := TX1) (N := 8) (ws' := Wc cA ad n s12) hx hb hts iX1_hits_1 tyX1 tyX1_ok nmX1 hown hK hP hD hS (25 + j) (atDelay hb_3) rfl 7 (by decide) (hts (.fieldLink RX1 37 "LinkQueues$Delay" "last" "I") (by decide +kernel)) (fun _ h9 => h9) rfl (by decide +kernel) rfl rfl (Nat.le_of_ble_eq_true rfl) dX1_hits_43 (by rw [e_s12]; exact stDelay_7 hb_3 (sI s11 22 j)) (fun H locs hP hD hS => ?_)
      replace hwp := hwp s12 e_s12
      refine lv_aload_n hx hb dX1_hits_46 rfl (lv_at hl 0 rfl) ?_
      refine lv_iload_n hx hb dX1_hits_47 rfl (lv_at hl 2 rfl) ?_
      refine lv_i2d hx hb dX1_hits_48 ?_
      refine lv_aload_n hx hb dX1_hits_49 rfl (lv_at hl 0 rfl) ?_
      refine va_get (D := (dC, dI)) (ci := 1) (v := .double (sD s12 17 j)) (C := RX1) (T := TX1) (N := 8) hx hb hts iX1_hits_1 hown hK hP (25 + j) (atDelay hb_3) rfl 1 (by decide) (hts (.fieldLink RX1 17 "LinkQueues$Delay" "interval" "D") (by decide +kernel)) (fun _ h9 => h9) rfl dX1_hits_50 ?_
      refine lv_aload_n hx hb dX1_hits_53 rfl (lv_at hl 0 rfl) ?_
      refine va_get (D := (dC, dI)) (ci := 1) (v := .int (sI s12 22 j)) (C := RX1) (T := TX1) (N := 8) hx hb hts iX1_hits_1 hown hK hP (25 + j) (atDelay hb_3) rfl 6 (by decide) (hts (.fieldLink RX1 33 "LinkQueues$Delay" "count" "I") (by decide +kernel)) (fun _ h9 => h9) rfl dX1_hits_54 ?_
      have hF := fA hD hS hA
      refine va_calld (va_runS (As := [.int (sI s12 22 j)]) (rest := [.double (sD s12 17 j), .double (FP.i2d a2), .ref (ad 1 j)]) ⟨hx, hb, hml, hown, hts⟩ (c_X1_root l dC dI cA ad n s12 (sI s12 22 j) H.size _ hwp) (cwS 1 hts gX1_hits_X1_root rfl rfl rfl (by decide +kernel) ⟨Nat.le_of_ble_eq_true rfl, Nat.le_of_ble_eq_true rfl⟩) ⟨fbC, fun U hU hW => ⟨rfl, by rw [hU], by rw [hU]; exact hP, va_K.moved hW.alike hK, hD.weaken (fun _ _ _ _ => trivial)⟩⟩ rfl rfl hl.1 rfl (lv_room (Nat.le_of_ble_eq_true rfl)) dX1_hits_57 ⟨Nat.le_of_ble_eq_true rfl, Nat.le_of_ble_eq_true rfl⟩) hS (fun q _ h => hF q h) hF (fun r14 s13 t H1 locs ht hvm hwp hB hz1 hk1 hS => ?_)
      obtain ⟨hP1, hK1, hD1⟩ := hB
      rw [ht] at hP1
      have hD2 := hD1.weaken (fun _ q _ h => hF q.1 h)
      clear hP hD
      have hP := hP1
      have hD := hD2
      clear hP1 hD1 hD2 hK1 hk1 hz1 hF
      generalize H1 = H at hP hS ⊢
      refine lv_ddiv hx hb dX1_hits_60 hwp.1 ?_
      replace hwp := hwp.2
      refine lv_dadd hx hb dX1_hits_61 hwp.1 ?_
      replace hwp := hwp.2
      obtain ⟨s15, e_s15⟩ : ∃ z, z = upD s13 21 j (FP.dadd (FP.i2d a2) (FP.ddiv (sD s12 17 j) r14)) := ⟨_, rfl⟩
      refine st_put (D := (dC, dI)) (ci := 1) (v := .double (FP.dadd (FP.i2d a2) (FP.ddiv (sD s12 17 j) r14))) (ty := .double) (C := RX1) (T := TX1) (N := 8) (ws' := Wc cA ad n s15) hx hb hts iX1_hits_1 tyX1 tyX1_ok nmX1 hown hK hP hD hS (25 + j) (atDelay hb_3) rfl 5 (by decide) (hts (.fieldLink RX1 30 "LinkQueues$Delay" "next" "D") (by decide +kernel)) (fun _ h9 => h9) rfl (by decide +kernel) rfl rfl (Nat.le_of_ble_eq_true rfl) dX1_hits_62 (by rw [e_s15]; exact stDelay_5 hb_3 (FP.dadd (FP.i2d a2) (FP.ddiv (sD s12 17 j) r14))) (fun H locs hP hD hS => ?_)
      replace hwp := hwp s15 e_s15
      refine lv_iconst (v := 1) hx hb dX1_hits_65 (by decide) ?_
      exact W.zret (ty := .boolean) (v := 1) hx hb hr (isB_nar isB1) (fun t ht hW => ⟨⟨1, s15, rfl, hwp, by rw [ht]; exact hP, va_K.moved hW.alike hK, hD⟩, hS.F ht⟩) hS.2.2 dX1_hits_66
  · replace hwp := hwp.2 c_7
    refine lv_aload_n hx hb dX1_hits_10 rfl (lv_at hl 0 rfl) ?_
    refine lv_iconst (v := 0) hx hb dX1_hits_11 (by decide) ?_
    obtain ⟨s16, e_s16⟩ : ∃ z, z = upI s1 20 j 0 := ⟨_, rfl⟩
    refine st_put (D := (dC, dI)) (ci := 1) (v := .int 0) (ty := .boolean) (C := RX1) (T := TX1) (N := 8) (ws' := Wc cA ad n s16) hx hb hts iX1_hits_1 tyX1 tyX1_ok nmX1 hown hK hP hD hS (25 + j) (atDelay hb_3) rfl 4 (by decide) (hts (.fieldLink RX1 27 "LinkQueues$Delay" "drops" "Z") (by decide +kernel)) (fun _ h9 => h9) rfl (by decide +kernel) rfl rfl (Nat.le_of_ble_eq_true rfl) dX1_hits_12 (by rw [e_s16]; exact stDelay_4 hb_3 0) (fun H locs hP hD hS => ?_)
    replace hwp := hwp s16 e_s16
    refine lv_iconst (v := 0) hx hb dX1_hits_15 (by decide) ?_
    exact W.zret (ty := .boolean) (v := 0) hx hb hr (isB_nar isB0) (fun t ht hW => ⟨⟨0, s16, rfl, hwp, by rw [ht]; exact hP, va_K.moved hW.alike hK, hD⟩, hS.F ht⟩) hS.2.2 dX1_hits_16
