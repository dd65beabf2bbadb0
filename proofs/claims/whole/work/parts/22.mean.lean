def wp_X3_tell (n : Nat) (σ : ST) (j : Nat) (a1 : UInt64) (a3 : UInt64) (a5 : UInt64) (a7 : UInt64) (K : ST → Prop) : Prop := j < 6 ∧
∀ s2, s2 = upD σ 48 j a1 →
∀ s3, s3 = upD s2 49 j a3 →
∀ s4, s4 = upD s3 50 j a5 →
∀ s5, s5 = upD s4 51 j a7 →
K s5
set_option maxRecDepth 20000 in
theorem iX3_tell_3 : ∀ w ∈ wsX30, w ∈ wsX3_tell := by decide +kernel
set_option maxHeartbeats 8000000 in
set_option maxRecDepth 100000 in
theorem c_X3_tell (l : Launch) (dC : Nat → ClassId) (dI : Nat → Nat → Nat) (cA : Nat → ClassId) (ad : Nat → Nat → Nat) (n : Nat) (σ : ST) (j : Nat) (a1 : UInt64) (a3 : UInt64) (a5 : UInt64) (a7 : UInt64) (sz : Nat) (K : ST → Prop) (hwp : wp_X3_tell n σ j a1 a3 a5 a7 K) : Met l yX3_tell wsX3_tell ({ frames := 0, cells := 0, slots := 0, locals := 0 } : Room) (va_Pc [.ref (ad 3 j), .double a1, .double a3, .double a5, .double a7] (preC dC dI cA (Wc cA ad n σ) sz)) (va_Qv K (atC dC dI cA (Wc cA ad n) (va_A (Wc cA ad n σ) sz)) (va_A (Wc cA ad n σ) sz)) 0 0 (va_A (Wc cA ad n σ) sz) := by
  refine Met.ofW (cc := cX3_tell) (maxL := 9) (ret := none) (by decide) rfl ?_
  intro p e s m args below meth c s₁ B hml hv
  obtain ⟨rfl, hsz, hP, hK, hD0⟩ := hv
  have hx := B.exec
  have hb := B.bytes
  have hr := B.returns
  have hts := atoms_spec (ws := wsX3_tell) B.pre
  have hown : s.vm.findClass RX3 = some m.cls := findClass_of_methodNamed B.named
  have hlocks := B.notSynchronized
  subst hsz
  have hD := hD0.self (sz := s.heap.size)
  clear hD0
  generalize hAe : va_A (Wc cA ad n σ) s.heap.size = A at hD ⊢
  have hA : ∀ q : Nat, s.heap.size ≤ q → A q := fun q h => by rw [← hAe]; exact Or.inr h
  have hS : va_S A s.heap s.heap [] := va_S.rf
  have hkc : 0 ≤ 0 := Nat.le_refl 0
  have hks : 0 ≤ 0 := Nat.le_refl 0
  have hl := lv_entry ([.ref (ad 3 j), .double a1, .double a3, .double a5, .double a7]) (n := 9) (Nat.le_of_ble_eq_true rfl)
  rw [lg_entry_eq]
  generalize (lg_sl ([.ref (ad 3 j), .double a1, .double a3, .double a5, .double a7]) ++ List.replicate (9 - (lg_sl ([.ref (ad 3 j), .double a1, .double a3, .double a5, .double a7])).length) Slot.unset).toArray = ls at hl ⊢
  have hl : lv_has ls 9 [(0, .ref (ad 3 j)), (1, .double a1), (3, .double a3), (5, .double a5), (7, .double a7)] := hl
  unfold wp_X3_tell at hwp
  generalize hHe : s.heap = H at hP ⊢
  have hS : va_S A s.heap H [] := by rw [← hHe]; exact va_S.rf
  clear hHe
  refine lv_aload_n hx hb dX3_tell_0 rfl (lv_at hl 0 rfl) ?_
  refine lv_dload_n hx hb dX3_tell_1 rfl (lv_at hl 1 rfl) ?_
  obtain ⟨hb_1, hwp⟩ := hwp
  obtain ⟨s2, e_s2⟩ : ∃ z, z = upD σ 48 j a1 := ⟨_, rfl⟩
  refine st_put (D := (dC, dI)) (ci := 3) (v := .double a1) (ty := .double) (C := RX3) (T := TX3) (N := 7) (ws' := Wc cA ad n s2) hx hb hts iX3_tell_3 tyX3 tyX3_ok nmX3 hown hK hP hD hS (19 + j) (atMean hb_1) rfl 0 (by decide) (hts (.fieldLink RX3 9 "LinkQueues$Mean" "low" "D") (by decide +kernel)) (fun _ h9 => h9) rfl (by decide +kernel) rfl rfl (Nat.le_of_ble_eq_true rfl) dX3_tell_2 (by rw [e_s2]; exact stMean_0 hb_1 a1) (fun H locs hP hD hS => ?_)
  replace hwp := hwp s2 e_s2
  refine lv_aload_n hx hb dX3_tell_5 rfl (lv_at hl 0 rfl) ?_
  refine lv_dload_n hx hb dX3_tell_6 rfl (lv_at hl 2 rfl) ?_
  obtain ⟨s3, e_s3⟩ : ∃ z, z = upD s2 49 j a3 := ⟨_, rfl⟩
  refine st_put (D := (dC, dI)) (ci := 3) (v := .double a3) (ty := .double) (C := RX3) (T := TX3) (N := 7) (ws' := Wc cA ad n s3) hx hb hts iX3_tell_3 tyX3 tyX3_ok nmX3 hown hK hP hD hS (19 + j) (atMean hb_1) rfl 1 (by decide) (hts (.fieldLink RX3 17 "LinkQueues$Mean" "high" "D") (by decide +kernel)) (fun _ h9 => h9) rfl (by decide +kernel) rfl rfl (Nat.le_of_ble_eq_true rfl) dX3_tell_7 (by rw [e_s3]; exact stMean_1 hb_1 a3) (fun H locs hP hD hS => ?_)
  replace hwp := hwp s3 e_s3
  refine lv_aload_n hx hb dX3_tell_10 rfl (lv_at hl 0 rfl) ?_
  refine lv_dload hx hb dX3_tell_11 (lv_at hl 3 rfl) ?_
  obtain ⟨s4, e_s4⟩ : ∃ z, z = upD s3 50 j a5 := ⟨_, rfl⟩
  refine st_put (D := (dC, dI)) (ci := 3) (v := .double a5) (ty := .double) (C := RX3) (T := TX3) (N := 7) (ws' := Wc cA ad n s4) hx hb hts iX3_tell_3 tyX3 tyX3_ok nmX3 hown hK hP hD hS (19 + j) (atMean hb_1) rfl 2 (by decide) (hts (.fieldLink RX3 22 "LinkQueues$Mean" "top" "D") (by decide +kernel)) (fun _ h9 => h9) rfl (by decide +kernel) rfl rfl (Nat.le_of_ble_eq_true rfl) dX3_tell_13 (by rw [e_s4]; exact stMean_2 hb_1 a5) (fun H locs hP hD hS => ?_)
  replace hwp := hwp s4 e_s4
  refine lv_aload_n hx hb dX3_tell_16 rfl (lv_at hl 0 rfl) ?_
  refine lv_dload hx hb dX3_tell_17 (lv_at hl 4 rfl) ?_
  obtain ⟨s5, e_s5⟩ : ∃ z, z = upD s4 51 j a7 := ⟨_, rfl⟩
  refine st_put (D := (dC, dI)) (ci := 3) (v := .double a7) (ty := .double) (C := RX3) (T := TX3) (N := 7) (ws' := Wc cA ad n s5) hx hb hts iX3_tell_3 tyX3 tyX3_ok nmX3 hown hK hP hD hS (19 + j) (atMean hb_1) rfl 3 (by decide) (hts (.fieldLink RX3 27 "LinkQueues$Mean" "weight" "D") (by decide +kernel)) (fun _ h9 => h9) rfl (by decide +kernel) rfl rfl (Nat.le_of_ble_eq_true rfl) dX3_tell_19 (by rw [e_s5]; exact stMean_3 hb_1 a7) (fun H locs hP hD hS => ?_)
  replace hwp := hwp s5 e_s5
  exact W.vret hx hb hr (fun t ht hW => ⟨⟨s5, rfl, hwp, by rw [ht]; exact hP, va_K.moved hW.alike hK, hD⟩, hS.F ht⟩) hS.2.2 dX3_tell_22
def wp_X3_restart (n : Nat) (σ : ST) (j : Nat) (a1 : Int32) (K : ST → Prop) : Prop := j < 6 ∧
∀ s2, s2 = upD σ 52 j FP.dconst0 →
∀ s3, s3 = upI s2 53 j (-1) →
∀ s4, s4 = upI s3 54 j a1 →
K s4
set_option maxRecDepth 20000 in
theorem iX3_restart_3 : ∀ w ∈ wsX30, w ∈ wsX3_restart := by decide +kernel
set_option maxHeartbeats 8000000 in
set_option maxRecDepth 100000 in
theorem c_X3_restart (l : Launch) (dC : Nat → ClassId) (dI : Nat → Nat → Nat) (cA : Nat → ClassId) (ad : Nat → Nat → Nat) (n : Nat) (σ : ST) (j : Nat) (a1 : Int32) (sz : Nat) (K : ST → Prop) (hwp : wp_X3_restart n σ j a1 K) : Met l yX3_restart wsX3_restart ({ frames := 0, cells := 0, slots := 0, locals := 0 } : Room) (va_Pc [.ref (ad 3 j), .int a1] (preC dC dI cA (Wc cA ad n σ) sz)) (va_Qv K (atC dC dI cA (Wc cA ad n) (va_A (Wc cA ad n σ) sz)) (va_A (Wc cA ad n σ) sz)) 0 0 (va_A (Wc cA ad n σ) sz) := by
  refine Met.ofW (cc := cX3_restart) (maxL := 2) (ret := none) (by decide) rfl ?_
  intro p e s m args below meth c s₁ B hml hv
  obtain ⟨rfl, hsz, hP, hK, hD0⟩ := hv
  have hx := B.exec
  have hb := B.bytes
  have hr := B.returns
  have hts := atoms_spec (ws := wsX3_restart) B.pre
  have hown : s.vm.findClass RX3 = some m.cls := findClass_of_methodNamed B.named
  have hlocks := B.notSynchronized
  subst hsz
  have hD := hD0.self (sz := s.heap.size)
  clear hD0
  generalize hAe : va_A (Wc cA ad n σ) s.heap.size = A at hD ⊢
  have hA : ∀ q : Nat, s.heap.size ≤ q → A q := fun q h => by rw [← hAe]; exact Or.inr h
  have hS : va_S A s.heap s.heap [] := va_S.rf
  have hkc : 0 ≤ 0 := Nat.le_refl 0
  have hks : 0 ≤ 0 := Nat.le_refl 0
  have hl := lv_entry ([.ref (ad 3 j), .int a1]) (n := 2) (Nat.le_of_ble_eq_true rfl)
  rw [lg_entry_eq]
  generalize (lg_sl ([.ref (ad 3 j), .int a1]) ++ List.replicate (2 - (lg_sl ([.ref (ad 3 j), .int a1])).length) Slot.unset).toArray = ls at hl ⊢
  have hl : lv_has ls 2 [(0, .ref (ad 3 j)), (1, .int a1)] := hl
  unfold wp_X3_restart at hwp
  generalize hHe : s.heap = H at hP ⊢
  have hS : va_S A s.heap H [] := by rw [← hHe]; exact va_S.rf
  clear hHe
  refine lv_aload_n hx hb dX3_restart_0 rfl (lv_at hl 0 rfl) ?_
  refine lv_dconst0 hx hb dX3_restart_1 ?_
  obtain ⟨hb_1, hwp⟩ := hwp
  obtain ⟨s2, e_s2⟩ : ∃ z, z = upD σ 52 j FP.dconst0 := ⟨_, rfl⟩
  refine st_put (D := (dC, dI)) (ci := 3) (v := .double FP.dconst0) (ty := .double) (C := RX3) (T := TX3) (N := 7) (ws' := Wc cA ad n s2) hx hb hts iX3_restart_3 tyX3 tyX3_ok nmX3 hown hK hP hD hS (19 + j) (atMean hb_1) rfl 4 (by decide) (hts (.fieldLink RX3 30 "LinkQueues$Mean" "average" "D") (by decide +kernel)) (fun _ h9 => h9) rfl (by decide +kernel) rfl rfl (Nat.le_of_ble_eq_true rfl) dX3_restart_2 (by rw [e_s2]; exact stMean_4 hb_1 FP.dconst0) (fun H locs hP hD hS => ?_)
  replace hwp := hwp s2 e_s2
  refine lv_aload_n hx hb dX3_restart_5 rfl (lv_at hl 0 rfl) ?_
  refine lv_iconst (v := (-1)) hx hb dX3_restart_6 (by decide) ?_
  obtain ⟨s3, e_s3⟩ : ∃ z, z = upI s2 53 j (-1) := ⟨_, rfl⟩
  refine st_put (D := (dC, dI)) (ci := 3) (v := .int (-1)) (ty := .int) (C := RX3) (T := TX3) (N := 7) (ws' := Wc cA ad n s3) hx hb hts iX3_restart_3 tyX3 tyX3_ok nmX3 hown hK hP hD hS (19 + j) (atMean hb_1) rfl 5 (by decide) (hts (.fieldLink RX3 33 "LinkQueues$Mean" "count" "I") (by decide +kernel)) (fun _ h9 => h9) rfl (by decide +kernel) rfl rfl (Nat.le_of_ble_eq_true rfl) dX3_restart_7 (by rw [e_s3]; exact stMean_5 hb_1 (-1)) (fun H locs hP hD hS => ?_)
  replace hwp := hwp s3 e_s3
  refine lv_aload_n hx hb dX3_restart_10 rfl (lv_at hl 0 rfl) ?_
  refine lv_iload_n hx hb dX3_restart_11 rfl (lv_at hl 1 rfl) ?_
  obtain ⟨s4, e_s4⟩ : ∃ z, z = upI s3 54 j a1 := ⟨_, rfl⟩
  refine st_put (D := (dC, dI)) (ci := 3) (v := .int a1) (ty := .int) (C := RX3) (T := TX3) (N := 7) (ws' := Wc cA ad n s4) hx hb hts iX3_restart_3 tyX3 tyX3_ok nmX3 hown hK hP hD hS (19 + j) (atMean hb_1) rfl 6 (by decide) (hts (.fieldLink RX3 37 "LinkQueues$Mean" "emptySince" "I") (by decide +kernel)) (fun _ h9 => h9) rfl (by decide +kernel) rfl rfl (Nat.le_of_ble_eq_true rfl) dX3_restart_12 (by rw [e_s4]; exact stMean_6 hb_1 a1) (fun H locs hP hD hS => ?_)
  replace hwp := hwp s4 e_s4
  exact W.vret hx hb hr (fun t ht hW => ⟨⟨s4, rfl, hwp, by rw [ht]; exact hP, va_K.moved hW.alike hK, hD⟩, hS.F ht⟩) hS.2.2 dX3_restart_15
def wp_X3_reckon_L41 (n : Nat) (j : Nat) (a1 : Int32) (a2 : Int32) (σ : ST) (K : ST → Prop) : Nat → ST → Int32 → Prop
  | 0 => fun _ _ => False
  | fu41 + 1 => fun z41 x4_41 => (((if 100 < (a2 - (sI σ 54 j)) then 100 else (a2 - (sI σ 54 j))) ≤ x4_41 → (j < 6 ∧
∀ s3, s3 = upI z41 54 j a2 →
K s3)) ∧ (¬ ((if 100 < (a2 - (sI σ 54 j)) then 100 else (a2 - (sI σ 54 j))) ≤ x4_41) → (j < 6 ∧
vf_n64 (FP.dsub FP.dconst1 (sD z41 51 j)) ∧
vf_n64 (FP.dmul (sD z41 52 j) (FP.dsub FP.dconst1 (sD z41 51 j))) ∧
∀ s5, s5 = upD z41 52 j (FP.dmul (sD z41 52 j) (FP.dsub FP.dconst1 (sD z41 51 j))) →
wp_X3_reckon_L41 n j a1 a2 σ K fu41 s5 (x4_41 + 1))))
def wp_X3_reckon (n : Nat) (σ : ST) (j : Nat) (a1 : Int32) (a2 : Int32) (K : ST → Prop) : Prop := ((a1 ≤ 0 → (j < 6 ∧
∃ n41, wp_X3_reckon_L41 n j a1 a2 σ K n41 σ 0)) ∧ (¬ (a1 ≤ 0) → (j < 6 ∧
vf_n64 (FP.dsub (FP.i2d a1) (sD σ 52 j)) ∧
vf_n64 (FP.dmul (sD σ 51 j) (FP.dsub (FP.i2d a1) (sD σ 52 j))) ∧
vf_n64 (FP.dadd (sD σ 52 j) (FP.dmul (sD σ 51 j) (FP.dsub (FP.i2d a1) (sD σ 52 j)))) ∧
∀ s7, s7 = upD σ 52 j (FP.dadd (sD σ 52 j) (FP.dmul (sD σ 51 j) (FP.dsub (FP.i2d a1) (sD σ 52 j)))) →
K s7)))
set_option maxRecDepth 20000 in
theorem iX3_reckon_3 : ∀ w ∈ wsX30, w ∈ wsX3_reckon := by decide +kernel
set_option maxHeartbeats 8000000 in
set_option maxRecDepth 100000 in
theorem c_X3_reckon (l : Launch) (dC : Nat → ClassId) (dI : Nat → Nat → Nat) (cA : Nat → ClassId) (ad : Nat → Nat → Nat) (n : Nat) (σ : ST) (j : Nat) (a1 : Int32) (a2 : Int32) (sz : Nat) (K : ST → Prop) (hwp : wp_X3_reckon n σ j a1 a2 K) : Met l yX3_reckon wsX3_reckon ({ frames := 1, cells := 0, slots := 0, locals := 26 } : Room) (va_Pc [.ref (ad 3 j), .int a1, .int a2] (preC dC dI cA (Wc cA ad n σ) sz)) (va_Qv K (atC dC dI cA (Wc cA ad n) (va_A (Wc cA ad n σ) sz)) (va_A (Wc cA ad n σ) sz)) 0 0 (va_A (Wc cA ad n σ) sz) := by
  refine Met.ofW (cc := cX3_reckon) (maxL := 5) (ret := none) (by decide) rfl ?_
  intro p e s m args below meth c s₁ B hml hv
  obtain ⟨rfl, hsz, hP, hK, hD0⟩ := hv
  have hx := B.exec
  have hb := B.bytes
  have hr := B.returns
  have hts := atoms_spec (ws := wsX3_reckon) B.pre
  have hown : s.vm.findClass RX3 = some m.cls := findClass_of_methodNamed B.named
  have hlocks := B.notSynchronized
  subst hsz
  have hD := hD0.self (sz := s.heap.size)
  clear hD0
  generalize hAe : va_A (Wc cA ad n σ) s.heap.size = A at hD ⊢
  have hA : ∀ q : Nat, s.heap.size ≤ q → A q := fun q h => by rw [← hAe]; exact Or.inr h
  have hS : va_S A s.heap s.heap [] := va_S.rf
  have hkc : 0 ≤ 0 := Nat.le_refl 0
  have hks : 0 ≤ 0 := Nat.le_refl 0
  have hl := lv_entry ([.ref (ad 3 j), .int a1, .int a2]) (n := 5) (Nat.le_of_ble_eq_true rfl)
  rw [lg_entry_eq]
  generalize (lg_sl ([.ref (ad 3 j), .int a1, .int a2]) ++ List.replicate (5 - (lg_sl ([.ref (ad 3 j), .int a1, .int a2])).length) Slot.unset).toArray = ls at hl ⊢
  have hl : lv_has ls 5 [(0, .ref (ad 3 j)), (1, .int a1), (2, .int a2)] := hl
  unfold wp_X3_reckon at hwp
  generalize hHe : s.heap = H at hP ⊢
  have hS : va_S A s.heap H [] := by rw [← hHe]; exact va_S.rf
  clear hHe
  refine lv_iload_n hx hb dX3_reckon_0 rfl (lv_at hl 1 rfl) ?_
  refine lv_if_le (tgt := 26) hx hb dX3_reckon_1 (by decide) (fun c_1 => ?_) (fun c_1 => ?_)
  · replace hwp := hwp.1 c_1
    refine lv_iload_n hx hb dX3_reckon_26 rfl (lv_at hl 2 rfl) ?_
    refine lv_aload_n hx hb dX3_reckon_27 rfl (lv_at hl 0 rfl) ?_
    obtain ⟨hb_1, hwp⟩ := hwp
    refine va_get (D := (dC, dI)) (ci := 3) (v := .int (sI σ 54 j)) (C := RX3) (T := TX3) (N := 7) hx hb hts iX3_reckon_3 hown hK hP (19 + j) (atMean hb_1) rfl 6 (by decide) (hts (.fieldLink RX3 37 "LinkQueues$Mean" "emptySince" "I") (by decide +kernel)) (fun _ h9 => h9) rfl dX3_reckon_28 ?_
    refine lv_isub hx hb dX3_reckon_31 ?_
    refine lv_bipush (v := 100) hx hb dX3_reckon_32 (by decide) ?_
    refine va_mmin hx hb (hml.trans hl.1.symm) hown (hts (.methodLink RX3 40 Lib.Math.min.name) (by decide +kernel)) (hts (.static Lib.Math.min.name) (by decide +kernel)) (hts (.initialized "java/lang/Math") (by decide +kernel)) (hts (.code Lib.Math.min.name Lib.Math.min.code 2 (some .int)) (by decide +kernel)) (Nat.le_of_ble_eq_true rfl) (Nat.le_of_ble_eq_true rfl) (Nat.zero_le _) (Nat.zero_le _) dX3_reckon_34 ?_
    refine lv_istore_n (lv' := [(3, .int (if 100 < (a2 - (sI σ 54 j)) then 100 else (a2 - (sI σ 54 j)))), (0, .ref (ad 3 j)), (1, .int a1), (2, .int a2)]) hx hb dX3_reckon_37 rfl hl (by decide) rfl (fun ls hl => ?_)
    refine lv_iconst (v := 0) hx hb dX3_reckon_38 (by decide) ?_
    refine lv_istore (lv' := [(4, .int 0), (3, .int (if 100 < (a2 - (sI σ 54 j)) then 100 else (a2 - (sI σ 54 j)))), (0, .ref (ad 3 j)), (1, .int a1), (2, .int a2)]) hx hb dX3_reckon_39 hl (by decide) rfl (fun ls hl => ?_)
    obtain ⟨n41, hwp⟩ := hwp
    have L41 : ∀ (fu41 : Nat) (z41 : ST) (x4_41 : Int32), wp_X3_reckon_L41 n j a1 a2 σ K fu41 z41 x4_41 → ∀ (H : Heap) (locs : List Loc) (ls : Array Slot), va_P (dC, dI) vwCl (Wc cA ad n z41) H → va_D A (Wc cA ad n z41) → va_S A s.heap H locs → lv_has ls 5 [(4, .int x4_41), (3, .int (if 100 < (a2 - (sI σ 54 j)) then 100 else (a2 - (sI σ 54 j)))), (0, .ref (ad 3 j)), (2, .int a2)] → W p l e ({ frames := 1, cells := 0, slots := 0, locals := 26 } : Room) s m (([.ref (ad 3 j), .int a1, .int a2] : List Value).toArray) below meth c H locs 0 0 (MQ below (va_Qv K (atC dC dI cA (Wc cA ad n) A) A) (([.ref (ad 3 j), .int a1, .int a2] : List Value).toArray) s 0 0 A) (F0 m 41 ls []) := by
      intro fu41
      induction fu41 with
      | zero => intro z41 x4_41 h; exact h.elim
      | succ fu41 ih41 =>
        intro z41 x4_41 hwp H locs ls hP hD hS hl
        refine lv_iload hx hb dX3_reckon_41 (lv_at hl 0 rfl) ?_
        refine lv_iload_n hx hb dX3_reckon_43 rfl (lv_at hl 1 rfl) ?_
        refine lv_icmp_ge (tgt := 68) hx hb dX3_reckon_44 (by decide) (fun c_44 => ?_) (fun c_44 => ?_)
        · replace hwp := hwp.1 c_44
          refine lv_aload_n hx hb dX3_reckon_68 rfl (lv_at hl 2 rfl) ?_
          refine lv_iload_n hx hb dX3_reckon_69 rfl (lv_at hl 3 rfl) ?_
          obtain ⟨hb_2, hwp⟩ := hwp
          obtain ⟨s3, e_s3⟩ : ∃ z, z = upI z41 54 j a2 := ⟨_, rfl⟩
          refine st_put (D := (dC, dI)) (ci := 3) (v := .int a2) (ty := .int) (C := RX3) (T := TX3) (N := 7) (ws' := Wc cA ad n s3) hx hb hts iX3_reckon_3 tyX3 tyX3_ok nmX3 hown hK hP hD hS (19 + j) (atMean hb_2) rfl 6 (by decide) (hts (.fieldLink RX3 37 "LinkQueues$Mean" "emptySince" "I") (by decide +kernel)) (fun _ h9 => h9) rfl (by decide +kernel) rfl rfl (Nat.le_of_ble_eq_true rfl) dX3_reckon_70 (by rw [e_s3]; exact stMean_6 hb_2 a2) (fun H locs hP hD hS => ?_)
          replace hwp := hwp s3 e_s3
          exact W.vret hx hb hr (fun t ht hW => ⟨⟨s3, rfl, hwp, by rw [ht]; exact hP, va_K.moved hW.alike hK, hD⟩, hS.F ht⟩) hS.2.2 dX3_reckon_73
        · replace hwp := hwp.2 c_44
          refine lv_aload_n hx hb dX3_reckon_47 rfl (lv_at hl 2 rfl) ?_
          refine lv_aload_n hx hb dX3_reckon_48 rfl (lv_at hl 2 rfl) ?_
          obtain ⟨hb_4, hwp⟩ := hwp
          refine va_get (D := (dC, dI)) (ci := 3) (v := .double (sD z41 52 j)) (C := RX3) (T := TX3) (N := 7) hx hb hts iX3_reckon_3 hown hK hP (19 + j) (atMean hb_4) rfl 4 (by decide) (hts (.fieldLink RX3 30 "LinkQueues$Mean" "average" "D") (by decide +kernel)) (fun _ h9 => h9) rfl dX3_reckon_49 ?_
          refine lv_dconst1 hx hb dX3_reckon_52 ?_
          refine lv_aload_n hx hb dX3_reckon_53 rfl (lv_at hl 2 rfl) ?_
          refine va_get (D := (dC, dI)) (ci := 3) (v := .double (sD z41 51 j)) (C := RX3) (T := TX3) (N := 7) hx hb hts iX3_reckon_3 hown hK hP (19 + j) (atMean hb_4) rfl 3 (by decide) (hts (.fieldLink RX3 27 "LinkQueues$Mean" "weight" "D") (by decide +kernel)) (fun _ h9 => h9) rfl dX3_reckon_54 ?_
          refine lv_dsub hx hb dX3_reckon_57 hwp.1 ?_
          replace hwp := hwp.2
          refine lv_dmul hx hb dX3_reckon_58 hwp.1 ?_
          replace hwp := hwp.2
          obtain ⟨s5, e_s5⟩ : ∃ z, z = upD z41 52 j (FP.dmul (sD z41 52 j) (FP.dsub FP.dconst1 (sD z41 51 j))) := ⟨_, rfl⟩
          refine st_put (D := (dC, dI)) (ci := 3) (v := .double (FP.dmul (sD z41 52 j) (FP.dsub FP.dconst1 (sD z41 51 j)))) (ty := .double) (C := RX3) (T := TX3) (N := 7) (ws' := Wc cA ad n s5) hx hb hts iX3_reckon_3 tyX3 tyX3_ok nmX3 hown hK hP hD hS (19 + j) (atMean hb_4) rfl 4 (by decide) (hts (.fieldLink RX3 30 "LinkQueues$Mean" "average" "D") (by decide +kernel)) (fun _ h9 => h9) rfl (by decide +kernel) rfl rfl (Nat.le_of_ble_eq_true rfl) dX3_reckon_59 (by rw [e_s5]; exact stMean_4 hb_4 (FP.dmul (sD z41 52 j) (FP.dsub FP.dconst1 (sD z41 51 j)))) (fun H locs hP hD hS => ?_)
          replace hwp := hwp s5 e_s5
          refine lv_iinc (v := (x4_41 + 1)) (lv' := [(4, .int (x4_41 + 1)), (3, .int (if 100 < (a2 - (sI σ 54 j)) then 100 else (a2 - (sI σ 54 j)))), (0, .ref (ad 3 j)), (2, .int a2)]) hx hb dX3_reckon_62 hl (k := 0) rfl rfl (by decide) rfl (fun ls hl => ?_)
          refine lv_goto (tgt := 41) hx hb dX3_reckon_65 (by decide) ?_
          exact ih41 s5 (x4_41 + 1) hwp _ _ _ hP hD hS (lv_sub hl [0, 1, 2, 3] rfl)
    exact L41 n41 σ 0 hwp _ _ _ hP hD hS (lv_sub hl [0, 1, 2, 4] rfl)
  · replace hwp := hwp.2 c_1
    refine lv_aload_n hx hb dX3_reckon_4 rfl (lv_at hl 0 rfl) ?_
    refine lv_aload_n hx hb dX3_reckon_5 rfl (lv_at hl 0 rfl) ?_
    obtain ⟨hb_6, hwp⟩ := hwp
    refine va_get (D := (dC, dI)) (ci := 3) (v := .double (sD σ 52 j)) (C := RX3) (T := TX3) (N := 7) hx hb hts iX3_reckon_3 hown hK hP (19 + j) (atMean hb_6) rfl 4 (by decide) (hts (.fieldLink RX3 30 "LinkQueues$Mean" "average" "D") (by decide +kernel)) (fun _ h9 => h9) rfl dX3_reckon_6 ?_
    refine lv_aload_n hx hb dX3_reckon_9 rfl (lv_at hl 0 rfl) ?_
    refine va_get (D := (dC, dI)) (ci := 3) (v := .double (sD σ 51 j)) (C := RX3) (T := TX3) (N := 7) hx hb hts iX3_reckon_3 hown hK hP (19 + j) (atMean hb_6) rfl 3 (by decide) (hts (.fieldLink RX3 27 "LinkQueues$Mean" "weight" "D") (by decide +kernel)) (fun _ h9 => h9) rfl dX3_reckon_10 ?_
    refine lv_iload_n hx hb dX3_reckon_13 rfl (lv_at hl 1 rfl) ?_
    refine lv_i2d hx hb dX3_reckon_14 ?_
    refine lv_aload_n hx hb dX3_reckon_15 rfl (lv_at hl 0 rfl) ?_
    refine va_get (D := (dC, dI)) (ci := 3) (v := .double (sD σ 52 j)) (C := RX3) (T := TX3) (N := 7) hx hb hts iX3_reckon_3 hown hK hP (19 + j) (atMean hb_6) rfl 4 (by decide) (hts (.fieldLink RX3 30 "LinkQueues$Mean" "average" "D") (by decide +kernel)) (fun _ h9 => h9) rfl dX3_reckon_16 ?_
    refine lv_dsub hx hb dX3_reckon_19 hwp.1 ?_
    replace hwp := hwp.2
    refine lv_dmul hx hb dX3_reckon_20 hwp.1 ?_
    replace hwp := hwp.2
    refine lv_dadd hx hb dX3_reckon_21 hwp.1 ?_
    replace hwp := hwp.2
    obtain ⟨s7, e_s7⟩ : ∃ z, z = upD σ 52 j (FP.dadd (sD σ 52 j) (FP.dmul (sD σ 51 j) (FP.dsub (FP.i2d a1) (sD σ 52 j)))) := ⟨_, rfl⟩
    refine st_put (D := (dC, dI)) (ci := 3) (v := .double (FP.dadd (sD σ 52 j) (FP.dmul (sD σ 51 j) (FP.dsub (FP.i2d a1) (sD σ 52 j))))) (ty := .double) (C := RX3) (T := TX3) (N := 7) (ws' := Wc cA ad n s7) hx hb hts iX3_reckon_3 tyX3 tyX3_ok nmX3 hown hK hP hD hS (19 + j) (atMean hb_6) rfl 4 (by decide) (hts (.fieldLink RX3 30 "LinkQueues$Mean" "average" "D") (by decide +kernel)) (fun _ h9 => h9) rfl (by decide +kernel) rfl rfl (Nat.le_of_ble_eq_true rfl) dX3_reckon_22 (by rw [e_s7]; exact stMean_4 hb_6 (FP.dadd (sD σ 52 j) (FP.dmul (sD σ 51 j) (FP.dsub (FP.i2d a1) (sD σ 52 j))))) (fun H locs hP hD hS => ?_)
    replace hwp := hwp s7 e_s7
    exact W.vret hx hb hr (fun t ht hW => ⟨⟨s7, rfl, hwp, by rw [ht]; exact hP, va_K.moved hW.alike hK, hD⟩, hS.F ht⟩) hS.2.2 dX3_reckon_25
def wp_X3_refuses (n : Nat) (σ : ST) (j : Nat) (K : Int32 → ST → Prop) : Prop := j < 6 ∧
((0 ≤ (Op.cmpValue (FP.dcmp (sD σ 52 j) (sD σ 49 j)) .g) → (∀ s2, s2 = upI σ 53 j 0 →
K 1 s2)) ∧ (¬ (0 ≤ (Op.cmpValue (FP.dcmp (sD σ 52 j) (sD σ 49 j)) .g)) → (K 0 σ)))
set_option maxRecDepth 20000 in
theorem iX3_refuses_3 : ∀ w ∈ wsX30, w ∈ wsX3_refuses := by decide +kernel
set_option maxHeartbeats 8000000 in
set_option maxRecDepth 100000 in
theorem c_X3_refuses (l : Launch) (dC : Nat → ClassId) (dI : Nat → Nat → Nat) (cA : Nat → ClassId) (ad : Nat → Nat → Nat) (n : Nat) (σ : ST) (j : Nat) (sz : Nat) (K : Int32 → ST → Prop) (hwp : wp_X3_refuses n σ j K) : Met l yX3_refuses wsX3_refuses ({ frames := 0, cells := 0, slots := 0, locals := 0 } : Room) (va_Pc [.ref (ad 3 j)] (preC dC dI cA (Wc cA ad n σ) sz)) (va_Qi K (atC dC dI cA (Wc cA ad n) (va_A (Wc cA ad n σ) sz)) (va_A (Wc cA ad n σ) sz)) 0 0 (va_A (Wc cA ad n σ) sz) := by
  refine Met.ofW (cc := cX3_refuses) (maxL := 1) (ret := (some .boolean)) (by decide) rfl ?_
  intro p e s m args below meth c s₁ B hml hv
  obtain ⟨rfl, hsz, hP, hK, hD0⟩ := hv
  have hx := B.exec
  have hb := B.bytes
  have hr := B.returns
  have hts := atoms_spec (ws := wsX3_refuses) B.pre
  have hown : s.vm.findClass RX3 = some m.cls := findClass_of_methodNamed B.named
  have hlocks := B.notSynchronized
  subst hsz
  have hD := hD0.self (sz := s.heap.size)
  clear hD0
  generalize hAe : va_A (Wc cA ad n σ) s.heap.size = A at hD ⊢
  have hA : ∀ q : Nat, s.heap.size ≤ q → A q := fun q h => by rw [← hAe]; exact Or.inr h
  have hS : va_S A s.heap s.heap [] := va_S.rf
  have hkc : 0 ≤ 0 := Nat.le_refl 0
  have hks : 0 ≤ 0 := Nat.le_refl 0
  have hl := lv_entry ([.ref (ad 3 j)]) (n := 1) (Nat.le_of_ble_eq_true rfl)
  rw [lg_entry_eq]
  generalize (lg_sl ([.ref (ad 3 j)]) ++ List.replicate (1 - (lg_sl ([.ref (ad 3 j)])).length) Slot.unset).toArray = ls at hl ⊢
  have hl : lv_has ls 1 [(0, .ref (ad 3 j))] := hl
  unfold wp_X3_refuses at hwp
  generalize hHe : s.heap = H at hP ⊢
  have hS : va_S A s.heap H [] := by rw [← hHe]; exact va_S.rf
  clear hHe
  refine lv_aload_n hx hb dX3_refuses_0 rfl (lv_at hl 0 rfl) ?_
  obtain ⟨hb_1, hwp⟩ := hwp
  refine va_get (D := (dC, dI)) (ci := 3) (v := .double (sD σ 52 j)) (C := RX3) (T := TX3) (N := 7) hx hb hts iX3_refuses_3 hown hK hP (19 + j) (atMean hb_1) rfl 4 (by decide) (hts (.fieldLink RX3 30 "LinkQueues$Mean" "average" "D") (by decide +kernel)) (fun _ h9 => h9) rfl dX3_refuses_1 ?_
  refine lv_aload_n hx hb dX3_refuses_4 rfl (lv_at hl 0 rfl) ?_
  refine va_get (D := (dC, dI)) (ci := 3) (v := .double (sD σ 49 j)) (C := RX3) (T := TX3) (N := 7) hx hb hts iX3_refuses_3 hown hK hP (19 + j) (atMean hb_1) rfl 1 (by decide) (hts (.fieldLink RX3 17 "LinkQueues$Mean" "high" "D") (by decide +kernel)) (fun _ h9 => h9) rfl dX3_refuses_5 ?_
  refine lv_dcmp hx hb dX3_refuses_8 ?_
  refine lv_if_ge (tgt := 14) hx hb dX3_refuses_9 (by decide) (fun c_9 => ?_) (fun c_9 => ?_)
  · replace hwp := hwp.1 c_9
    refine lv_aload_n hx hb dX3_refuses_14 rfl (lv_at hl 0 rfl) ?_
    refine lv_iconst (v := 0) hx hb dX3_refuses_15 (by decide) ?_
    obtain ⟨s2, e_s2⟩ : ∃ z, z = upI σ 53 j 0 := ⟨_, rfl⟩
    refine st_put (D := (dC, dI)) (ci := 3) (v := .int 0) (ty := .int) (C := RX3) (T := TX3) (N := 7) (ws' := Wc cA ad n s2) hx hb hts iX3_refuses_3 tyX3 tyX3_ok nmX3 hown hK hP hD hS (19 + j) (atMean hb_1) rfl 5 (by decide) (hts (.fieldLink RX3 33 "LinkQueues$Mean" "count" "I") (by decide +kernel)) (fun _ h9 => h9) rfl (by decide +kernel) rfl rfl (Nat.le_of_ble_eq_true rfl) dX3_refuses_16 (by rw [e_s2]; exact stMean_5 hb_1 0) (fun H locs hP hD hS => ?_)
    replace hwp := hwp s2 e_s2
    refine lv_iconst (v := 1) hx hb dX3_refuses_19 (by decide) ?_
    exact W.zret (ty := .boolean) (v := 1) hx hb hr (isB_nar isB1) (fun t ht hW => ⟨⟨1, s2, rfl, hwp, by rw [ht]; exact hP, va_K.moved hW.alike hK, hD⟩, hS.F ht⟩) hS.2.2 dX3_refuses_20
  · replace hwp := hwp.2 c_9
    refine lv_iconst (v := 0) hx hb dX3_refuses_12 (by decide) ?_
    exact W.zret (ty := .boolean) (v := 0) hx hb hr (isB_nar isB0) (fun t ht hW => ⟨⟨0, σ, rfl, hwp, by rw [ht]; exact hP, va_K.moved hW.alike hK, hD⟩, hS.F ht⟩) hS.2.2 dX3_refuses_13
def wp_X3_hits (n : Nat) (σ : ST) (j : Nat) (K : Int32 → ST → Prop) : Prop := j < 6 ∧
((0 ≤ (Op.cmpValue (FP.dcmp (sD σ 52 j) (sD σ 48 j)) .g) → (∀ s2, s2 = upI σ 53 j ((sI σ 53 j) + 1) →
vf_n64 (FP.dsub (sD s2 52 j) (sD s2 48 j)) ∧
vf_n64 (FP.dmul (sD s2 50 j) (FP.dsub (sD s2 52 j) (sD s2 48 j))) ∧
vf_n64 (FP.dsub (sD s2 49 j) (sD s2 48 j)) ∧
vf_n64 (FP.ddiv (FP.dmul (sD s2 50 j) (FP.dsub (sD s2 52 j) (sD s2 48 j))) (FP.dsub (sD s2 49 j) (sD s2 48 j))) ∧
vf_n64 (FP.dmul (FP.i2d (sI s2 53 j)) (FP.ddiv (FP.dmul (sD s2 50 j) (FP.dsub (sD s2 52 j) (sD s2 48 j))) (FP.dsub (sD s2 49 j) (sD s2 48 j)))) ∧
vf_n64 (FP.dsub FP.dconst1 (FP.dmul (FP.i2d (sI s2 53 j)) (FP.ddiv (FP.dmul (sD s2 50 j) (FP.dsub (sD s2 52 j) (sD s2 48 j))) (FP.dsub (sD s2 49 j) (sD s2 48 j))))) ∧
(((Op.cmpValue (FP.dcmp (FP.dsub FP.dconst1 (FP.dmul (FP.i2d (sI s2 53 j)) (FP.ddiv (FP.dmul (sD s2 50 j) (FP.dsub (sD s2 52 j) (sD s2 48 j))) (FP.dsub (sD s2 49 j) (sD s2 48 j))))) FP.dconst0) .g) ≤ 0 → (((((1 : Int32) = 0 : Prop) → (K 1 s2)) ∧ (¬ (((1 : Int32) = 0 : Prop)) → (∀ s3, s3 = upI s2 53 j 0 →
K 1 s3))))) ∧ (¬ ((Op.cmpValue (FP.dcmp (FP.dsub FP.dconst1 (FP.dmul (FP.i2d (sI s2 53 j)) (FP.ddiv (FP.dmul (sD s2 50 j) (FP.dsub (sD s2 52 j) (sD s2 48 j))) (FP.dsub (sD s2 49 j) (sD s2 48 j))))) FP.dconst0) .g) ≤ 0) → (wp_X0_use n s2 (fun r5 s4 =>
vf_n64 (FP.ddiv (FP.ddiv (FP.dmul (sD s2 50 j) (FP.dsub (sD s2 52 j) (sD s2 48 j))) (FP.dsub (sD s2 49 j) (sD s2 48 j))) (FP.dsub FP.dconst1 (FP.dmul (FP.i2d (sI s2 53 j)) (FP.ddiv (FP.dmul (sD s2 50 j) (FP.dsub (sD s2 52 j) (sD s2 48 j))) (FP.dsub (sD s2 49 j) (sD s2 48 j)))))) ∧
((0 ≤ (Op.cmpValue (FP.dcmp r5 (FP.ddiv (FP.ddiv (FP.dmul (sD s2 50 j) (FP.dsub (sD s2 52 j) (sD s2 48 j))) (FP.dsub (sD s2 49 j) (sD s2 48 j))) (FP.dsub FP.dconst1 (FP.dmul (FP.i2d (sI s2 53 j)) (FP.ddiv (FP.dmul (sD s2 50 j) (FP.dsub (sD s2 52 j) (sD s2 48 j))) (FP.dsub (sD s2 49 j) (sD s2 48 j))))))) .g) → (((((0 : Int32) = 0 : Prop) → (K 0 s4)) ∧ (¬ (((0 : Int32) = 0 : Prop)) → (∀ s6, s6 = upI s4 53 j 0 →
K 0 s6))))) ∧ (¬ (0 ≤ (Op.cmpValue (FP.dcmp r5 (FP.ddiv (FP.ddiv (FP.dmul (sD s2 50 j) (FP.dsub (sD s2 52 j) (sD s2 48 j))) (FP.dsub (sD s2 49 j) (sD s2 48 j))) (FP.dsub FP.dconst1 (FP.dmul (FP.i2d (sI s2 53 j)) (FP.ddiv (FP.dmul (sD s2 50 j) (FP.dsub (sD s2 52 j) (sD s2 48 j))) (FP.dsub (sD s2 49 j) (sD s2 48 j))))))) .g)) → (((((1 : Int32) = 0 : Prop) → (K 1 s4)) ∧ (¬ (((1 : Int32) = 0 : Prop)) → (∀ s7, s7 = upI s4 53 j 0 →
K 1 s7))))))
)))))) ∧ (¬ (0 ≤ (Op.cmpValue (FP.dcmp (sD σ 52 j) (sD σ 48 j)) .g)) → (∀ s8, s8 = upI σ 53 j (-1) →
K 0 s8)))
set_option maxRecDepth 20000 in
theorem iX3_hits_3 : ∀ w ∈ wsX30, w ∈ wsX3_hits := by decide +kernel
set_option maxHeartbeats 8000000 in
set_option maxRecDepth 100000 in
theorem c_X3_hits (l : Launch) (dC : Nat → ClassId) (dI : Nat → Nat → Nat) (cA : Nat → ClassId) (ad : Nat → Nat → Nat) (n : Nat) (σ : ST) (j : Nat) (sz : Nat) (K : Int32 → ST → Prop) (hwp : wp_X3_hits n σ j K) : Met l yX3_hits wsX3_hits ({ frames := 2, cells := 0, slots := 0, locals := 42 } : Room) (va_Pc [.ref (ad 3 j), .ref (ad 0 0)] (preC dC dI cA (Wc cA ad n σ) sz)) (va_Qi K (atC dC dI cA (Wc cA ad n) (va_A (Wc cA ad n σ) sz)) (va_A (Wc cA ad n σ) sz)) 0 0 (va_A (Wc cA ad n σ) sz) := by
  refine Met.ofW (cc := cX3_hits) (maxL := 7) (ret := (some .boolean)) (by decide) rfl ?_
  intro p e s m args below meth c s₁ B hml hv
  obtain ⟨rfl, hsz, hP, hK, hD0⟩ := hv
  have hx := B.exec
  have hb := B.bytes
  have hr := B.returns
  have hts := atoms_spec (ws := wsX3_hits) B.pre
  have hown : s.vm.findClass RX3 = some m.cls := findClass_of_methodNamed B.named
  have hlocks := B.notSynchronized
  subst hsz
  have hD := hD0.self (sz := s.heap.size)
  clear hD0
  generalize hAe : va_A (Wc cA ad n σ) s.heap.size = A at hD ⊢
  have hA : ∀ q : Nat, s.heap.size ≤ q → A q := fun q h => by rw [← hAe]; exact Or.inr h
  have hS : va_S A s.heap s.heap [] := va_S.rf
  have hkc : 0 ≤ 0 := Nat.le_refl 0
  have hks : 0 ≤ 0 := Nat.le_refl 0
  have hl := lv_entry ([.ref (ad 3 j), .ref (ad 0 0)]) (n := 7) (Nat.le_of_ble_eq_true rfl)
  rw [lg_entry_eq]
  generalize (lg_sl ([.ref (ad 3 j), .ref (ad 0 0)]) ++ List.replicate (7 - (lg_sl ([.ref (ad 3 j), .ref (ad 0 0)])).length) Slot.unset).toArray = ls at hl ⊢
  have hl : lv_has ls 7 [(0, .ref (ad 3 j)), (1, .ref (ad 0 0))] := hl
  unfold wp_X3_hits at hwp
  generalize hHe : s.heap = H at hP ⊢
  have hS : va_S A s.heap H [] := by rw [← hHe]; exact va_S.rf
  clear hHe
  refine lv_aload_n hx hb dX3_hits_0 rfl (lv_at hl 0 rfl) ?_
  obtain ⟨hb_1, hwp⟩ := hwp
  refine va_get (D := (dC, dI)) (ci := 3) (v := .double (sD σ 52 j)) (C := RX3) (T := TX3) (N := 7) hx hb hts iX3_hits_3 hown hK hP (19 + j) (atMean hb_1) rfl 4 (by decide) (hts (.fieldLink RX3 30 "LinkQueues$Mean" "average" "D") (by decide +kernel)) (fun _ h9 => h9) rfl dX3_hits_1 ?_
  refine lv_aload_n hx hb dX3_hits_4 rfl (lv_at hl 0 rfl) ?_
  refine va_get (D := (dC, dI)) (ci := 3) (v := .double (sD σ 48 j)) (C := RX3) (T := TX3) (N := 7) hx hb hts iX3_hits_3 hown hK hP (19 + j) (atMean hb_1) rfl 0 (by decide) (hts (.fieldLink RX3 9 "LinkQueues$Mean" "low" "D") (by decide +kernel)) (fun _ h9 => h9) rfl dX3_hits_5 ?_
  refine lv_dcmp hx hb dX3_hits_8 ?_
  refine lv_if_ge (tgt := 19) hx hb dX3_hits_9 (by decide) (fun c_9 => ?_) (fun c_9 => ?_)
  · replace hwp := hwp.1 c_9
    refine lv_aload_n hx hb dX3_hits_19 rfl (lv_at hl 0 rfl) ?_
    refine lv_dup hx hb dX3_hits_20 rfl ?_
    refine va_get (D := (dC, dI)) (ci := 3) (v := .int (sI σ 53 j)) (C := RX3) (T := TX3) (N := 7) hx hb hts iX3_hits_3 hown hK hP (19 + j) (atMean hb_1) rfl 5 (by decide) (hts (.fieldLink RX3 33 "LinkQueues$Mean" "count" "I") (by decide +kernel)) (fun _ h9 => h9) rfl dX3_hits_21 ?_
    refine lv_iconst (v := 1) hx hb dX3_hits_24 (by decide) ?_
    refine lv_iadd hx hb dX3_hits_25 ?_
    obtain ⟨s2, e_s2⟩ : ∃ z, z = upI σ 53 j ((sI σ 53 j) + 1) := ⟨_, rfl⟩
    refine st_put (D := (dC, dI)) (ci := 3) (v := .int ((sI σ 53 j) + 1)) (ty := .int) (C := RX3) (T := TX3) (N := 7) (ws' := Wc cA ad n s2) hx hb hts iX3_hits_3 tyX3 tyX3_ok nmX3 hown hK hP hD hS (19 + j) (atMean hb_1) rfl 5 (by decide) (hts (.fieldLink RX3 33 "LinkQueues$Mean" "count" "I") (by decide +kernel)) (fun _ h9 => h9) rfl (by decide +kernel) rfl rfl (Nat.le_of_ble_eq_true rfl) dX3_hits_26 (by rw [e_s2]; exact stMean_5 hb_1 ((sI σ 53 j) + 1)) (fun H locs hP hD hS => ?_)
    replace hwp := hwp s2 e_s2
    refine lv_aload_n hx hb dX3_hits_29 rfl (lv_at hl 0 rfl) ?_
    refine va_get (D := (dC, dI)) (ci := 3) (v := .double (sD s2 50 j)) (C := RX3) (T := TX3) (N := 7) hx hb hts iX3_hits_3 hown hK hP (19 + j) (atMean hb_1) rfl 2 (by decide) (hts (.fieldLink RX3 22 "LinkQueues$Mean" "top" "D") (by decide +kernel)) (fun _ h9 => h9) rfl dX3_hits_30 ?_
    refine lv_aload_n hx hb dX3_hits_33 rfl (lv_at hl 0 rfl) ?_
    refine va_get (D := (dC, dI)) (ci := 3) (v := .double (sD s2 52 j)) (C := RX3) (T := TX3) (N := 7) hx hb hts iX3_hits_3 hown hK hP (19 + j) (atMean hb_1) rfl 4 (by decide) (hts (.fieldLink RX3 30 "LinkQueues$Mean" "average" "D") (by decide +kernel)) (fun _ h9 => h9) rfl dX3_hits_34 ?_
    refine lv_aload_n hx hb dX3_hits_37 rfl (lv_at hl 0 rfl) ?_
    refine va_get (D := (dC, dI)) (ci := 3) (v := .double (sD s2 48 j)) (C := RX3) (T := TX3) (N := 7) hx hb hts iX3_hits_3 hown hK hP (19 + j) (atMean hb_1) rfl 0 (by decide) (hts (.fieldLink RX3 9 "LinkQueues$Mean" "low" "D") (by decide +kernel)) (fun _ h9 => h9) rfl dX3_hits_38 ?_
    refine lv_dsub hx hb dX3_hits_41 hwp.1 ?_
    replace hwp := hwp.2
    refine lv_dmul hx hb dX3_hits_42 hwp.1 ?_
    replace hwp := hwp.2
    refine lv_aload_n hx hb dX3_hits_43 rfl (lv_at hl 0 rfl) ?_
    refine va_get (D := (dC, dI)) (ci := 3) (v := .double (sD s2 49 j)) (C := RX3) (T := TX3) (N := 7) hx hb hts iX3_hits_3 hown hK hP (19 + j) (atMean hb_1) rfl 1 (by decide) (hts (.fieldLink RX3 17 "LinkQueues$Mean" "high" "D") (by decide +kernel)) (fun _ h9 => h9) rfl dX3_hits_44 ?_
    refine lv_aload_n hx hb dX3_hits_47 rfl (lv_at hl 0 rfl) ?_
    refine va_get (D := (dC, dI)) (ci := 3) (v := .double (sD s2 48 j)) (C := RX3) (T := TX3) (N := 7) hx hb hts iX3_hits_3 hown hK hP (19 + j) (atMean hb_1) rfl 0 (by decide) (hts (.fieldLink RX3 9 "LinkQueues$Mean" "low" "D") (by decide +kernel)) (fun _ h9 => h9) rfl dX3_hits_48 ?_
    refine lv_dsub hx hb dX3_hits_51 hwp.1 ?_
    replace hwp := hwp.2
    refine lv_ddiv hx hb dX3_hits_52 hwp.1 ?_
    replace hwp := hwp.2
    refine lv_dstore_n (lv' := [(2, .double (FP.ddiv (FP.dmul (sD s2 50 j) (FP.dsub (sD s2 52 j) (sD s2 48 j))) (FP.dsub (sD s2 49 j) (sD s2 48 j)))), (0, .ref (ad 3 j)), (1, .ref (ad 0 0))]) hx hb dX3_hits_53 rfl hl (by decide) rfl (fun ls hl => ?_)
    refine lv_dconst1 hx hb dX3_hits_54 ?_
    refine lv_aload_n hx hb dX3_hits_55 rfl (lv_at hl 1 rfl) ?_
    refine va_get (D := (dC, dI)) (ci := 3) (v := .int (sI s2 53 j)) (C := RX3) (T := TX3) (N := 7) hx hb hts iX3_hits_3 hown hK hP (19 + j) (atMean hb_1) rfl 5 (by decide) (hts (.fieldLink RX3 33 "LinkQueues$Mean" "count" "I") (by decide +kernel)) (fun _ h9 => h9) rfl dX3_hits_56 ?_
    refine lv_i2d hx hb dX3_hits_59 ?_
    refine lv_dload_n hx hb dX3_hits_60 rfl (lv_at hl 0 rfl) ?_
    refine lv_dmul hx hb dX3_hits_61 hwp.1 ?_
    replace hwp := hwp.2
    refine lv_dsub hx hb dX3_hits_62 hwp.1 ?_
    replace hwp := hwp.2
    refine lv_dstore (lv' := [(4, .double (FP.dsub FP.dconst1 (FP.dmul (FP.i2d (sI s2 53 j)) (FP.ddiv (FP.dmul (sD s2 50 j) (FP.dsub (sD s2 52 j) (sD s2 48 j))) (FP.dsub (sD s2 49 j) (sD s2 48 j)))))), (2, .double (FP.ddiv (FP.dmul (sD s2 50 j) (FP.dsub (sD s2 52 j) (sD s2 48 j))) (FP.dsub (sD s2 49 j) (sD s2 48 j)))), (0, .ref (ad 3 j)), (1, .ref (ad 0 0))]) hx hb dX3_hits_63 hl (by decide) rfl (fun ls hl => ?_)
    refine lv_dload hx hb dX3_hits_65 (lv_at hl 0 rfl) ?_
    refine lv_dconst0 hx hb dX3_hits_67 ?_
    refine lv_dcmp hx hb dX3_hits_68 ?_
    refine lv_if_le (tgt := 84) hx hb dX3_hits_69 (by decide) (fun c_69 => ?_) (fun c_69 => ?_)
    · replace hwp := hwp.1 c_69
      refine lv_iconst (v := 1) hx hb dX3_hits_84 (by decide) ?_
      refine lv_goto (tgt := 89) hx hb dX3_hits_85 (by decide) ?_
      refine lv_istore (lv' := [(6, .int 1), (4, .double (FP.dsub FP.dconst1 (FP.dmul (FP.i2d (sI s2 53 j)) (FP.ddiv (FP.dmul (sD s2 50 j) (FP.dsub (sD s2 52 j) (sD s2 48 j))) (FP.dsub (sD s2 49 j) (sD s2 48 j)))))), (2, .double (FP.ddiv (FP.dmul (sD s2 50 j) (FP.dsub (sD s2 52 j) (sD s2 48 j))) (FP.dsub (sD s2 49 j) (sD s2 48 j)))), (0, .ref (ad 3 j)), (1, .ref (ad 0 0))]) hx hb dX3_hits_89 hl (by decide) rfl (fun ls hl => ?_)
      refine lv_iload hx hb dX3_hits_91 (lv_at hl 0 rfl) ?_
      refine lv_if_eq (tgt := 101) hx hb dX3_hits_93 (by decide) (fun c_93 => ?_) (fun c_93 => ?_)
      · replace hwp := hwp.1 c_93
        refine lv_iload hx hb dX3_hits_101 (lv_at hl 0 rfl) ?_
        exact W.zret (ty := .boolean) (v := 1) hx hb hr (isB_nar isB1) (fun t ht hW => ⟨⟨1, s2, rfl, hwp, by rw [ht]; exact hP, va_K.moved hW.alike hK, hD⟩, hS.F ht⟩) hS.2.2 dX3_hits_103
      · replace hwp := hwp.2 c_93
        refine lv_aload_n hx hb dX3_hits_96 rfl (lv_at hl 3 rfl) ?_
        refine lv_iconst (v := 0) hx hb dX3_hits_97 (by decide) ?_
        obtain ⟨s3, e_s3⟩ : ∃ z, z = upI s2 53 j 0 := ⟨_, rfl⟩
        refine st_put (D := (dC, dI)) (ci := 3) (v := .int 0) (ty := .int) (C := RX3) (T := TX3) (N := 7) (ws' := Wc cA ad n s3) hx hb hts iX3_hits_3 tyX3 tyX3_ok nmX3 hown hK hP hD hS (19 + j) (atMean hb_1) rfl 5 (by decide) (hts (.fieldLink RX3 33 "LinkQueues$Mean" "count" "I") (by decide +kernel)) (fun _ h9 => h9) rfl (by decide +kernel) rfl rfl (Nat.le_of_ble_eq_true rfl) dX3_hits_98 (by rw [e_s3]; exact stMean_5 hb_1 0) (fun H locs hP hD hS => ?_)
        replace hwp := hwp s3 e_s3
        refine lv_iload hx hb dX3_hits_101 (lv_at hl 0 rfl) ?_
        exact W.zret (ty := .boolean) (v := 1) hx hb hr (isB_nar isB1) (fun t ht hW => ⟨⟨1, s3, rfl, hwp, by rw [ht]; exact hP, va_K.moved hW.alike hK, hD⟩, hS.F ht⟩) hS.2.2 dX3_hits_103
    · replace hwp := hwp.2 c_69
      refine lv_aload_n hx hb dX3_hits_72 rfl (lv_at hl 3 rfl) ?_
      have hF := fA hD hS hA
      refine va_calld (va_runV (As := []) (rest := []) ⟨hx, hb, hml, hown, hts⟩ (c_X0_use l dC dI cA ad n s2 H.size _ hwp) (cwV 0 hts gX3_hits_X0_use rfl rfl rfl (by decide +kernel) ⟨Nat.le_of_ble_eq_true rfl, Nat.le_of_ble_eq_true rfl⟩) ⟨fbC, va_recv hK hP (ci := 0) (q0 := 3) rfl atCoins, fun U hU hW => ⟨rfl, by rw [hU], by rw [hU]; exact hP, va_K.moved hW.alike hK, hD.weaken (fun _ _ _ _ => trivial)⟩⟩ rfl rfl hl.1 rfl (lv_room (Nat.le_of_ble_eq_true rfl)) dX3_hits_73 ⟨Nat.le_of_ble_eq_true rfl, Nat.le_of_ble_eq_true rfl⟩) hS (fun q _ h => hF q h) hF (fun r5 s4 t H1 locs ht hvm hwp hB hz1 hk1 hS => ?_)
      obtain ⟨hP1, hK1, hD1⟩ := hB
      rw [ht] at hP1
      have hD2 := hD1.weaken (fun _ q _ h => hF q.1 h)
      clear hP hD
      have hP := hP1
      have hD := hD2
      clear hP1 hD1 hD2 hK1 hk1 hz1 hF
      generalize H1 = H at hP hS ⊢
      refine lv_dload_n hx hb dX3_hits_76 rfl (lv_at hl 1 rfl) ?_
      refine lv_dload hx hb dX3_hits_77 (lv_at hl 0 rfl) ?_
      refine lv_ddiv hx hb dX3_hits_79 hwp.1 ?_
      replace hwp := hwp.2
      refine lv_dcmp hx hb dX3_hits_80 ?_
      refine lv_if_ge (tgt := 88) hx hb dX3_hits_81 (by decide) (fun c_81 => ?_) (fun c_81 => ?_)
      · replace hwp := hwp.1 c_81
        refine lv_iconst (v := 0) hx hb dX3_hits_88 (by decide) ?_
        refine lv_istore (lv' := [(6, .int 0), (4, .double (FP.dsub FP.dconst1 (FP.dmul (FP.i2d (sI s2 53 j)) (FP.ddiv (FP.dmul (sD s2 50 j) (FP.dsub (sD s2 52 j) (sD s2 48 j))) (FP.dsub (sD s2 49 j) (sD s2 48 j)))))), (2, .double (FP.ddiv (FP.dmul (sD s2 50 j) (FP.dsub (sD s2 52 j) (sD s2 48 j))) (FP.dsub (sD s2 49 j) (sD s2 48 j)))), (0, .ref (ad 3 j)), (1, .ref (ad 0 0))]) hx hb dX3_hits_89 hl (by decide) rfl (fun ls hl => ?_)
        refine lv_iload hx hb dX3_hits_91 (lv_at hl 0 rfl) ?_
        refine lv_if_eq (tgt := 101) hx hb dX3_hits_93 (by decide) (fun c_93 => ?_) (fun c_93 => ?_)
        · replace hwp := hwp.1 c_93
          refine lv_iload hx hb dX3_hits_101 (lv_at hl 0 rfl) ?_
          exact W.zret (ty := .boolean) (v := 0) hx hb hr (isB_nar isB0) (fun t ht hW => ⟨⟨0, s4, rfl, hwp, by rw [ht]; exact hP, va_K.moved hW.alike hK, hD⟩, hS.F ht⟩) hS.2.2 dX3_hits_103
        · replace hwp := hwp.2 c_93
          refine lv_aload_n hx hb dX3_hits_96 rfl (lv_at hl 3 rfl) ?_
          refine lv_iconst (v := 0) hx hb dX3_hits_97 (by decide) ?_
          obtain ⟨s6, e_s6⟩ : ∃ z, z = upI s4 53 j 0 := ⟨_, rfl⟩
          refine st_put (D := (dC, dI)) (ci := 3) (v := .int 0) (ty := .int) (C := RX3) (T := TX3) (N := 7) (ws' := Wc cA ad n s6) hx hb hts iX3_hits_3 tyX3 tyX3_ok nmX3 hown hK hP hD hS (19 + j) (atMean hb_1) rfl 5 (by decide) (hts (.fieldLink RX3 33 "LinkQueues$Mean" "count" "I") (by decide +kernel)) (fun _ h9 => h9) rfl (by decide +kernel) rfl rfl (Nat.le_of_ble_eq_true rfl) dX3_hits_98 (by rw [e_s6]; exact stMean_5 hb_1 0) (fun H locs hP hD hS => ?_)
          replace hwp := hwp s6 e_s6
          refine lv_iload hx hb dX3_hits_101 (lv_at hl 0 rfl) ?_
          exact W.zret (ty := .boolean) (v := 0) hx hb hr (isB_nar isB0) (fun t ht hW => ⟨⟨0, s6, rfl, hwp, by rw [ht]; exact hP, va_K.moved hW.alike hK, hD⟩, hS.F ht⟩) hS.2.2 dX3_hits_103
      · replace hwp := hwp.2 c_81
        refine lv_iconst (v := 1) hx hb dX3_hits_84 (by decide) ?_
        refine lv_goto (tgt := 89) hx hb dX3_hits_85 (by decide) ?_
        refine lv_istore (lv' := [(6, .int 1), (4, .double (FP.dsub FP.dconst1 (FP.dmul (FP.i2d (sI s2 53 j)) (FP.ddiv (FP.dmul (sD s2 50 j) (FP.dsub (sD s2 52 j) (sD s2 48 j))) (FP.dsub (sD s2 49 j) (sD s2 48 j)))))), (2, .double (FP.ddiv (FP.dmul (sD s2 50 j) (FP.dsub (sD s2 52 j) (sD s2 48 j))) (FP.dsub (sD s2 49 j) (sD s2 48 j)))), (0, .ref (ad 3 j)), (1, .ref (ad 0 0))]) hx hb dX3_hits_89 hl (by decide) rfl (fun ls hl => ?_)
        refine lv_iload hx hb dX3_hits_91 (lv_at hl 0 rfl) ?_
        refine lv_if_eq (tgt := 101) hx hb dX3_hits_93 (by decide) (fun c_93 => ?_) (fun c_93 => ?_)
        · replace hwp := hwp.1 c_93
          refine lv_iload hx hb dX3_hits_101 (lv_at hl 0 rfl) ?_
          exact W.zret (ty := .boolean) (v := 1) hx hb hr (isB_nar isB1) (fun t ht hW => ⟨⟨1, s4, rfl, hwp, by rw [ht]; exact hP, va_K.moved hW.alike hK, hD⟩, hS.F ht⟩) hS.2.2 dX3_hits_103
        · replace hwp := hwp.2 c_93
          refine lv_aload_n hx hb dX3_hits_96 rfl (lv_at hl 3 rfl) ?_
          refine lv_iconst (v := 0) hx hb dX3_hits_97 (by decide) ?_
          obtain ⟨s7, e_s7⟩ : ∃ z, z = upI s4 53 j 0 := ⟨_, rfl⟩
          refine st_put (D := (dC, dI)) (ci := 3) (v := .int 0) (ty := .int) (C := RX3) (T := TX3) (N := 7) (ws' := Wc cA ad n s7) hx hb hts iX3_hits_3 tyX3 tyX3_ok nmX3 hown hK hP hD hS (19 + j) (atMean hb_1) rfl 5 (by decide) (hts (.fieldLink RX3 33 "LinkQueues$Mean" "count" "I") (by decide +kernel)) (fun _ h9 => h9) rfl (by decide +kernel) rfl rfl (Nat.le_of_ble_eq_true rfl) dX3_hits_98 (by rw [e_s7]; exact stMean_5 hb_1 0) (fun H locs hP hD hS => ?_)
          replace hwp := hwp s7 e_s7
          refine lv_iload hx hb dX3_hits_101 (lv_at hl 0 rfl) ?_
          exact W.zret (ty := .boolean) (v := 1) hx hb hr (isB_nar isB1) (fun t ht hW => ⟨⟨1, s7, rfl, hwp, by rw [ht]; exact hP, va_K.moved hW.alike hK, hD⟩, hS.F ht⟩) hS.2.2 dX3_hits_103
  · replace hwp := hwp.2 c_9
    refine lv_aload_n hx hb dX3_hits_12 rfl (lv_at hl 0 rfl) ?_
    refine lv_iconst (v := (-1)) hx hb dX3_hits_13 (by decide) ?_
    obtain ⟨s8, e_s8⟩ : ∃ z, z = upI σ 53 j (-1) := ⟨_, rfl⟩
    refine st_put (D := (dC, dI)) (ci := 3) (v := .int (-1)) (ty := .int) (C := RX3) (T := TX3) (N := 7) (ws' := Wc cA ad n s8) hx hb hts iX3_hits_3 tyX3 tyX3_ok nmX3 hown hK hP hD hS (19 + j) (atMean hb_1) rfl 5 (by decide) (hts (.fieldLink RX3 33 "LinkQueues$Mean" "count" "I") (by decide +kernel)) (fun _ h9 => h9) rfl (by decide +kernel) rfl rfl (Nat.le_of_ble_eq_true rfl) dX3_hits_14 (by rw [e_s8]; exact stMean_5 hb_1 (-1)) (fun H locs hP hD hS => ?_)
    replace hwp := hwp s8 e_s8
    refine lv_iconst (v := 0) hx hb dX3_hits_17 (by decide) ?_
    exact W.zret (ty := .boolean) (v := 0) hx hb hr (isB_nar isB0) (fun t ht hW => ⟨⟨0, s8, rfl, hwp, by rw [ht]; exact hP, va_K.moved hW.alike hK, hD⟩, hS.F ht⟩) hS.2.2 dX3_hits_18
