def wp_X0_place (n : Nat) (σ : ST) (a0 : Int32) (K : Int32 → ST → Prop) : Prop := K (a0 &&& 63) σ
set_option maxHeartbeats 8000000 in
set_option maxRecDepth 100000 in
theorem c_X0_place (l : Launch) (dC : Nat → ClassId) (dI : Nat → Nat → Nat) (cA : Nat → ClassId) (ad : Nat → Nat → Nat) (n : Nat) (σ : ST) (a0 : Int32) (sz : Nat) (K : Int32 → ST → Prop) (hwp : wp_X0_place n σ a0 K) : Met l yX0_place wsX0_place ({ frames := 0, cells := 0, slots := 0, locals := 0 } : Room) (va_Pc [.int a0] (preC dC dI cA (Wc cA ad n σ) sz)) (va_Qi K (atC dC dI cA (Wc cA ad n) (va_A (Wc cA ad n σ) sz)) (va_A (Wc cA ad n σ) sz)) 0 0 (va_A (Wc cA ad n σ) sz) := by
  refine Met.ofW (cc := cX0_place) (maxL := 1) (ret := (some .int)) (by decide) rfl ?_
  intro p e s m args below meth c s₁ B hml hv
  obtain ⟨rfl, hsz, hP, hK, hD0⟩ := hv
  have hx := B.exec
  have hb := B.bytes
  have hr := B.returns
  have hts := atoms_spec (ws := wsX0_place) B.pre
  have hown : s.vm.findClass RX0 = some m.cls := findClass_of_methodNamed B.named
  have hlocks := B.notSynchronized
  subst hsz
  have hD := hD0.self (sz := s.heap.size)
  clear hD0
  generalize hAe : va_A (Wc cA ad n σ) s.heap.size = A at hD ⊢
  have hA : ∀ q : Nat, s.heap.size ≤ q → A q := fun q h => by rw [← hAe]; exact Or.inr h
  have hS : va_S A s.heap s.heap [] := va_S.rf
  have hkc : 0 ≤ 0 := Nat.le_refl 0
  have hks : 0 ≤ 0 := Nat.le_refl 0
  have hl := lv_entry ([.int a0]) (n := 1) (Nat.le_of_ble_eq_true rfl)
  rw [lg_entry_eq]
  generalize (lg_sl ([.int a0]) ++ List.replicate (1 - (lg_sl ([.int a0])).length) Slot.unset).toArray = ls at hl ⊢
  have hl : lv_has ls 1 [(0, .int a0)] := hl
  unfold wp_X0_place at hwp
  generalize hHe : s.heap = H at hP ⊢
  have hS : va_S A s.heap H [] := by rw [← hHe]; exact va_S.rf
  clear hHe
  refine lv_iload_n hx hb dX0_place_0 rfl (lv_at hl 0 rfl) ?_
  refine lv_bipush (v := 63) hx hb dX0_place_1 (by decide) ?_
  refine lv_iand hx hb dX0_place_3 ?_
  exact W.iret (v := (a0 &&& 63)) hx hb hr (fun t ht hW => ⟨⟨(a0 &&& 63), σ, rfl, hwp, by rw [ht]; exact hP, va_K.moved hW.alike hK, hD⟩, hS.F ht⟩) hS.2.2 dX0_place_4
def wp_X0_waiting (n : Nat) (σ : ST) (K : Int32 → ST → Prop) : Prop := K ((sI σ 1 0) - (sI σ 2 0)) σ
set_option maxRecDepth 20000 in
theorem iX0_waiting_0 : ∀ w ∈ wsX00, w ∈ wsX0_waiting := by decide +kernel
set_option maxHeartbeats 8000000 in
set_option maxRecDepth 100000 in
theorem c_X0_waiting (l : Launch) (dC : Nat → ClassId) (dI : Nat → Nat → Nat) (cA : Nat → ClassId) (ad : Nat → Nat → Nat) (n : Nat) (σ : ST) (sz : Nat) (K : Int32 → ST → Prop) (hwp : wp_X0_waiting n σ K) : Met l yX0_waiting wsX0_waiting ({ frames := 0, cells := 0, slots := 0, locals := 0 } : Room) (va_Pc [.ref (ad 0 0)] (preC dC dI cA (Wc cA ad n σ) sz)) (va_Qi K (atC dC dI cA (Wc cA ad n) (va_A (Wc cA ad n σ) sz)) (va_A (Wc cA ad n σ) sz)) 0 0 (va_A (Wc cA ad n σ) sz) := by
  refine Met.ofW (cc := cX0_waiting) (maxL := 1) (ret := (some .int)) (by decide) rfl ?_
  intro p e s m args below meth c s₁ B hml hv
  obtain ⟨rfl, hsz, hP, hK, hD0⟩ := hv
  have hx := B.exec
  have hb := B.bytes
  have hr := B.returns
  have hts := atoms_spec (ws := wsX0_waiting) B.pre
  have hown : s.vm.findClass RX0 = some m.cls := findClass_of_methodNamed B.named
  have hlocks := B.notSynchronized
  subst hsz
  have hD := hD0.self (sz := s.heap.size)
  clear hD0
  generalize hAe : va_A (Wc cA ad n σ) s.heap.size = A at hD ⊢
  have hA : ∀ q : Nat, s.heap.size ≤ q → A q := fun q h => by rw [← hAe]; exact Or.inr h
  have hS : va_S A s.heap s.heap [] := va_S.rf
  have hkc : 0 ≤ 0 := Nat.le_refl 0
  have hks : 0 ≤ 0 := Nat.le_refl 0
  have hl := lv_entry ([.ref (ad 0 0)]) (n := 1) (Nat.le_of_ble_eq_true rfl)
  rw [lg_entry_eq]
  generalize (lg_sl ([.ref (ad 0 0)]) ++ List.replicate (1 - (lg_sl ([.ref (ad 0 0)])).length) Slot.unset).toArray = ls at hl ⊢
  have hl : lv_has ls 1 [(0, .ref (ad 0 0))] := hl
  unfold wp_X0_waiting at hwp
  generalize hHe : s.heap = H at hP ⊢
  have hS : va_S A s.heap H [] := by rw [← hHe]; exact va_S.rf
  clear hHe
  refine lv_aload_n hx hb dX0_waiting_0 rfl (lv_at hl 0 rfl) ?_
  refine va_get (D := (dC, dI)) (ci := 0) (v := .int (sI σ 1 0)) (C := RX0) (T := TX0) (N := 3) hx hb hts iX0_waiting_0 hown hK hP 3 atCoins rfl 1 (by decide) (hts (.fieldLink RX0 13 "LinkQueues$Coins" "told" "I") (by decide +kernel)) (fun _ h9 => h9) rfl dX0_waiting_1 ?_
  refine lv_aload_n hx hb dX0_waiting_4 rfl (lv_at hl 0 rfl) ?_
  refine va_get (D := (dC, dI)) (ci := 0) (v := .int (sI σ 2 0)) (C := RX0) (T := TX0) (N := 3) hx hb hts iX0_waiting_0 hown hK hP 3 atCoins rfl 2 (by decide) (hts (.fieldLink RX0 17 "LinkQueues$Coins" "used" "I") (by decide +kernel)) (fun _ h9 => h9) rfl dX0_waiting_5 ?_
  refine lv_isub hx hb dX0_waiting_8 ?_
  exact W.iret (v := ((sI σ 1 0) - (sI σ 2 0))) hx hb hr (fun t ht hW => ⟨⟨((sI σ 1 0) - (sI σ 2 0)), σ, rfl, hwp, by rw [ht]; exact hP, va_K.moved hW.alike hK, hD⟩, hS.F ht⟩) hS.2.2 dX0_waiting_9
def wp_X0_isFull (n : Nat) (σ : ST) (K : Int32 → ST → Prop) : Prop := wp_X0_waiting n σ (fun r2 s1 =>
((r2 < 64 → (K 0 s1)) ∧ (¬ (r2 < 64) → (K 1 s1)))
)
set_option maxHeartbeats 8000000 in
set_option maxRecDepth 100000 in
theorem c_X0_isFull (l : Launch) (dC : Nat → ClassId) (dI : Nat → Nat → Nat) (cA : Nat → ClassId) (ad : Nat → Nat → Nat) (n : Nat) (σ : ST) (sz : Nat) (K : Int32 → ST → Prop) (hwp : wp_X0_isFull n σ K) : Met l yX0_isFull wsX0_isFull ({ frames := 1, cells := 0, slots := 0, locals := 20 } : Room) (va_Pc [.ref (ad 0 0)] (preC dC dI cA (Wc cA ad n σ) sz)) (va_Qi K (atC dC dI cA (Wc cA ad n) (va_A (Wc cA ad n σ) sz)) (va_A (Wc cA ad n σ) sz)) 0 0 (va_A (Wc cA ad n σ) sz) := by
  refine Met.ofW (cc := cX0_isFull) (maxL := 1) (ret := (some .boolean)) (by decide) rfl ?_
  intro p e s m args below meth c s₁ B hml hv
  obtain ⟨rfl, hsz, hP, hK, hD0⟩ := hv
  have hx := B.exec
  have hb := B.bytes
  have hr := B.returns
  have hts := atoms_spec (ws := wsX0_isFull) B.pre
  have hown : s.vm.findClass RX0 = some m.cls := findClass_of_methodNamed B.named
  have hlocks := B.notSynchronized
  subst hsz
  have hD := hD0.self (sz := s.heap.size)
  clear hD0
  generalize hAe : va_A (Wc cA ad n σ) s.heap.size = A at hD ⊢
  have hA : ∀ q : Nat, s.heap.size ≤ q → A q := fun q h => by rw [← hAe]; exact Or.inr h
  have hS : va_S A s.heap s.heap [] := va_S.rf
  have hkc : 0 ≤ 0 := Nat.le_refl 0
  have hks : 0 ≤ 0 := Nat.le_refl 0
  have hl := lv_entry ([.ref (ad 0 0)]) (n := 1) (Nat.le_of_ble_eq_true rfl)
  rw [lg_entry_eq]
  generalize (lg_sl ([.ref (ad 0 0)]) ++ List.replicate (1 - (lg_sl ([.ref (ad 0 0)])).length) Slot.unset).toArray = ls at hl ⊢
  have hl : lv_has ls 1 [(0, .ref (ad 0 0))] := hl
  unfold wp_X0_isFull at hwp
  generalize hHe : s.heap = H at hP ⊢
  have hS : va_S A s.heap H [] := by rw [← hHe]; exact va_S.rf
  clear hHe
  refine lv_aload_n hx hb dX0_isFull_0 rfl (lv_at hl 0 rfl) ?_
  have hF := fA hD hS hA
  refine va_calli (va_runV (As := []) (rest := []) ⟨hx, hb, hml, hown, hts⟩ (c_X0_waiting l dC dI cA ad n σ H.size _ hwp) (cwV 0 hts gX0_isFull_X0_waiting rfl rfl rfl (by decide +kernel) ⟨Nat.le_of_ble_eq_true rfl, Nat.le_of_ble_eq_true rfl⟩) ⟨fbC, va_recv hK hP (ci := 0) (q0 := 3) rfl atCoins, fun U hU hW => ⟨rfl, by rw [hU], by rw [hU]; exact hP, va_K.moved hW.alike hK, hD.weaken (fun _ _ _ _ => trivial)⟩⟩ rfl rfl hl.1 rfl (lv_room (Nat.le_of_ble_eq_true rfl)) dX0_isFull_1 ⟨Nat.le_of_ble_eq_true rfl, Nat.le_of_ble_eq_true rfl⟩) hS (fun q _ h => hF q h) hF (fun r2 s1 t H1 locs ht hvm hwp hB hz1 hk1 hS => ?_)
  obtain ⟨hP1, hK1, hD1⟩ := hB
  rw [ht] at hP1
  have hD2 := hD1.weaken (fun _ q _ h => hF q.1 h)
  clear hP hD
  have hP := hP1
  have hD := hD2
  clear hP1 hD1 hD2 hK1 hk1 hz1 hF
  generalize H1 = H at hP hS ⊢
  refine lv_bipush (v := 64) hx hb dX0_isFull_4 (by decide) ?_
  refine lv_icmp_lt (tgt := 13) hx hb dX0_isFull_6 (by decide) (fun c_6 => ?_) (fun c_6 => ?_)
  · replace hwp := hwp.1 c_6
    refine lv_iconst (v := 0) hx hb dX0_isFull_13 (by decide) ?_
    exact W.zret (ty := .boolean) (v := 0) hx hb hr (isB_nar isB0) (fun t ht hW => ⟨⟨0, s1, rfl, hwp, by rw [ht]; exact hP, va_K.moved hW.alike hK, hD⟩, hS.F ht⟩) hS.2.2 dX0_isFull_14
  · replace hwp := hwp.2 c_6
    refine lv_iconst (v := 1) hx hb dX0_isFull_9 (by decide) ?_
    refine lv_goto (tgt := 14) hx hb dX0_isFull_10 (by decide) ?_
    exact W.zret (ty := .boolean) (v := 1) hx hb hr (isB_nar isB1) (fun t ht hW => ⟨⟨1, s1, rfl, hwp, by rw [ht]; exact hP, va_K.moved hW.alike hK, hD⟩, hS.F ht⟩) hS.2.2 dX0_isFull_14
def wp_X0_add (n : Nat) (σ : ST) (a1 : UInt64) (K : ST → Prop) : Prop := wp_X0_place n σ (sI σ 1 0) (fun r2 s1 =>
vp_in r2 64 ∧
∀ s4, s4 = upD s1 0 r2.toNatClampNeg a1 →
∀ s5, s5 = upI s4 1 0 ((sI s4 1 0) + 1) →
K s5
)
set_option maxRecDepth 20000 in
theorem iX0_add_0 : ∀ w ∈ wsX00, w ∈ wsX0_add := by decide +kernel
set_option maxHeartbeats 8000000 in
set_option maxRecDepth 100000 in
theorem c_X0_add (l : Launch) (dC : Nat → ClassId) (dI : Nat → Nat → Nat) (cA : Nat → ClassId) (ad : Nat → Nat → Nat) (n : Nat) (σ : ST) (a1 : UInt64) (sz : Nat) (K : ST → Prop) (hwp : wp_X0_add n σ a1 K) : Met l yX0_add wsX0_add ({ frames := 1, cells := 0, slots := 0, locals := 20 } : Room) (va_Pc [.ref (ad 0 0), .double a1] (preC dC dI cA (Wc cA ad n σ) sz)) (va_Qv K (atC dC dI cA (Wc cA ad n) (va_A (Wc cA ad n σ) sz)) (va_A (Wc cA ad n σ) sz)) 0 0 (va_A (Wc cA ad n σ) sz) := by
  refine Met.ofW (cc := cX0_add) (maxL := 3) (ret := none) (by decide) rfl ?_
  intro p e s m args below meth c s₁ B hml hv
  obtain ⟨rfl, hsz, hP, hK, hD0⟩ := hv
  have hx := B.exec
  have hb := B.bytes
  have hr := B.returns
  have hts := atoms_spec (ws := wsX0_add) B.pre
  have hown : s.vm.findClass RX0 = some m.cls := findClass_of_methodNamed B.named
  have hlocks := B.notSynchronized
  subst hsz
  have hD := hD0.self (sz := s.heap.size)
  clear hD0
  generalize hAe : va_A (Wc cA ad n σ) s.heap.size = A at hD ⊢
  have hA : ∀ q : Nat, s.heap.size ≤ q → A q := fun q h => by rw [← hAe]; exact Or.inr h
  have hS : va_S A s.heap s.heap [] := va_S.rf
  have hkc : 0 ≤ 0 := Nat.le_refl 0
  have hks : 0 ≤ 0 := Nat.le_refl 0
  have hl := lv_entry ([.ref (ad 0 0), .double a1]) (n := 3) (Nat.le_of_ble_eq_true rfl)
  rw [lg_entry_eq]
  generalize (lg_sl ([.ref (ad 0 0), .double a1]) ++ List.replicate (3 - (lg_sl ([.ref (ad 0 0), .double a1])).length) Slot.unset).toArray = ls at hl ⊢
  have hl : lv_has ls 3 [(0, .ref (ad 0 0)), (1, .double a1)] := hl
  unfold wp_X0_add at hwp
  generalize hHe : s.heap = H at hP ⊢
  have hS : va_S A s.heap H [] := by rw [← hHe]; exact va_S.rf
  clear hHe
  refine lv_aload_n hx hb dX0_add_0 rfl (lv_at hl 0 rfl) ?_
  refine va_get (D := (dC, dI)) (ci := 0) (v := .ref (ad 10 0)) (C := RX0) (T := TX0) (N := 3) hx hb hts iX0_add_0 hown hK hP 3 atCoins rfl 0 (by decide) (hts (.fieldLink RX0 9 "LinkQueues$Coins" "row" "[D") (by decide +kernel)) (fun _ h9 => h9) rfl dX0_add_1 ?_
  refine lv_aload_n hx hb dX0_add_4 rfl (lv_at hl 0 rfl) ?_
  refine va_get (D := (dC, dI)) (ci := 0) (v := .int (sI σ 1 0)) (C := RX0) (T := TX0) (N := 3) hx hb hts iX0_add_0 hown hK hP 3 atCoins rfl 1 (by decide) (hts (.fieldLink RX0 13 "LinkQueues$Coins" "told" "I") (by decide +kernel)) (fun _ h9 => h9) rfl dX0_add_5 ?_
  have hF := fA hD hS hA
  refine va_calli (va_runS (As := [.int (sI σ 1 0)]) (rest := [.ref (ad 10 0)]) ⟨hx, hb, hml, hown, hts⟩ (c_X0_place l dC dI cA ad n σ (sI σ 1 0) H.size _ hwp) (cwS 1 hts gX0_add_X0_place rfl rfl rfl (by decide +kernel) ⟨Nat.le_of_ble_eq_true rfl, Nat.le_of_ble_eq_true rfl⟩) ⟨fbC, fun U hU hW => ⟨rfl, by rw [hU], by rw [hU]; exact hP, va_K.moved hW.alike hK, hD.weaken (fun _ _ _ _ => trivial)⟩⟩ rfl rfl hl.1 rfl (lv_room (Nat.le_of_ble_eq_true rfl)) dX0_add_8 ⟨Nat.le_of_ble_eq_true rfl, Nat.le_of_ble_eq_true rfl⟩) hS (fun q _ h => hF q h) hF (fun r2 s1 t H1 locs ht hvm hwp hB hz1 hk1 hS => ?_)
  obtain ⟨hP1, hK1, hD1⟩ := hB
  rw [ht] at hP1
  have hD2 := hD1.weaken (fun _ q _ h => hF q.1 h)
  clear hP hD
  have hP := hP1
  have hD := hD2
  clear hP1 hD1 hD2 hK1 hk1 hz1 hF
  generalize H1 = H at hP hS ⊢
  refine lv_dload_n hx hb dX0_add_11 rfl (lv_at hl 1 rfl) ?_
  obtain ⟨hi_3, hwp⟩ := hwp
  obtain ⟨s4, e_s4⟩ : ∃ z, z = upD s1 0 r2.toNatClampNeg a1 := ⟨_, rfl⟩
  refine va_dast (D := (dC, dI)) hx hb hK hP hD hS 4 0 atr10 rfl hi_3 dX0_add_12 (fun H locs hP hD hS => ?_)
  rw [st_r10, ← e_s4] at hP hD
  replace hwp := hwp s4 e_s4
  refine lv_aload_n hx hb dX0_add_13 rfl (lv_at hl 0 rfl) ?_
  refine lv_dup hx hb dX0_add_14 rfl ?_
  refine va_get (D := (dC, dI)) (ci := 0) (v := .int (sI s4 1 0)) (C := RX0) (T := TX0) (N := 3) hx hb hts iX0_add_0 hown hK hP 3 atCoins rfl 1 (by decide) (hts (.fieldLink RX0 13 "LinkQueues$Coins" "told" "I") (by decide +kernel)) (fun _ h9 => h9) rfl dX0_add_15 ?_
  refine lv_iconst (v := 1) hx hb dX0_add_18 (by decide) ?_
  refine lv_iadd hx hb dX0_add_19 ?_
  obtain ⟨s5, e_s5⟩ : ∃ z, z = upI s4 1 0 ((sI s4 1 0) + 1) := ⟨_, rfl⟩
  refine st_put (D := (dC, dI)) (ci := 0) (v := .int ((sI s4 1 0) + 1)) (ty := .int) (C := RX0) (T := TX0) (N := 3) (ws' := Wc cA ad n s5) hx hb hts iX0_add_0 tyX0 tyX0_ok nmX0 hown hK hP hD hS 3 atCoins rfl 1 (by decide) (hts (.fieldLink RX0 13 "LinkQueues$Coins" "told" "I") (by decide +kernel)) (fun _ h9 => h9) rfl (by decide +kernel) rfl rfl (Nat.le_of_ble_eq_true rfl) dX0_add_20 (by rw [e_s5]; exact stCoins_1 ((sI s4 1 0) + 1)) (fun H locs hP hD hS => ?_)
  replace hwp := hwp s5 e_s5
  exact W.vret hx hb hr (fun t ht hW => ⟨⟨s5, rfl, hwp, by rw [ht]; exact hP, va_K.moved hW.alike hK, hD⟩, hS.F ht⟩) hS.2.2 dX0_add_23
def wp_X0_use (n : Nat) (σ : ST) (K : UInt64 → ST → Prop) : Prop := wp_X0_waiting n σ (fun r2 s1 =>
((0 < r2 → (wp_X0_place n s1 (sI s1 2 0) (fun r4 s3 =>
vp_in r4 64 ∧
∀ s6, s6 = upI s3 2 0 ((sI s3 2 0) + 1) →
K (sD s3 0 r4.toNatClampNeg) s6
))) ∧ (¬ (0 < r2) → (K 4602678819172646912 s1)))
)
set_option maxRecDepth 20000 in
theorem iX0_use_0 : ∀ w ∈ wsX00, w ∈ wsX0_use := by decide +kernel
set_option maxHeartbeats 8000000 in
set_option maxRecDepth 100000 in
theorem c_X0_use (l : Launch) (dC : Nat → ClassId) (dI : Nat → Nat → Nat) (cA : Nat → ClassId) (ad : Nat → Nat → Nat) (n : Nat) (σ : ST) (sz : Nat) (K : UInt64 → ST → Prop) (hwp : wp_X0_use n σ K) : Met l yX0_use wsX0_use ({ frames := 1, cells := 0, slots := 0, locals := 20 } : Room) (va_Pc [.ref (ad 0 0)] (preC dC dI cA (Wc cA ad n σ) sz)) (va_Qd K (atC dC dI cA (Wc cA ad n) (va_A (Wc cA ad n σ) sz)) (va_A (Wc cA ad n σ) sz)) 0 0 (va_A (Wc cA ad n σ) sz) := by
  refine Met.ofW (cc := cX0_use) (maxL := 3) (ret := (some .double)) (by decide) rfl ?_
  intro p e s m args below meth c s₁ B hml hv
  obtain ⟨rfl, hsz, hP, hK, hD0⟩ := hv
  have hx := B.exec
  have hb := B.bytes
  have hr := B.returns
  have hts := atoms_spec (ws := wsX0_use) B.pre
  have hown : s.vm.findClass RX0 = some m.cls := findClass_of_methodNamed B.named
  have hlocks := B.notSynchronized
  subst hsz
  have hD := hD0.self (sz := s.heap.size)
  clear hD0
  generalize hAe : va_A (Wc cA ad n σ) s.heap.size = A at hD ⊢
  have hA : ∀ q : Nat, s.heap.size ≤ q → A q := fun q h => by rw [← hAe]; exact Or.inr h
  have hS : va_S A s.heap s.heap [] := va_S.rf
  have hkc : 0 ≤ 0 := Nat.le_refl 0
  have hks : 0 ≤ 0 := Nat.le_refl 0
  have hl := lv_entry ([.ref (ad 0 0)]) (n := 3) (Nat.le_of_ble_eq_true rfl)
  rw [lg_entry_eq]
  generalize (lg_sl ([.ref (ad 0 0)]) ++ List.replicate (3 - (lg_sl ([.ref (ad 0 0)])).length) Slot.unset).toArray = ls at hl ⊢
  have hl : lv_has ls 3 [(0, .ref (ad 0 0))] := hl
  unfold wp_X0_use at hwp
  generalize hHe : s.heap = H at hP ⊢
  have hS : va_S A s.heap H [] := by rw [← hHe]; exact va_S.rf
  clear hHe
  refine lv_aload_n hx hb dX0_use_0 rfl (lv_at hl 0 rfl) ?_
  have hF := fA hD hS hA
  refine va_calli (va_runV (As := []) (rest := []) ⟨hx, hb, hml, hown, hts⟩ (c_X0_waiting l dC dI cA ad n σ H.size _ hwp) (cwV 0 hts gX0_use_X0_waiting rfl rfl rfl (by decide +kernel) ⟨Nat.le_of_ble_eq_true rfl, Nat.le_of_ble_eq_true rfl⟩) ⟨fbC, va_recv hK hP (ci := 0) (q0 := 3) rfl atCoins, fun U hU hW => ⟨rfl, by rw [hU], by rw [hU]; exact hP, va_K.moved hW.alike hK, hD.weaken (fun _ _ _ _ => trivial)⟩⟩ rfl rfl hl.1 rfl (lv_room (Nat.le_of_ble_eq_true rfl)) dX0_use_1 ⟨Nat.le_of_ble_eq_true rfl, Nat.le_of_ble_eq_true rfl⟩) hS (fun q _ h => hF q h) hF (fun r2 s1 t H1 locs ht hvm hwp hB hz1 hk1 hS => ?_)
  obtain ⟨hP1, hK1, hD1⟩ := hB
  rw [ht] at hP1
  have hD2 := hD1.weaken (fun _ q _ h => hF q.1 h)
  clear hP hD
  have hP := hP1
  have hD := hD2
  clear hP1 hD1 hD2 hK1 hk1 hz1 hF
  generalize H1 = H at hP hS ⊢
  refine lv_if_gt (tgt := 11) hx hb dX0_use_4 (by decide) (fun c_4 => ?_) (fun c_4 => ?_)
  · replace hwp := hwp.1 c_4
    refine lv_aload_n hx hb dX0_use_11 rfl (lv_at hl 0 rfl) ?_
    refine va_get (D := (dC, dI)) (ci := 0) (v := .ref (ad 10 0)) (C := RX0) (T := TX0) (N := 3) hx hb hts iX0_use_0 hown hK hP 3 atCoins rfl 0 (by decide) (hts (.fieldLink RX0 9 "LinkQueues$Coins" "row" "[D") (by decide +kernel)) (fun _ h9 => h9) rfl dX0_use_12 ?_
    refine lv_aload_n hx hb dX0_use_15 rfl (lv_at hl 0 rfl) ?_
    refine va_get (D := (dC, dI)) (ci := 0) (v := .int (sI s1 2 0)) (C := RX0) (T := TX0) (N := 3) hx hb hts iX0_use_0 hown hK hP 3 atCoins rfl 2 (by decide) (hts (.fieldLink RX0 17 "LinkQueues$Coins" "used" "I") (by decide +kernel)) (fun _ h9 => h9) rfl dX0_use_16 ?_
    have hF := fA hD hS hA
    refine va_calli (va_runS (As := [.int (sI s1 2 0)]) (rest := [.ref (ad 10 0)]) ⟨hx, hb, hml, hown, hts⟩ (c_X0_place l dC dI cA ad n s1 (sI s1 2 0) H.size _ hwp) (cwS 1 hts gX0_use_X0_place rfl rfl rfl (by decide +kernel) ⟨Nat.le_of_ble_eq_true rfl, Nat.le_of_ble_eq_true rfl⟩) ⟨fbC, fun U hU hW => ⟨rfl, by rw [hU], by rw [hU]; exact hP, va_K.moved hW.alike hK, hD.weaken (fun _ _ _ _ => trivial)⟩⟩ rfl rfl hl.1 rfl (lv_room (Nat.le_of_ble_eq_true rfl)) dX0_use_19 ⟨Nat.le_of_ble_eq_true rfl, Nat.le_of_ble_eq_true rfl⟩) hS (fun q _ h => hF q h) hF (fun r4 s3 t H1 locs ht hvm hwp hB hz1 hk1 hS => ?_)
    obtain ⟨hP1, hK1, hD1⟩ := hB
    rw [ht] at hP1
    have hD2 := hD1.weaken (fun _ q _ h => hF q.1 h)
    clear hP hD
    have hP := hP1
    have hD := hD2
    clear hP1 hD1 hD2 hK1 hk1 hz1 hF
    generalize H1 = H at hP hS ⊢
    obtain ⟨hi_5, hwp⟩ := hwp
    refine va_dald (D := (dC, dI)) hx hb hK hP 4 0 atr10 rfl hi_5 dX0_use_22 ?_
    refine lv_dstore_n (lv' := [(1, .double (sD s3 0 r4.toNatClampNeg)), (0, .ref (ad 0 0))]) hx hb dX0_use_23 rfl hl (by decide) rfl (fun ls hl => ?_)
    refine lv_aload_n hx hb dX0_use_24 rfl (lv_at hl 1 rfl) ?_
    refine lv_dup hx hb dX0_use_25 rfl ?_
    refine va_get (D := (dC, dI)) (ci := 0) (v := .int (sI s3 2 0)) (C := RX0) (T := TX0) (N := 3) hx hb hts iX0_use_0 hown hK hP 3 atCoins rfl 2 (by decide) (hts (.fieldLink RX0 17 "LinkQueues$Coins" "used" "I") (by decide +kernel)) (fun _ h9 => h9) rfl dX0_use_26 ?_
    refine lv_iconst (v := 1) hx hb dX0_use_29 (by decide) ?_
    refine lv_iadd hx hb dX0_use_30 ?_
    obtain ⟨s6, e_s6⟩ : ∃ z, z = upI s3 2 0 ((sI s3 2 0) + 1) := ⟨_, rfl⟩
    refine st_put (D := (dC, dI)) (ci := 0) (v := .int ((sI s3 2 0) + 1)) (ty := .int) (C := RX0) (T := TX0) (N := 3) (ws' := Wc cA ad n s6) hx hb hts iX0_use_0 tyX0 tyX0_ok nmX0 hown hK hP hD hS 3 atCoins rfl 2 (by decide) (hts (.fieldLink RX0 17 "LinkQueues$Coins" "used" "I") (by decide +kernel)) (fun _ h9 => h9) rfl (by decide +kernel) rfl rfl (Nat.le_of_ble_eq_true rfl) dX0_use_31 (by rw [e_s6]; exact stCoins_2 ((sI s3 2 0) + 1)) (fun H locs hP hD hS => ?_)
    replace hwp := hwp s6 e_s6
    refine lv_dload_n hx hb dX0_use_34 rfl (lv_at hl 0 rfl) ?_
    exact W.dret (v := (sD s3 0 r4.toNatClampNeg)) hx hb hr (fun t ht hW => ⟨⟨(sD s3 0 r4.toNatClampNeg), s6, rfl, hwp, by rw [ht]; exact hP, va_K.moved hW.alike hK, hD⟩, hS.F ht⟩) hS.2.2 dX0_use_35
  · replace hwp := hwp.2 c_4
    refine lv_ldc2d (v := 4602678819172646912) hx hb hown (hts (.constantDouble RX0 28 (4602678819172646912)) (by decide +kernel)) dX0_use_7 ?_
    exact W.dret (v := 4602678819172646912) hx hb hr (fun t ht hW => ⟨⟨4602678819172646912, s1, rfl, hwp, by rw [ht]; exact hP, va_K.moved hW.alike hK, hD⟩, hS.F ht⟩) hS.2.2 dX0_use_10
