def wp_X8_takeOut (n : Nat) (σ : ST) (a1 : Nat) (K : ST → Prop) : Prop := a1 < n ∧
∃ b_2, (sR σ 81 a1) = some b_2 ∧
b_2 < 6 ∧
b_2 < 6 ∧
wp_X6_removeFirst n σ b_2 (fun s5 =>
∀ s7, s7 = upI s5 134 0 ((sI s5 134 0) - 1) →
∀ s8, s8 = upI s7 135 0 ((sI s7 135 0) - (sI s7 82 a1)) →
∀ s9, s9 = upI s8 86 a1 ((sI s8 132 0) - (sI s8 83 a1)) →
K s9
)
set_option maxRecDepth 20000 in
theorem iX8_takeOut_5 : ∀ w ∈ wsX50, w ∈ wsX8_takeOut := by decide +kernel
set_option maxRecDepth 20000 in
theorem iX8_takeOut_2 : ∀ w ∈ wsX20, w ∈ wsX8_takeOut := by decide +kernel
set_option maxRecDepth 20000 in
theorem iX8_takeOut_8 : ∀ w ∈ wsX80, w ∈ wsX8_takeOut := by decide +kernel
set_option maxHeartbeats 8000000 in
set_option maxRecDepth 100000 in
theorem c_X8_takeOut (l : Launch) (dC : Nat → ClassId) (dI : Nat → Nat → Nat) (cA : Nat → ClassId) (ad : Nat → Nat → Nat) (n : Nat) (σ : ST) (a1 : Nat) (sz : Nat) (K : ST → Prop) (hwp : wp_X8_takeOut n σ a1 K) : Met l yX8_takeOut wsX8_takeOut ({ frames := 1, cells := 0, slots := 0, locals := 21 } : Room) (va_Pc [.ref (ad 8 0), .ref (ad 5 a1)] (preC dC dI cA (Wc cA ad n σ) sz)) (va_Qv K (atC dC dI cA (Wc cA ad n) (va_A (Wc cA ad n σ) sz)) (va_A (Wc cA ad n σ) sz)) 0 0 (va_A (Wc cA ad n σ) sz) := by
  refine Met.ofW (cc := cX8_takeOut) (maxL := 2) (ret := none) (by decide) rfl ?_
  intro p e s m args below meth c s₁ B hml hv
  obtain ⟨rfl, hsz, hP, hK, hD0⟩ := hv
  have hx := B.exec
  have hb := B.bytes
  have hr := B.returns
  have hts := atoms_spec (ws := wsX8_takeOut) B.pre
  have hown : s.vm.findClass RX8 = some m.cls := findClass_of_methodNamed B.named
  have hlocks := B.notSynchronized
  subst hsz
  have hD := hD0.self (sz := s.heap.size)
  clear hD0
  generalize hAe : va_A (Wc cA ad n σ) s.heap.size = A at hD ⊢
  have hA : ∀ q : Nat, s.heap.size ≤ q → A q := fun q h => by rw [← hAe]; exact Or.inr h
  have hS : va_S A s.heap s.heap [] := va_S.rf
  have hkc : 0 ≤ 0 := Nat.le_refl 0
  have hks : 0 ≤ 0 := Nat.le_refl 0
  have hl := lv_entry ([.ref (ad 8 0), .ref (ad 5 a1)]) (n := 2) (Nat.le_of_ble_eq_true rfl)
  rw [lg_entry_eq]
  generalize (lg_sl ([.ref (ad 8 0), .ref (ad 5 a1)]) ++ List.replicate (2 - (lg_sl ([.ref (ad 8 0), .ref (ad 5 a1)])).length) Slot.unset).toArray = ls at hl ⊢
  have hl : lv_has ls 2 [(0, .ref (ad 8 0)), (1, .ref (ad 5 a1))] := hl
  unfold wp_X8_takeOut at hwp
  generalize hHe : s.heap = H at hP ⊢
  have hS : va_S A s.heap H [] := by rw [← hHe]; exact va_S.rf
  clear hHe
  refine lv_aload_n hx hb dX8_takeOut_0 rfl (lv_at hl 1 rfl) ?_
  obtain ⟨hb_1, hwp⟩ := hwp
  refine va_get (D := (dC, dI)) (ci := 5) (v := va_re (ad 2) (sR σ 81 a1)) (C := RX5) (T := TX5) (N := 8) hx hb hts iX8_takeOut_5 hown hK hP (31 + a1) (atPacket hb_1) rfl 1 (by decide) (hts (.fieldLink RX8 224 "LinkQueues$Packet" "owner" "LLinkQueues$Flow;") (by decide +kernel)) (fun _ h9 => h9) rfl dX8_takeOut_1 ?_
  obtain ⟨b_2, ho_3, hwp⟩ := hwp
  rw [ho_3]
  obtain ⟨hb_4, hwp⟩ := hwp
  refine va_get (D := (dC, dI)) (ci := 2) (v := .ref (ad 6 b_2)) (C := RX2) (T := TX2) (N := 15) hx hb hts iX8_takeOut_2 hown hK hP (7 + b_2) (atFlow hb_4) rfl 1 (by decide) (hts (.fieldLink RX8 186 "LinkQueues$Flow" "queue" "LLinkQueues$Queue;") (by decide +kernel)) (fun _ h9 => h9) rfl dX8_takeOut_4 ?_
  obtain ⟨hb_6, hwp⟩ := hwp
  have hF := fA hD hS hA
  refine va_callv (va_runV (As := []) (rest := []) ⟨hx, hb, hml, hown, hts⟩ (c_X6_removeFirst l dC dI cA ad n σ b_2 H.size _ hwp) (cwV 0 hts gX8_takeOut_X6_removeFirst rfl rfl rfl (by decide +kernel) ⟨Nat.le_of_ble_eq_true rfl, Nat.le_of_ble_eq_true rfl⟩) ⟨fbC, va_recv hK hP (ci := 6) (q0 := (13 + b_2)) rfl (atQueue hb_6), fun U hU hW => ⟨rfl, by rw [hU], by rw [hU]; exact hP, va_K.moved hW.alike hK, hD.weaken (fun _ _ _ _ => trivial)⟩⟩ rfl rfl hl.1 rfl (lv_room (Nat.le_of_ble_eq_true rfl)) dX8_takeOut_7 ⟨Nat.le_of_ble_eq_true rfl, Nat.le_of_ble_eq_true rfl⟩) hS (fun q _ h => hF q h) hF (fun s5 t H1 locs ht hvm hwp hB hz1 hk1 hS => ?_)
  obtain ⟨hP1, hK1, hD1⟩ := hB
  rw [ht] at hP1
  have hD2 := hD1.weaken (fun _ q _ h => hF q.1 h)
  clear hP hD
  have hP := hP1
  have hD := hD2
  clear hP1 hD1 hD2 hK1 hk1 hz1 hF
  generalize H1 = H at hP hS ⊢
  refine lv_aload_n hx hb dX8_takeOut_10 rfl (lv_at hl 0 rfl) ?_
  refine lv_dup hx hb dX8_takeOut_11 rfl ?_
  refine va_get (D := (dC, dI)) (ci := 8) (v := .int (sI s5 134 0)) (C := RX8) (T := TX8) (N := 11) hx hb hts iX8_takeOut_8 hown hK hP 0 atLq rfl 6 (by decide) (hts (.fieldLink RX8 43 "LinkQueues" "waitingPackets" "I") (by decide +kernel)) (fun _ h9 => h9) rfl dX8_takeOut_12 ?_
  refine lv_iconst (v := 1) hx hb dX8_takeOut_15 (by decide) ?_
  refine lv_isub hx hb dX8_takeOut_16 ?_
  obtain ⟨s7, e_s7⟩ : ∃ z, z = upI s5 134 0 ((sI s5 134 0) - 1) := ⟨_, rfl⟩
  refine st_put (D := (dC, dI)) (ci := 8) (v := .int ((sI s5 134 0) - 1)) (ty := .int) (C := RX8) (T := TX8) (N := 11) (ws' := Wc cA ad n s7) hx hb hts iX8_takeOut_8 tyX8 tyX8_ok nmX8 hown hK hP hD hS 0 atLq rfl 6 (by decide) (hts (.fieldLink RX8 43 "LinkQueues" "waitingPackets" "I") (by decide +kernel)) (fun _ h9 => h9) rfl (by decide +kernel) rfl rfl (Nat.le_of_ble_eq_true rfl) dX8_takeOut_17 (by rw [e_s7]; exact stLq_6 ((sI s5 134 0) - 1)) (fun H locs hP hD hS => ?_)
  replace hwp := hwp s7 e_s7
  refine lv_aload_n hx hb dX8_takeOut_20 rfl (lv_at hl 0 rfl) ?_
  refine lv_dup hx hb dX8_takeOut_21 rfl ?_
  refine va_get (D := (dC, dI)) (ci := 8) (v := .int (sI s7 135 0)) (C := RX8) (T := TX8) (N := 11) hx hb hts iX8_takeOut_8 hown hK hP 0 atLq rfl 7 (by decide) (hts (.fieldLink RX8 46 "LinkQueues" "waitingBytes" "I") (by decide +kernel)) (fun _ h9 => h9) rfl dX8_takeOut_22 ?_
  refine lv_aload_n hx hb dX8_takeOut_25 rfl (lv_at hl 1 rfl) ?_
  refine va_get (D := (dC, dI)) (ci := 5) (v := .int (sI s7 82 a1)) (C := RX5) (T := TX5) (N := 8) hx hb hts iX8_takeOut_5 hown hK hP (31 + a1) (atPacket hb_1) rfl 2 (by decide) (hts (.fieldLink RX8 231 "LinkQueues$Packet" "bytes" "I") (by decide +kernel)) (fun _ h9 => h9) rfl dX8_takeOut_26 ?_
  refine lv_isub hx hb dX8_takeOut_29 ?_
  obtain ⟨s8, e_s8⟩ : ∃ z, z = upI s7 135 0 ((sI s7 135 0) - (sI s7 82 a1)) := ⟨_, rfl⟩
  refine st_put (D := (dC, dI)) (ci := 8) (v := .int ((sI s7 135 0) - (sI s7 82 a1))) (ty := .int) (C := RX8) (T := TX8) (N := 11) (ws' := Wc cA ad n s8) hx hb hts iX8_takeOut_8 tyX8 tyX8_ok nmX8 hown hK hP hD hS 0 atLq rfl 7 (by decide) (hts (.fieldLink RX8 46 "LinkQueues" "waitingBytes" "I") (by decide +kernel)) (fun _ h9 => h9) rfl (by decide +kernel) rfl rfl (Nat.le_of_ble_eq_true rfl) dX8_takeOut_30 (by rw [e_s8]; exact stLq_7 ((sI s7 135 0) - (sI s7 82 a1))) (fun H locs hP hD hS => ?_)
  replace hwp := hwp s8 e_s8
  refine lv_aload_n hx hb dX8_takeOut_33 rfl (lv_at hl 1 rfl) ?_
  refine lv_aload_n hx hb dX8_takeOut_34 rfl (lv_at hl 0 rfl) ?_
  refine va_get (D := (dC, dI)) (ci := 8) (v := .int (sI s8 132 0)) (C := RX8) (T := TX8) (N := 11) hx hb hts iX8_takeOut_8 hown hK hP 0 atLq rfl 4 (by decide) (hts (.fieldLink RX8 36 "LinkQueues" "now" "I") (by decide +kernel)) (fun _ h9 => h9) rfl dX8_takeOut_35 ?_
  refine lv_aload_n hx hb dX8_takeOut_38 rfl (lv_at hl 1 rfl) ?_
  refine va_get (D := (dC, dI)) (ci := 5) (v := .int (sI s8 83 a1)) (C := RX5) (T := TX5) (N := 8) hx hb hts iX8_takeOut_5 hown hK hP (31 + a1) (atPacket hb_1) rfl 3 (by decide) (hts (.fieldLink RX8 288 "LinkQueues$Packet" "cameAt" "I") (by decide +kernel)) (fun _ h9 => h9) rfl dX8_takeOut_39 ?_
  refine lv_isub hx hb dX8_takeOut_42 ?_
  obtain ⟨s9, e_s9⟩ : ∃ z, z = upI s8 86 a1 ((sI s8 132 0) - (sI s8 83 a1)) := ⟨_, rfl⟩
  refine st_put (D := (dC, dI)) (ci := 5) (v := .int ((sI s8 132 0) - (sI s8 83 a1))) (ty := .int) (C := RX5) (T := TX5) (N := 8) (ws' := Wc cA ad n s9) hx hb hts iX8_takeOut_5 tyX5 tyX5_ok nmX5 hown hK hP hD hS (31 + a1) (atPacket hb_1) rfl 6 (by decide) (hts (.fieldLink RX8 232 "LinkQueues$Packet" "wait" "I") (by decide +kernel)) (fun _ h9 => h9) rfl (by decide +kernel) rfl rfl (Nat.le_of_ble_eq_true rfl) dX8_takeOut_43 (by rw [e_s9]; exact stPacket_6 hb_1 ((sI s8 132 0) - (sI s8 83 a1))) (fun H locs hP hD hS => ?_)
  replace hwp := hwp s9 e_s9
  exact W.vret hx hb hr (fun t ht hW => ⟨⟨s9, rfl, hwp, by rw [ht]; exact hP, va_K.moved hW.alike hK, hD⟩, hS.F ht⟩) hS.2.2 dX8_takeOut_46
def wp_X8_putIn (n : Nat) (σ : ST) (a1 : Nat) (K : ST → Prop) : Prop := a1 < n ∧
∃ b_2, (sR σ 81 a1) = some b_2 ∧
b_2 < 6 ∧
b_2 < 6 ∧
((¬ (sI σ 98 b_2) = 0 → (∃ b_6, (sR σ 81 a1) = some b_6 ∧
b_6 < 6 ∧
b_6 < 6 ∧
wp_X6_add n σ b_6 a1 (fun s9 =>
∀ s11, s11 = upI s9 134 0 ((sI s9 134 0) + 1) →
∀ s12, s12 = upI s11 135 0 ((sI s11 135 0) + (sI s11 82 a1)) →
K s12
))) ∧ ((sI σ 98 b_2) = 0 → (∃ b_13, (sR σ 81 a1) = some b_13 ∧
wp_X7_join n σ b_13 (fun s15 =>
∃ b_16, (sR s15 81 a1) = some b_16 ∧
b_16 < 6 ∧
b_16 < 6 ∧
wp_X6_add n s15 b_16 a1 (fun s19 =>
∀ s21, s21 = upI s19 134 0 ((sI s19 134 0) + 1) →
∀ s22, s22 = upI s21 135 0 ((sI s21 135 0) + (sI s21 82 a1)) →
K s22
)
))))
set_option maxRecDepth 20000 in
theorem iX8_putIn_5 : ∀ w ∈ wsX50, w ∈ wsX8_putIn := by decide +kernel
set_option maxRecDepth 20000 in
theorem iX8_putIn_2 : ∀ w ∈ wsX20, w ∈ wsX8_putIn := by decide +kernel
set_option maxRecDepth 20000 in
theorem iX8_putIn_6 : ∀ w ∈ wsX60, w ∈ wsX8_putIn := by decide +kernel
set_option maxRecDepth 20000 in
theorem iX8_putIn_8 : ∀ w ∈ wsX80, w ∈ wsX8_putIn := by decide +kernel
set_option maxHeartbeats 8000000 in
set_option maxRecDepth 100000 in
theorem c_X8_putIn (l : Launch) (dC : Nat → ClassId) (dI : Nat → Nat → Nat) (cA : Nat → ClassId) (ad : Nat → Nat → Nat) (n : Nat) (σ : ST) (a1 : Nat) (sz : Nat) (K : ST → Prop) (hwp : wp_X8_putIn n σ a1 K) : Met l yX8_putIn wsX8_putIn ({ frames := 1, cells := 0, slots := 0, locals := 21 } : Room) (va_Pc [.ref (ad 8 0), .ref (ad 5 a1)] (preC dC dI cA (Wc cA ad n σ) sz)) (va_Qv K (atC dC dI cA (Wc cA ad n) (va_A (Wc cA ad n σ) sz)) (va_A (Wc cA ad n σ) sz)) 0 0 (va_A (Wc cA ad n σ) sz) := by
  refine Met.ofW (cc := cX8_putIn) (maxL := 2) (ret := none) (by decide) rfl ?_
  intro p e s m args below meth c s₁ B hml hv
  obtain ⟨rfl, hsz, hP, hK, hD0⟩ := hv
  have hx := B.exec
  have hb := B.bytes
  have hr := B.returns
  have hts := atoms_spec (ws := wsX8_putIn) B.pre
  have hown : s.vm.findClass RX8 = some m.cls := findClass_of_methodNamed B.named
  have hlocks := B.notSynchronized
  subst hsz
  have hD := hD0.self (sz := s.heap.size)
  clear hD0
  generalize hAe : va_A (Wc cA ad n σ) s.heap.size = A at hD ⊢
  have hA : ∀ q : Nat, s.heap.size ≤ q → A q := fun q h => by rw [← hAe]; exact Or.inr h
  have hS : va_S A s.heap s.heap [] := va_S.rf
  have hkc : 0 ≤ 0 := Nat.le_refl 0
  have hks : 0 ≤ 0 := Nat.le_refl 0
  have hl := lv_entry ([.ref (ad 8 0), .ref (ad 5 a1)]) (n := 2) (Nat.le_of_ble_eq_true rfl)
  rw [lg_entry_eq]
  generalize (lg_sl ([.ref (ad 8 0), .ref (ad 5 a1)]) ++ List.replicate (2 - (lg_sl ([.ref (ad 8 0), .ref (ad 5 a1)])).length) Slot.unset).toArray = ls at hl ⊢
  have hl : lv_has ls 2 [(0, .ref (ad 8 0)), (1, .ref (ad 5 a1))] := hl
  unfold wp_X8_putIn at hwp
  generalize hHe : s.heap = H at hP ⊢
  have hS : va_S A s.heap H [] := by rw [← hHe]; exact va_S.rf
  clear hHe
  refine lv_aload_n hx hb dX8_putIn_0 rfl (lv_at hl 1 rfl) ?_
  obtain ⟨hb_1, hwp⟩ := hwp
  refine va_get (D := (dC, dI)) (ci := 5) (v := va_re (ad 2) (sR σ 81 a1)) (C := RX5) (T := TX5) (N := 8) hx hb hts iX8_putIn_5 hown hK hP (31 + a1) (atPacket hb_1) rfl 1 (by decide) (hts (.fieldLink RX8 224 "LinkQueues$Packet" "owner" "LLinkQueues$Flow;") (by decide +kernel)) (fun _ h9 => h9) rfl dX8_putIn_1 ?_
  obtain ⟨b_2, ho_3, hwp⟩ := hwp
  rw [ho_3]
  obtain ⟨hb_4, hwp⟩ := hwp
  refine va_get (D := (dC, dI)) (ci := 2) (v := .ref (ad 6 b_2)) (C := RX2) (T := TX2) (N := 15) hx hb hts iX8_putIn_2 hown hK hP (7 + b_2) (atFlow hb_4) rfl 1 (by decide) (hts (.fieldLink RX8 186 "LinkQueues$Flow" "queue" "LLinkQueues$Queue;") (by decide +kernel)) (fun _ h9 => h9) rfl dX8_putIn_4 ?_
  obtain ⟨hb_5, hwp⟩ := hwp
  refine va_get (D := (dC, dI)) (ci := 6) (v := .int (sI σ 98 b_2)) (C := RX6) (T := TX6) (N := 4) hx hb hts iX8_putIn_6 hown hK hP (13 + b_2) (atQueue hb_5) rfl 2 (by decide) (hts (.fieldLink RX8 190 "LinkQueues$Queue" "packets" "I") (by decide +kernel)) (fun _ h9 => h9) rfl dX8_putIn_7 ?_
  refine lv_if_ne (tgt := 24) hx hb dX8_putIn_10 (by decide) (fun c_10 => ?_) (fun c_10 => ?_)
  · replace hwp := hwp.1 c_10
    refine lv_aload_n hx hb dX8_putIn_24 rfl (lv_at hl 1 rfl) ?_
    refine va_get (D := (dC, dI)) (ci := 5) (v := va_re (ad 2) (sR σ 81 a1)) (C := RX5) (T := TX5) (N := 8) hx hb hts iX8_putIn_5 hown hK hP (31 + a1) (atPacket hb_1) rfl 1 (by decide) (hts (.fieldLink RX8 224 "LinkQueues$Packet" "owner" "LLinkQueues$Flow;") (by decide +kernel)) (fun _ h9 => h9) rfl dX8_putIn_25 ?_
    obtain ⟨b_6, ho_7, hwp⟩ := hwp
    rw [ho_7]
    obtain ⟨hb_8, hwp⟩ := hwp
    refine va_get (D := (dC, dI)) (ci := 2) (v := .ref (ad 6 b_6)) (C := RX2) (T := TX2) (N := 15) hx hb hts iX8_putIn_2 hown hK hP (7 + b_6) (atFlow hb_8) rfl 1 (by decide) (hts (.fieldLink RX8 186 "LinkQueues$Flow" "queue" "LLinkQueues$Queue;") (by decide +kernel)) (fun _ h9 => h9) rfl dX8_putIn_28 ?_
    refine lv_aload_n hx hb dX8_putIn_31 rfl (lv_at hl 1 rfl) ?_
    obtain ⟨hb_10, hwp⟩ := hwp
    have hF := fA hD hS hA
    refine va_callv (va_runV (As := [.ref (ad 5 a1)]) (rest := []) ⟨hx, hb, hml, hown, hts⟩ (c_X6_add l dC dI cA ad n σ b_6 a1 H.size _ hwp) (cwV 1 hts gX8_putIn_X6_add rfl rfl rfl (by decide +kernel) ⟨Nat.le_of_ble_eq_true rfl, Nat.le_of_ble_eq_true rfl⟩) ⟨fbC, va_recv hK hP (ci := 6) (q0 := (13 + b_6)) rfl (atQueue hb_10), fun U hU hW => ⟨rfl, by rw [hU], by rw [hU]; exact hP, va_K.moved hW.alike hK, hD.weaken (fun _ _ _ _ => trivial)⟩⟩ rfl rfl hl.1 rfl (lv_room (Nat.le_of_ble_eq_true rfl)) dX8_putIn_32 ⟨Nat.le_of_ble_eq_true rfl, Nat.le_of_ble_eq_true rfl⟩) hS (fun q _ h => hF q h) hF (fun s9 t H1 locs ht hvm hwp hB hz1 hk1 hS => ?_)
    obtain ⟨hP1, hK1, hD1⟩ := hB
    rw [ht] at hP1
    have hD2 := hD1.weaken (fun _ q _ h => hF q.1 h)
    clear hP hD
    have hP := hP1
    have hD := hD2
    clear hP1 hD1 hD2 hK1 hk1 hz1 hF
    generalize H1 = H at hP hS ⊢
    refine lv_aload_n hx hb dX8_putIn_35 rfl (lv_at hl 0 rfl) ?_
    refine lv_dup hx hb dX8_putIn_36 rfl ?_
    refine va_get (D := (dC, dI)) (ci := 8) (v := .int (sI s9 134 0)) (C := RX8) (T := TX8) (N := 11) hx hb hts iX8_putIn_8 hown hK hP 0 atLq rfl 6 (by decide) (hts (.fieldLink RX8 43 "LinkQueues" "waitingPackets" "I") (by decide +kernel)) (fun _ h9 => h9) rfl dX8_putIn_37 ?_
    refine lv_iconst (v := 1) hx hb dX8_putIn_40 (by decide) ?_
    refine lv_iadd hx hb dX8_putIn_41 ?_
    obtain ⟨s11, e_s11⟩ : ∃ z, z = upI s9 134 0 ((sI s9 134 0) + 1) := ⟨_, rfl⟩
    refine st_put (D := (dC, dI)) (ci := 8) (v := .int ((sI s9 134 0) + 1)) (ty := .int) (C := RX8) (T := TX8) (N := 11) (ws' := Wc cA ad n s11) hx hb hts iX8_putIn_8 tyX8 tyX8_ok nmX8 hown hK hP hD hS 0 atLq rfl 6 (by decide) (hts (.fieldLink RX8 43 "LinkQueues" "waitingPackets" "I") (by decide +kernel)) (fun _ h9 => h9) rfl (by decide +kernel) rfl rfl (Nat.le_of_ble_eq_true rfl) dX8_putIn_42 (by rw [e_s11]; exact stLq_6 ((sI s9 134 0) + 1)) (fun H locs hP hD hS => ?_)
    replace hwp := hwp s11 e_s11
    refine lv_aload_n hx hb dX8_putIn_45 rfl (lv_at hl 0 rfl) ?_
    refine lv_dup hx hb dX8_putIn_46 rfl ?_
    refine va_get (D := (dC, dI)) (ci := 8) (v := .int (sI s11 135 0)) (C := RX8) (T := TX8) (N := 11) hx hb hts iX8_putIn_8 hown hK hP 0 atLq rfl 7 (by decide) (hts (.fieldLink RX8 46 "LinkQueues" "waitingBytes" "I") (by decide +kernel)) (fun _ h9 => h9) rfl dX8_putIn_47 ?_
    refine lv_aload_n hx hb dX8_putIn_50 rfl (lv_at hl 1 rfl) ?_
    refine va_get (D := (dC, dI)) (ci := 5) (v := .int (sI s11 82 a1)) (C := RX5) (T := TX5) (N := 8) hx hb hts iX8_putIn_5 hown hK hP (31 + a1) (atPacket hb_1) rfl 2 (by decide) (hts (.fieldLink RX8 231 "LinkQueues$Packet" "bytes" "I") (by decide +kernel)) (fun _ h9 => h9) rfl dX8_putIn_51 ?_
    refine lv_iadd hx hb dX8_putIn_54 ?_
    obtain ⟨s12, e_s12⟩ : ∃ z, z = upI s11 135 0 ((sI s11 135 0) + (sI s11 82 a1)) := ⟨_, rfl⟩
    refine st_put (D := (dC, dI)) (ci := 8) (v := .int ((sI s11 135 0) + (sI s11 82 a1))) (ty := .int) (C := RX8) (T := TX8) (N := 11) (ws' := Wc cA ad n s12) hx hb hts iX8_putIn_8 tyX8 tyX8_ok nmX8 hown hK hP hD hS 0 atLq rfl 7 (by decide) (hts (.fieldLink RX8 46 "LinkQueues" "waitingBytes" "I") (by decide +kernel)) (fun _ h9 => h9) rfl (by decide +kernel) rfl rfl (Nat.le_of_ble_eq_true rfl) dX8_putIn_55 (by rw [e_s12]; exact stLq_7 ((sI s11 135 0) + (sI s11 82 a1))) (fun H locs hP hD hS => ?_)
    replace hwp := hwp s12 e_s12
    exact W.vret hx hb hr (fun t ht hW => ⟨⟨s12, rfl, hwp, by rw [ht]; exact hP, va_K.moved hW.alike hK, hD⟩, hS.F ht⟩) hS.2.2 dX8_putIn_58
  · replace hwp := hwp.2 c_10
    refine lv_aload_n hx hb dX8_putIn_13 rfl (lv_at hl 0 rfl) ?_
    refine va_get (D := (dC, dI)) (ci := 8) (v := .ref (ad 7 0)) (C := RX8) (T := TX8) (N := 11) hx hb hts iX8_putIn_8 hown hK hP 0 atLq rfl 1 (by decide) (hts (.fieldLink RX8 18 "LinkQueues" "turns" "LLinkQueues$Turns;") (by decide +kernel)) (fun _ h9 => h9) rfl dX8_putIn_14 ?_
    refine lv_aload_n hx hb dX8_putIn_17 rfl (lv_at hl 1 rfl) ?_
    refine va_get (D := (dC, dI)) (ci := 5) (v := va_re (ad 2) (sR σ 81 a1)) (C := RX5) (T := TX5) (N := 8) hx hb hts iX8_putIn_5 hown hK hP (31 + a1) (atPacket hb_1) rfl 1 (by decide) (hts (.fieldLink RX8 224 "LinkQueues$Packet" "owner" "LLinkQueues$Flow;") (by decide +kernel)) (fun _ h9 => h9) rfl dX8_putIn_18 ?_
    obtain ⟨b_13, ho_14, hwp⟩ := hwp
    rw [ho_14]
    have hF := fA hD hS hA
    refine va_callv (va_runV (As := [.ref (ad 2 b_13)]) (rest := []) ⟨hx, hb, hml, hown, hts⟩ (c_X7_join l dC dI cA ad n σ b_13 H.size _ hwp) (cwV 1 hts gX8_putIn_X7_join rfl rfl rfl (by decide +kernel) ⟨Nat.le_of_ble_eq_true rfl, Nat.le_of_ble_eq_true rfl⟩) ⟨fbC, va_recv hK hP (ci := 7) (q0 := 2) rfl atTurns, fun U hU hW => ⟨rfl, by rw [hU], by rw [hU]; exact hP, va_K.moved hW.alike hK, hD.weaken (fun _ _ _ _ => trivial)⟩⟩ rfl rfl hl.1 rfl (lv_room (Nat.le_of_ble_eq_true rfl)) dX8_putIn_21 ⟨Nat.le_of_ble_eq_true rfl, Nat.le_of_ble_eq_true rfl⟩) hS (fun q _ h => hF q h) hF (fun s15 t H1 locs ht hvm hwp hB hz1 hk1 hS => ?_)
    obtain ⟨hP1, hK1, hD1⟩ := hB
    rw [ht] at hP1
    have hD2 := hD1.weaken (fun _ q _ h => hF q.1 h)
    clear hP hD
    have hP := hP1
    have hD := hD2
    clear hP1 hD1 hD2 hK1 hk1 hz1 hF
    generalize H1 = H at hP hS ⊢
    refine lv_aload_n hx hb dX8_putIn_24 rfl (lv_at hl 1 rfl) ?_
    refine va_get (D := (dC, dI)) (ci := 5) (v := va_re (ad 2) (sR s15 81 a1)) (C := RX5) (T := TX5) (N := 8) hx hb hts iX8_putIn_5 hown hK hP (31 + a1) (atPacket hb_1) rfl 1 (by decide) (hts (.fieldLink RX8 224 "LinkQueues$Packet" "owner" "LLinkQueues$Flow;") (by decide +kernel)) (fun _ h9 => h9) rfl dX8_putIn_25 ?_
    obtain ⟨b_16, ho_17, hwp⟩ := hwp
    rw [ho_17]
    obtain ⟨hb_18, hwp⟩ := hwp
    refine va_get (D := (dC, dI)) (ci := 2) (v := .ref (ad 6 b_16)) (C := RX2) (T := TX2) (N := 15) hx hb hts iX8_putIn_2 hown hK hP (7 + b_16) (atFlow hb_18) rfl 1 (by decide) (hts (.fieldLink RX8 186 "LinkQueues$Flow" "queue" "LLinkQueues$Queue;") (by decide +kernel)) (fun _ h9 => h9) rfl dX8_putIn_28 ?_
    refine lv_aload_n hx hb dX8_putIn_31 rfl (lv_at hl 1 rfl) ?_
    obtain ⟨hb_20, hwp⟩ := hwp
    have hF := fA hD hS hA
    refine va_callv (va_runV (As := [.ref (ad 5 a1)]) (rest := []) ⟨hx, hb, hml, hown, hts⟩ (c_X6_add l dC dI cA ad n s15 b_16 a1 H.size _ hwp) (cwV 1 hts gX8_putIn_X6_add rfl rfl rfl (by decide +kernel) ⟨Nat.le_of_ble_eq_true rfl, Nat.le_of_ble_eq_true rfl⟩) ⟨fbC, va_recv hK hP (ci := 6) (q0 := (13 + b_16)) rfl (atQueue hb_20), fun U hU hW => ⟨rfl, by rw [hU], by rw [hU]; exact hP, va_K.moved hW.alike hK, hD.weaken (fun _ _ _ _ => trivial)⟩⟩ rfl rfl hl.1 rfl (lv_room (Nat.le_of_ble_eq_true rfl)) dX8_putIn_32 ⟨Nat.le_of_ble_eq_true rfl, Nat.le_of_ble_eq_true rfl⟩) hS (fun q _ h => hF q h) hF (fun s19 t H1 locs ht hvm hwp hB hz1 hk1 hS => ?_)
    obtain ⟨hP1, hK1, hD1⟩ := hB
    rw [ht] at hP1
    have hD2 := hD1.weaken (fun _ q _ h => hF q.1 h)
    clear hP hD
    have hP := hP1
    have hD := hD2
    clear hP1 hD1 hD2 hK1 hk1 hz1 hF
    generalize H1 = H at hP hS ⊢
    refine lv_aload_n hx hb dX8_putIn_35 rfl (lv_at hl 0 rfl) ?_
    refine lv_dup hx hb dX8_putIn_36 rfl ?_
    refine va_get (D := (dC, dI)) (ci := 8) (v := .int (sI s19 134 0)) (C := RX8) (T := TX8) (N := 11) hx hb hts iX8_putIn_8 hown hK hP 0 atLq rfl 6 (by decide) (hts (.fieldLink RX8 43 "LinkQueues" "waitingPackets" "I") (by decide +kernel)) (fun _ h9 => h9) rfl dX8_putIn_37 ?_
    refine lv_iconst (v := 1) hx hb dX8_putIn_40 (by decide) ?_
    refine lv_iadd hx hb dX8_putIn_41 ?_
    obtain ⟨s21, e_s21⟩ : ∃ z, z = upI s19 134 0 ((sI s19 134 0) + 1) := ⟨_, rfl⟩
    refine st_put (D := (dC, dI)) (ci := 8) (v := .int ((sI s19 134 0) + 1)) (ty := .int) (C := RX8) (T := TX8) (N := 11) (ws' := Wc cA ad n s21) hx hb hts iX8_putIn_8 tyX8 tyX8_ok nmX8 hown hK hP hD hS 0 atLq rfl 6 (by decide) (hts (.fieldLink RX8 43 "LinkQueues" "waitingPackets" "I") (by decide +kernel)) (fun _ h9 => h9) rfl (by decide +kernel) rfl rfl (Nat.le_of_ble_eq_true rfl) dX8_putIn_42 (by rw [e_s21]; exact stLq_6 ((sI s19 134 0) + 1)) (fun H locs hP hD hS => ?_)
    replace hwp := hwp s21 e_s21
    refine lv_aload_n hx hb dX8_putIn_45 rfl (lv_at hl 0 rfl) ?_
    refine lv_dup hx hb dX8_putIn_46 rfl ?_
    refine va_get (D := (dC, dI)) (ci := 8) (v := .int (sI s21 135 0)) (C := RX8) (T := TX8) (N := 11) hx hb hts iX8_putIn_8 hown hK hP 0 atLq rfl 7 (by decide) (hts (.fieldLink RX8 46 "LinkQueues" "waitingBytes" "I") (by decide +kernel)) (fun _ h9 => h9) rfl dX8_putIn_47 ?_
    refine lv_aload_n hx hb dX8_putIn_50 rfl (lv_at hl 1 rfl) ?_
    refine va_get (D := (dC, dI)) (ci := 5) (v := .int (sI s21 82 a1)) (C := RX5) (T := TX5) (N := 8) hx hb hts iX8_putIn_5 hown hK hP (31 + a1) (atPacket hb_1) rfl 2 (by decide) (hts (.fieldLink RX8 231 "LinkQueues$Packet" "bytes" "I") (by decide +kernel)) (fun _ h9 => h9) rfl dX8_putIn_51 ?_
    refine lv_iadd hx hb dX8_putIn_54 ?_
    obtain ⟨s22, e_s22⟩ : ∃ z, z = upI s21 135 0 ((sI s21 135 0) + (sI s21 82 a1)) := ⟨_, rfl⟩
    refine st_put (D := (dC, dI)) (ci := 8) (v := .int ((sI s21 135 0) + (sI s21 82 a1))) (ty := .int) (C := RX8) (T := TX8) (N := 11) (ws' := Wc cA ad n s22) hx hb hts iX8_putIn_8 tyX8 tyX8_ok nmX8 hown hK hP hD hS 0 atLq rfl 7 (by decide) (hts (.fieldLink RX8 46 "LinkQueues" "waitingBytes" "I") (by decide +kernel)) (fun _ h9 => h9) rfl (by decide +kernel) rfl rfl (Nat.le_of_ble_eq_true rfl) dX8_putIn_55 (by rw [e_s22]; exact stLq_7 ((sI s21 135 0) + (sI s21 82 a1))) (fun H locs hP hD hS => ?_)
    replace hwp := hwp s22 e_s22
    exact W.vret hx hb hr (fun t ht hW => ⟨⟨s22, rfl, hwp, by rw [ht]; exact hP, va_K.moved hW.alike hK, hD⟩, hS.F ht⟩) hS.2.2 dX8_putIn_58
def wp_X8_send (n : Nat) (σ : ST) (a1 : Nat) (K : ST → Prop) : Prop := a1 < n ∧
∃ b_2, (sR σ 81 a1) = some b_2 ∧
b_2 < 6 ∧
∀ s5, s5 = upI σ 41 b_2 ((sI σ 41 b_2) + 1) →
∃ b_6, (sR s5 81 a1) = some b_6 ∧
b_6 < 6 ∧
∀ s9, s9 = upI s5 42 b_6 ((sI s5 42 b_6) + (sI s5 82 a1)) →
wp_X4_add n s9 a1 (fun s10 =>
vf_n64 (FP.ddiv (FP.i2d (sI s10 82 a1)) (sD s10 137 0)) ∧
vf_n64 (FP.dadd (sD s10 138 0) (FP.ddiv (FP.i2d (sI s10 82 a1)) (sD s10 137 0))) ∧
∀ s11, s11 = upD s10 138 0 (FP.dadd (sD s10 138 0) (FP.ddiv (FP.i2d (sI s10 82 a1)) (sD s10 137 0))) →
K s11
)
set_option maxRecDepth 20000 in
theorem iX8_send_5 : ∀ w ∈ wsX50, w ∈ wsX8_send := by decide +kernel
set_option maxRecDepth 20000 in
theorem iX8_send_2 : ∀ w ∈ wsX20, w ∈ wsX8_send := by decide +kernel
set_option maxRecDepth 20000 in
theorem iX8_send_8 : ∀ w ∈ wsX80, w ∈ wsX8_send := by decide +kernel
set_option maxHeartbeats 8000000 in
set_option maxRecDepth 100000 in
theorem c_X8_send (l : Launch) (dC : Nat → ClassId) (dI : Nat → Nat → Nat) (cA : Nat → ClassId) (ad : Nat → Nat → Nat) (n : Nat) (σ : ST) (a1 : Nat) (sz : Nat) (K : ST → Prop) (hwp : wp_X8_send n σ a1 K) : Met l yX8_send wsX8_send ({ frames := 2, cells := 0, slots := 0, locals := 41 } : Room) (va_Pc [.ref (ad 8 0), .ref (ad 5 a1)] (preC dC dI cA (Wc cA ad n σ) sz)) (va_Qv K (atC dC dI cA (Wc cA ad n) (va_A (Wc cA ad n σ) sz)) (va_A (Wc cA ad n σ) sz)) 0 0 (va_A (Wc cA ad n σ) sz) := by
  refine Met.ofW (cc := cX8_send) (maxL := 2) (ret := none) (by decide) rfl ?_
  intro p e s m args below meth c s₁ B hml hv
  obtain ⟨rfl, hsz, hP, hK, hD0⟩ := hv
  have hx := B.exec
  have hb := B.bytes
  have hr := B.returns
  have hts := atoms_spec (ws := wsX8_send) B.pre
  have hown : s.vm.findClass RX8 = some m.cls := findClass_of_methodNamed B.named
  have hlocks := B.notSynchronized
  subst hsz
  have hD := hD0.self (sz := s.heap.size)
  clear hD0
  generalize hAe : va_A (Wc cA ad n σ) s.heap.size = A at hD ⊢
  have hA : ∀ q : Nat, s.heap.size ≤ q → A q := fun q h => by rw [← hAe]; exact Or.inr h
  have hS : va_S A s.heap s.heap [] := va_S.rf
  have hkc : 0 ≤ 0 := Nat.le_refl 0
  have hks : 0 ≤ 0 := Nat.le_refl 0
  have hl := lv_entry ([.ref (ad 8 0), .ref (ad 5 a1)]) (n := 2) (Nat.le_of_ble_eq_true rfl)
  rw [lg_entry_eq]
  generalize (lg_sl ([.ref (ad 8 0), .ref (ad 5 a1)]) ++ List.replicate (2 - (lg_sl ([.ref (ad 8 0), .ref (ad 5 a1)])).length) Slot.unset).toArray = ls at hl ⊢
  have hl : lv_has ls 2 [(0, .ref (ad 8 0)), (1, .ref (ad 5 a1))] := hl
  unfold wp_X8_send at hwp
  generalize hHe : s.heap = H at hP ⊢
  have hS : va_S A s.heap H [] := by rw [← hHe]; exact va_S.rf
  clear hHe
  refine lv_aload_n hx hb dX8_send_0 rfl (lv_at hl 1 rfl) ?_
  obtain ⟨hb_1, hwp⟩ := hwp
  refine va_get (D := (dC, dI)) (ci := 5) (v := va_re (ad 2) (sR σ 81 a1)) (C := RX5) (T := TX5) (N := 8) hx hb hts iX8_send_5 hown hK hP (31 + a1) (atPacket hb_1) rfl 1 (by decide) (hts (.fieldLink RX8 224 "LinkQueues$Packet" "owner" "LLinkQueues$Flow;") (by decide +kernel)) (fun _ h9 => h9) rfl dX8_send_1 ?_
  refine lv_dup hx hb dX8_send_4 (cat_re _ _) ?_
  obtain ⟨b_2, ho_3, hwp⟩ := hwp
  rw [ho_3]
  obtain ⟨hb_4, hwp⟩ := hwp
  refine va_get (D := (dC, dI)) (ci := 2) (v := .int (sI σ 41 b_2)) (C := RX2) (T := TX2) (N := 15) hx hb hts iX8_send_2 hown hK hP (7 + b_2) (atFlow hb_4) rfl 9 (by decide) (hts (.fieldLink RX8 177 "LinkQueues$Flow" "sent" "I") (by decide +kernel)) (fun _ h9 => h9) rfl dX8_send_5 ?_
  refine lv_iconst (v := 1) hx hb dX8_send_8 (by decide) ?_
  refine lv_iadd hx hb dX8_send_9 ?_
  obtain ⟨s5, e_s5⟩ : ∃ z, z = upI σ 41 b_2 ((sI σ 41 b_2) + 1) := ⟨_, rfl⟩
  refine st_put (D := (dC, dI)) (ci := 2) (v := .int ((sI σ 41 b_2) + 1)) (ty := .int) (C := RX2) (T := TX2) (N := 15) (ws' := Wc cA ad n s5) hx hb hts iX8_send_2 tyX2 tyX2_ok nmX2 hown hK hP hD hS (7 + b_2) (atFlow hb_4) rfl 9 (by decide) (hts (.fieldLink RX8 177 "LinkQueues$Flow" "sent" "I") (by decide +kernel)) (fun _ h9 => h9) rfl (by decide +kernel) rfl rfl (Nat.le_of_ble_eq_true rfl) dX8_send_10 (by rw [e_s5]; exact stFlow_9 hb_4 ((sI σ 41 b_2) + 1)) (fun H locs hP hD hS => ?_)
  replace hwp := hwp s5 e_s5
  refine lv_aload_n hx hb dX8_send_13 rfl (lv_at hl 1 rfl) ?_
  refine va_get (D := (dC, dI)) (ci := 5) (v := va_re (ad 2) (sR s5 81 a1)) (C := RX5) (T := TX5) (N := 8) hx hb hts iX8_send_5 hown hK hP (31 + a1) (atPacket hb_1) rfl 1 (by decide) (hts (.fieldLink RX8 224 "LinkQueues$Packet" "owner" "LLinkQueues$Flow;") (by decide +kernel)) (fun _ h9 => h9) rfl dX8_send_14 ?_
  refine lv_dup hx hb dX8_send_17 (cat_re _ _) ?_
  obtain ⟨b_6, ho_7, hwp⟩ := hwp
  rw [ho_7]
  obtain ⟨hb_8, hwp⟩ := hwp
  refine va_get (D := (dC, dI)) (ci := 2) (v := .int (sI s5 42 b_6)) (C := RX2) (T := TX2) (N := 15) hx hb hts iX8_send_2 hown hK hP (7 + b_6) (atFlow hb_8) rfl 10 (by decide) (hts (.fieldLink RX8 198 "LinkQueues$Flow" "sentBytes" "I") (by decide +kernel)) (fun _ h9 => h9) rfl dX8_send_18 ?_
  refine lv_aload_n hx hb dX8_send_21 rfl (lv_at hl 1 rfl) ?_
  refine va_get (D := (dC, dI)) (ci := 5) (v := .int (sI s5 82 a1)) (C := RX5) (T := TX5) (N := 8) hx hb hts iX8_send_5 hown hK hP (31 + a1) (atPacket hb_1) rfl 2 (by decide) (hts (.fieldLink RX8 231 "LinkQueues$Packet" "bytes" "I") (by decide +kernel)) (fun _ h9 => h9) rfl dX8_send_22 ?_
  refine lv_iadd hx hb dX8_send_25 ?_
  obtain ⟨s9, e_s9⟩ : ∃ z, z = upI s5 42 b_6 ((sI s5 42 b_6) + (sI s5 82 a1)) := ⟨_, rfl⟩
  refine st_put (D := (dC, dI)) (ci := 2) (v := .int ((sI s5 42 b_6) + (sI s5 82 a1))) (ty := .int) (C := RX2) (T := TX2) (N := 15) (ws' := Wc cA ad n s9) hx hb hts iX8_send_2 tyX2 tyX2_ok nmX2 hown hK hP hD hS (7 + b_6) (atFlow hb_8) rfl 10 (by decide) (hts (.fieldLink RX8 198 "LinkQueues$Flow" "sentBytes" "I") (by decide +kernel)) (fun _ h9 => h9) rfl (by decide +kernel) rfl rfl (Nat.le_of_ble_eq_true rfl) dX8_send_26 (by rw [e_s9]; exact stFlow_10 hb_8 ((sI s5 42 b_6) + (sI s5 82 a1))) (fun H locs hP hD hS => ?_)
  replace hwp := hwp s9 e_s9
  refine lv_aload_n hx hb dX8_send_29 rfl (lv_at hl 0 rfl) ?_
  refine va_get (D := (dC, dI)) (ci := 8) (v := .ref (ad 4 0)) (C := RX8) (T := TX8) (N := 11) hx hb hts iX8_send_8 hown hK hP 0 atLq rfl 3 (by decide) (hts (.fieldLink RX8 32 "LinkQueues" "outlog" "LLinkQueues$Outlog;") (by decide +kernel)) (fun _ h9 => h9) rfl dX8_send_30 ?_
  refine lv_aload_n hx hb dX8_send_33 rfl (lv_at hl 1 rfl) ?_
  have hF := fA hD hS hA
  refine va_callv (va_runV (As := [.ref (ad 5 a1)]) (rest := []) ⟨hx, hb, hml, hown, hts⟩ (c_X4_add l dC dI cA ad n s9 a1 H.size _ hwp) (cwV 1 hts gX8_send_X4_add rfl rfl rfl (by decide +kernel) ⟨Nat.le_of_ble_eq_true rfl, Nat.le_of_ble_eq_true rfl⟩) ⟨fbC, va_recv hK hP (ci := 4) (q0 := 5) rfl atOutlog, fun U hU hW => ⟨rfl, by rw [hU], by rw [hU]; exact hP, va_K.moved hW.alike hK, hD.weaken (fun _ _ _ _ => trivial)⟩⟩ rfl rfl hl.1 rfl (lv_room (Nat.le_of_ble_eq_true rfl)) dX8_send_34 ⟨Nat.le_of_ble_eq_true rfl, Nat.le_of_ble_eq_true rfl⟩) hS (fun q _ h => hF q h) hF (fun s10 t H1 locs ht hvm hwp hB hz1 hk1 hS => ?_)
  obtain ⟨hP1, hK1, hD1⟩ := hB
  rw [ht] at hP1
  have hD2 := hD1.weaken (fun _ q _ h => hF q.1 h)
  clear hP hD
  have hP := hP1
  have hD := hD2
  clear hP1 hD1 hD2 hK1 hk1 hz1 hF
  generalize H1 = H at hP hS ⊢
  refine lv_aload_n hx hb dX8_send_37 rfl (lv_at hl 0 rfl) ?_
  refine lv_aload_n hx hb dX8_send_38 rfl (lv_at hl 0 rfl) ?_
  refine va_get (D := (dC, dI)) (ci := 8) (v := .double (sD s10 138 0)) (C := RX8) (T := TX8) (N := 11) hx hb hts iX8_send_8 hown hK hP 0 atLq rfl 10 (by decide) (hts (.fieldLink RX8 59 "LinkQueues" "freeFrom" "D") (by decide +kernel)) (fun _ h9 => h9) rfl dX8_send_39 ?_
  refine lv_aload_n hx hb dX8_send_42 rfl (lv_at hl 1 rfl) ?_
  refine va_get (D := (dC, dI)) (ci := 5) (v := .int (sI s10 82 a1)) (C := RX5) (T := TX5) (N := 8) hx hb hts iX8_send_5 hown hK hP (31 + a1) (atPacket hb_1) rfl 2 (by decide) (hts (.fieldLink RX8 231 "LinkQueues$Packet" "bytes" "I") (by decide +kernel)) (fun _ h9 => h9) rfl dX8_send_43 ?_
  refine lv_i2d hx hb dX8_send_46 ?_
  refine lv_aload_n hx hb dX8_send_47 rfl (lv_at hl 0 rfl) ?_
  refine va_get (D := (dC, dI)) (ci := 8) (v := .double (sD s10 137 0)) (C := RX8) (T := TX8) (N := 11) hx hb hts iX8_send_8 hown hK hP 0 atLq rfl 9 (by decide) (hts (.fieldLink RX8 55 "LinkQueues" "rate" "D") (by decide +kernel)) (fun _ h9 => h9) rfl dX8_send_48 ?_
  refine lv_ddiv hx hb dX8_send_51 hwp.1 ?_
  replace hwp := hwp.2
  refine lv_dadd hx hb dX8_send_52 hwp.1 ?_
  replace hwp := hwp.2
  obtain ⟨s11, e_s11⟩ : ∃ z, z = upD s10 138 0 (FP.dadd (sD s10 138 0) (FP.ddiv (FP.i2d (sI s10 82 a1)) (sD s10 137 0))) := ⟨_, rfl⟩
  refine st_put (D := (dC, dI)) (ci := 8) (v := .double (FP.dadd (sD s10 138 0) (FP.ddiv (FP.i2d (sI s10 82 a1)) (sD s10 137 0)))) (ty := .double) (C := RX8) (T := TX8) (N := 11) (ws' := Wc cA ad n s11) hx hb hts iX8_send_8 tyX8 tyX8_ok nmX8 hown hK hP hD hS 0 atLq rfl 10 (by decide) (hts (.fieldLink RX8 59 "LinkQueues" "freeFrom" "D") (by decide +kernel)) (fun _ h9 => h9) rfl (by decide +kernel) rfl rfl (Nat.le_of_ble_eq_true rfl) dX8_send_53 (by rw [e_s11]; exact stLq_10 (FP.dadd (sD s10 138 0) (FP.ddiv (FP.i2d (sI s10 82 a1)) (sD s10 137 0)))) (fun H locs hP hD hS => ?_)
  replace hwp := hwp s11 e_s11
  exact W.vret hx hb hr (fun t ht hW => ⟨⟨s11, rfl, hwp, by rw [ht]; exact hP, va_K.moved hW.alike hK, hD⟩, hS.F ht⟩) hS.2.2 dX8_send_56
def wp_X8_lookAt (n : Nat) (σ : ST) (a1 : Nat) (K : Option Nat → ST → Prop) : Prop := wp_X7_begin n σ (fun s1 =>
a1 < 6 ∧
a1 < 6 ∧
(((sR s1 96 a1) = none → (wp_X7_passOn n s1 (fun s6 =>
K none s6
))) ∧ (∀ b_4, (sR s1 96 a1) = some b_4 → (b_4 < n ∧
(((sI s1 82 b_4) ≤ (sI s1 38 a1) → (wp_X8_takeOut n s1 b_4 (fun s8 =>
wp_X2_letsOut n s8 a1 b_4 (sI s8 132 0) (fun r10 s9 =>
((r10 = 0 → (∀ s11, s11 = upI s9 45 a1 ((sI s9 45 a1) + 1) →
((¬ (sI s11 98 a1) = 0 → (((r10 = 0 → (K none s11)) ∧ (¬ (r10 = 0) → (K (some b_4) s11))))) ∧ ((sI s11 98 a1) = 0 → (wp_X7_leave n s11 (fun s12 =>
a1 < 6 ∧
∀ s14, s14 = upI s12 54 a1 (sI s12 132 0) →
((r10 = 0 → (K none s14)) ∧ (¬ (r10 = 0) → (K (some b_4) s14)))
)))))) ∧ (¬ (r10 = 0) → (∀ s15, s15 = upI s9 38 a1 ((sI s9 38 a1) - (sI s9 82 b_4)) →
((¬ (sI s15 98 a1) = 0 → (((r10 = 0 → (K none s15)) ∧ (¬ (r10 = 0) → (K (some b_4) s15))))) ∧ ((sI s15 98 a1) = 0 → (wp_X7_leave n s15 (fun s16 =>
a1 < 6 ∧
∀ s18, s18 = upI s16 54 a1 (sI s16 132 0) →
((r10 = 0 → (K none s18)) ∧ (¬ (r10 = 0) → (K (some b_4) s18)))
)))))))
)
))) ∧ (¬ ((sI s1 82 b_4) ≤ (sI s1 38 a1)) → (wp_X7_passOn n s1 (fun s19 =>
K none s19
)))))))
)
set_option maxRecDepth 20000 in
theorem iX8_lookAt_8 : ∀ w ∈ wsX80, w ∈ wsX8_lookAt := by decide +kernel
set_option maxRecDepth 20000 in
theorem iX8_lookAt_2 : ∀ w ∈ wsX20, w ∈ wsX8_lookAt := by decide +kernel
set_option maxRecDepth 20000 in
theorem iX8_lookAt_6 : ∀ w ∈ wsX60, w ∈ wsX8_lookAt := by decide +kernel
set_option maxRecDepth 20000 in
theorem iX8_lookAt_5 : ∀ w ∈ wsX50, w ∈ wsX8_lookAt := by decide +kernel
set_option maxRecDepth 20000 in
theorem iX8_lookAt_3 : ∀ w ∈ wsX30, w ∈ wsX8_lookAt := by decide +kernel
set_option maxHeartbeats 8000000 in
set_option maxRecDepth 100000 in
theorem c_X8_lookAt (l : Launch) (dC : Nat → ClassId) (dI : Nat → Nat → Nat) (cA : Nat → ClassId) (ad : Nat → Nat → Nat) (n : Nat) (σ : ST) (a1 : Nat) (sz : Nat) (K : Option Nat → ST → Prop) (hwp : wp_X8_lookAt n σ a1 K) : Met l yX8_lookAt wsX8_lookAt ({ frames := 3, cells := 0, slots := 0, locals := 68 } : Room) (va_Pc [.ref (ad 8 0), .ref (ad 2 a1)] (preC dC dI cA (Wc cA ad n σ) sz)) (va_Qe (ad 5) K (atC dC dI cA (Wc cA ad n) (va_A (Wc cA ad n σ) sz)) (va_A (Wc cA ad n σ) sz)) 0 0 (va_A (Wc cA ad n σ) sz) := by
  refine Met.ofW (cc := cX8_lookAt) (maxL := 4) (ret := (some (.object "LinkQueues$Packet"))) (by decide) rfl ?_
  intro p e s m args below meth c s₁ B hml hv
  obtain ⟨rfl, hsz, hP, hK, hD0⟩ := hv
  have hx := B.exec
  have hb := B.bytes
  have hr := B.returns
  have hts := atoms_spec (ws := wsX8_lookAt) B.pre
  have hown : s.vm.findClass RX8 = some m.cls := findClass_of_methodNamed B.named
  have hlocks := B.notSynchronized
  subst hsz
  have hD := hD0.self (sz := s.heap.size)
  clear hD0
  generalize hAe : va_A (Wc cA ad n σ) s.heap.size = A at hD ⊢
  have hA : ∀ q : Nat, s.heap.size ≤ q → A q := fun q h => by rw [← hAe]; exact Or.inr h
  have hS : va_S A s.heap s.heap [] := va_S.rf
  have hkc : 0 ≤ 0 := Nat.le_refl 0
  have hks : 0 ≤ 0 := Nat.le_refl 0
  have hl := lv_entry ([.ref (ad 8 0), .ref (ad 2 a1)]) (n := 4) (Nat.le_of_ble_eq_true rfl)
  rw [lg_entry_eq]
  generalize (lg_sl ([.ref (ad 8 0), .ref (ad 2 a1)]) ++ List.replicate (4 - (lg_sl ([.ref (ad 8 0), .ref (ad 2 a1)])).length) Slot.unset).toArray = ls at hl ⊢
  have hl : lv_has ls 4 [(0, .ref (ad 8 0)), (1, .ref (ad 2 a1))] := hl
  unfold wp_X8_lookAt at hwp
  generalize hHe : s.heap = H at hP ⊢
  have hS : va_S A s.heap H [] := by rw [← hHe]; exact va_S.rf
  clear hHe
  refine lv_aload_n hx hb dX8_lookAt_0 rfl (lv_at hl 0 rfl) ?_
  refine va_get (D := (dC, dI)) (ci := 8) (v := .ref (ad 7 0)) (C := RX8) (T := TX8) (N := 11) hx hb hts iX8_lookAt_8 hown hK hP 0 atLq rfl 1 (by decide) (hts (.fieldLink RX8 18 "LinkQueues" "turns" "LLinkQueues$Turns;") (by decide +kernel)) (fun _ h9 => h9) rfl dX8_lookAt_1 ?_
  have hF := fA hD hS hA
  refine va_callv (va_runV (As := []) (rest := []) ⟨hx, hb, hml, hown, hts⟩ (c_X7_begin l dC dI cA ad n σ H.size _ hwp) (cwV 0 hts gX8_lookAt_X7_begin rfl rfl rfl (by decide +kernel) ⟨Nat.le_of_ble_eq_true rfl, Nat.le_of_ble_eq_true rfl⟩) ⟨fbC, va_recv hK hP (ci := 7) (q0 := 2) rfl atTurns, fun U hU hW => ⟨rfl, by rw [hU], by rw [hU]; exact hP, va_K.moved hW.alike hK, hD.weaken (fun _ _ _ _ => trivial)⟩⟩ rfl rfl hl.1 rfl (lv_room (Nat.le_of_ble_eq_true rfl)) dX8_lookAt_4 ⟨Nat.le_of_ble_eq_true rfl, Nat.le_of_ble_eq_true rfl⟩) hS (fun q _ h => hF q h) hF (fun s1 t H1 locs ht hvm hwp hB hz1 hk1 hS => ?_)
  obtain ⟨hP1, hK1, hD1⟩ := hB
  rw [ht] at hP1
  have hD2 := hD1.weaken (fun _ q _ h => hF q.1 h)
  clear hP hD
  have hP := hP1
  have hD := hD2
  clear hP1 hD1 hD2 hK1 hk1 hz1 hF
  generalize H1 = H at hP hS ⊢
  refine lv_aload_n hx hb dX8_lookAt_7 rfl (lv_at hl 1 rfl) ?_
  obtain ⟨hb_2, hwp⟩ := hwp
  refine va_get (D := (dC, dI)) (ci := 2) (v := .ref (ad 6 a1)) (C := RX2) (T := TX2) (N := 15) hx hb hts iX8_lookAt_2 hown hK hP (7 + a1) (atFlow hb_2) rfl 1 (by decide) (hts (.fieldLink RX8 186 "LinkQueues$Flow" "queue" "LLinkQueues$Queue;") (by decide +kernel)) (fun _ h9 => h9) rfl dX8_lookAt_8 ?_
  obtain ⟨hb_3, hwp⟩ := hwp
  refine va_get (D := (dC, dI)) (ci := 6) (v := va_re (ad 5) (sR s1 96 a1)) (C := RX6) (T := TX6) (N := 4) hx hb hts iX8_lookAt_6 hown hK hP (13 + a1) (atQueue hb_3) rfl 0 (by decide) (hts (.fieldLink RX8 261 "LinkQueues$Queue" "first" "LLinkQueues$Packet;") (by decide +kernel)) (fun _ h9 => h9) rfl dX8_lookAt_11 ?_
  refine q_astore_n (lv' := [(2, va_re (ad 5) (sR s1 96 a1)), (0, .ref (ad 8 0)), (1, .ref (ad 2 a1))]) hx hb dX8_lookAt_14 rfl hl (by decide) rfl (fun ls hl => ?_)
  refine q_aload_n hx hb dX8_lookAt_15 rfl (lv_at hl 0 rfl) ?_
  refine q_ifnull (tgt := 30) hx hb dX8_lookAt_16 (by decide) (fun ho_5 => ?_) (fun b_4 ho_5 => ?_)
  · replace hwp := hwp.1 ho_5
    have hl : lv_has ls 4 [(2, .null), (0, .ref (ad 8 0)), (1, .ref (ad 2 a1))] := by rw [ho_5] at hl; exact hl
    refine lv_aload_n hx hb dX8_lookAt_30 rfl (lv_at hl 1 rfl) ?_
    refine va_get (D := (dC, dI)) (ci := 8) (v := .ref (ad 7 0)) (C := RX8) (T := TX8) (N := 11) hx hb hts iX8_lookAt_8 hown hK hP 0 atLq rfl 1 (by decide) (hts (.fieldLink RX8 18 "LinkQueues" "turns" "LLinkQueues$Turns;") (by decide +kernel)) (fun _ h9 => h9) rfl dX8_lookAt_31 ?_
    have hF := fA hD hS hA
    refine va_callv (va_runV (As := []) (rest := []) ⟨hx, hb, hml, hown, hts⟩ (c_X7_passOn l dC dI cA ad n s1 H.size _ hwp) (cwV 0 hts gX8_lookAt_X7_passOn rfl rfl rfl (by decide +kernel) ⟨Nat.le_of_ble_eq_true rfl, Nat.le_of_ble_eq_true rfl⟩) ⟨fbC, va_recv hK hP (ci := 7) (q0 := 2) rfl atTurns, fun U hU hW => ⟨rfl, by rw [hU], by rw [hU]; exact hP, va_K.moved hW.alike hK, hD.weaken (fun _ _ _ _ => trivial)⟩⟩ rfl rfl hl.1 rfl (lv_room (Nat.le_of_ble_eq_true rfl)) dX8_lookAt_34 ⟨Nat.le_of_ble_eq_true rfl, Nat.le_of_ble_eq_true rfl⟩) hS (fun q _ h => hF q h) hF (fun s6 t H1 locs ht hvm hwp hB hz1 hk1 hS => ?_)
    obtain ⟨hP1, hK1, hD1⟩ := hB
    rw [ht] at hP1
    have hD2 := hD1.weaken (fun _ q _ h => hF q.1 h)
    clear hP hD
    have hP := hP1
    have hD := hD2
    clear hP1 hD1 hD2 hK1 hk1 hz1 hF
    generalize H1 = H at hP hS ⊢
    refine lv_null hx hb dX8_lookAt_37 ?_
    exact q_aret (n := "LinkQueues$Packet") (ad := ad 5) (o := none) hx hb hr (fun t ht hW => ⟨⟨none, s6, rfl, hwp, by rw [ht]; exact hP, va_K.moved hW.alike hK, hD⟩, hS.F ht⟩) hS.2.2 dX8_lookAt_38 hlocks
  · replace hwp := hwp.2 b_4 ho_5
    have hl : lv_has ls 4 [(2, .ref (ad 5 b_4)), (0, .ref (ad 8 0)), (1, .ref (ad 2 a1))] := by rw [ho_5] at hl; exact hl
    refine lv_aload_n hx hb dX8_lookAt_19 rfl (lv_at hl 0 rfl) ?_
    obtain ⟨hb_7, hwp⟩ := hwp
    refine va_get (D := (dC, dI)) (ci := 5) (v := .int (sI s1 82 b_4)) (C := RX5) (T := TX5) (N := 8) hx hb hts iX8_lookAt_5 hown hK hP (31 + b_4) (atPacket hb_7) rfl 2 (by decide) (hts (.fieldLink RX8 231 "LinkQueues$Packet" "bytes" "I") (by decide +kernel)) (fun _ h9 => h9) rfl dX8_lookAt_20 ?_
    refine lv_aload_n hx hb dX8_lookAt_23 rfl (lv_at hl 2 rfl) ?_
    refine va_get (D := (dC, dI)) (ci := 2) (v := .int (sI s1 38 a1)) (C := RX2) (T := TX2) (N := 15) hx hb hts iX8_lookAt_2 hown hK hP (7 + a1) (atFlow hb_2) rfl 6 (by decide) (hts (.fieldLink RX8 201 "LinkQueues$Flow" "deficit" "I") (by decide +kernel)) (fun _ h9 => h9) rfl dX8_lookAt_24 ?_
    refine lv_icmp_le (tgt := 39) hx hb dX8_lookAt_27 (by decide) (fun c_27 => ?_) (fun c_27 => ?_)
    · replace hwp := hwp.1 c_27
      refine lv_aload_n hx hb dX8_lookAt_39 rfl (lv_at hl 1 rfl) ?_
      refine lv_aload_n hx hb dX8_lookAt_40 rfl (lv_at hl 0 rfl) ?_
      have hF := fA hD hS hA
      refine va_callv (va_runV (As := [.ref (ad 5 b_4)]) (rest := []) ⟨hx, hb, hml, hown, hts⟩ (c_X8_takeOut l dC dI cA ad n s1 b_4 H.size _ hwp) (cwV 1 hts gX8_lookAt_X8_takeOut rfl rfl rfl (by decide +kernel) ⟨Nat.le_of_ble_eq_true rfl, Nat.le_of_ble_eq_true rfl⟩) ⟨fbC, va_recv hK hP (ci := 8) (q0 := 0) rfl atLq, fun U hU hW => ⟨rfl, by rw [hU], by rw [hU]; exact hP, va_K.moved hW.alike hK, hD.weaken (fun _ _ _ _ => trivial)⟩⟩ rfl rfl hl.1 rfl (lv_room (Nat.le_of_ble_eq_true rfl)) dX8_lookAt_41 ⟨Nat.le_of_ble_eq_true rfl, Nat.le_of_ble_eq_true rfl⟩) hS (fun q _ h => hF q h) hF (fun s8 t H1 locs ht hvm hwp hB hz1 hk1 hS => ?_)
      obtain ⟨hP1, hK1, hD1⟩ := hB
      rw [ht] at hP1
      have hD2 := hD1.weaken (fun _ q _ h => hF q.1 h)
      clear hP hD
      have hP := hP1
      have hD := hD2
      clear hP1 hD1 hD2 hK1 hk1 hz1 hF
      generalize H1 = H at hP hS ⊢
      refine lv_aload_n hx hb dX8_lookAt_44 rfl (lv_at hl 2 rfl) ?_
      refine lv_aload_n hx hb dX8_lookAt_45 rfl (lv_at hl 0 rfl) ?_
      refine lv_aload_n hx hb dX8_lookAt_46 rfl (lv_at hl 1 rfl) ?_
      refine va_get (D := (dC, dI)) (ci := 8) (v := .int (sI s8 132 0)) (C := RX8) (T := TX8) (N := 11) hx hb hts iX8_lookAt_8 hown hK hP 0 atLq rfl 4 (by decide) (hts (.fieldLink RX8 36 "LinkQueues" "now" "I") (by decide +kernel)) (fun _ h9 => h9) rfl dX8_lookAt_47 ?_
      have hF := fA hD hS hA
      refine va_calli (va_runV (As := [.ref (ad 5 b_4), .int (sI s8 132 0)]) (rest := []) ⟨hx, hb, hml, hown, hts⟩ (c_X2_letsOut l dC dI cA ad n s8 a1 b_4 (sI s8 132 0) H.size _ hwp) (cwV 2 hts gX8_lookAt_X2_letsOut rfl rfl rfl (by decide +kernel) ⟨Nat.le_of_ble_eq_true rfl, Nat.le_of_ble_eq_true rfl⟩) ⟨fbC, va_recv hK hP (ci := 2) (q0 := (7 + a1)) rfl (atFlow hb_2), fun U hU hW => ⟨rfl, by rw [hU], by rw [hU]; exact hP, va_K.moved hW.alike hK, hD.weaken (fun _ _ _ _ => trivial)⟩⟩ rfl rfl hl.1 rfl (lv_room (Nat.le_of_ble_eq_true rfl)) dX8_lookAt_50 ⟨Nat.le_of_ble_eq_true rfl, Nat.le_of_ble_eq_true rfl⟩) hS (fun q _ h => hF q h) hF (fun r10 s9 t H1 locs ht hvm hwp hB hz1 hk1 hS => ?_)
      obtain ⟨hP1, hK1, hD1⟩ := hB
      rw [ht] at hP1
      have hD2 := hD1.weaken (fun _ q _ h => hF q.1 h)
      clear hP hD
      have hP := hP1
      have hD := hD2
      clear hP1 hD1 hD2 hK1 hk1 hz1 hF
      generalize H1 = H at hP hS ⊢
      refine lv_istore_n (lv' := [(3, .int r10), (2, .ref (ad 5 b_4)), (0, .ref (ad 8 0)), (1, .ref (ad 2 a1))]) hx hb dX8_lookAt_53 rfl hl (by decide) rfl (fun ls hl => ?_)
      refine lv_iload_n hx hb dX8_lookAt_54 rfl (lv_at hl 0 rfl) ?_
      refine lv_if_eq (tgt := 74) hx hb dX8_lookAt_55 (by decide) (fun c_55 => ?_) (fun c_55 => ?_)
      · replace hwp := hwp.1 c_55
        refine lv_aload_n hx hb dX8_lookAt_74 rfl (lv_at hl 3 rfl) ?_
        refine lv_dup hx hb dX8_lookAt_75 rfl ?_
        refine va_get (D := (dC, dI)) (ci := 2) (v := .int (sI s9 45 a1)) (C := RX2) (T := TX2) (N := 15) hx hb hts iX8_lookAt_2 hown hK hP (7 + a1) (atFlow hb_2) rfl 13 (by decide) (hts (.fieldLink RX8 180 "LinkQueues$Flow" "lostDelay" "I") (by decide +kernel)) (fun _ h9 => h9) rfl dX8_lookAt_76 ?_
        refine lv_iconst (v := 1) hx hb dX8_lookAt_79 (by decide) ?_
        refine lv_iadd hx hb dX8_lookAt_80 ?_
        obtain ⟨s11, e_s11⟩ : ∃ z, z = upI s9 45 a1 ((sI s9 45 a1) + 1) := ⟨_, rfl⟩
        refine st_put (D := (dC, dI)) (ci := 2) (v := .int ((sI s9 45 a1) + 1)) (ty := .int) (C := RX2) (T := TX2) (N := 15) (ws' := Wc cA ad n s11) hx hb hts iX8_lookAt_2 tyX2 tyX2_ok nmX2 hown hK hP hD hS (7 + a1) (atFlow hb_2) rfl 13 (by decide) (hts (.fieldLink RX8 180 "LinkQueues$Flow" "lostDelay" "I") (by decide +kernel)) (fun _ h9 => h9) rfl (by decide +kernel) rfl rfl (Nat.le_of_ble_eq_true rfl) dX8_lookAt_81 (by rw [e_s11]; exact stFlow_13 hb_2 ((sI s9 45 a1) + 1)) (fun H locs hP hD hS => ?_)
        replace hwp := hwp s11 e_s11
        refine lv_aload_n hx hb dX8_lookAt_84 rfl (lv_at hl 3 rfl) ?_
        refine va_get (D := (dC, dI)) (ci := 2) (v := .ref (ad 6 a1)) (C := RX2) (T := TX2) (N := 15) hx hb hts iX8_lookAt_2 hown hK hP (7 + a1) (atFlow hb_2) rfl 1 (by decide) (hts (.fieldLink RX8 186 "LinkQueues$Flow" "queue" "LLinkQueues$Queue;") (by decide +kernel)) (fun _ h9 => h9) rfl dX8_lookAt_85 ?_
        refine va_get (D := (dC, dI)) (ci := 6) (v := .int (sI s11 98 a1)) (C := RX6) (T := TX6) (N := 4) hx hb hts iX8_lookAt_6 hown hK hP (13 + a1) (atQueue hb_3) rfl 2 (by decide) (hts (.fieldLink RX8 190 "LinkQueues$Queue" "packets" "I") (by decide +kernel)) (fun _ h9 => h9) rfl dX8_lookAt_88 ?_
        refine lv_if_ne (tgt := 112) hx hb dX8_lookAt_91 (by decide) (fun c_91 => ?_) (fun c_91 => ?_)
        · replace hwp := hwp.1 c_91
          refine lv_iload_n hx hb dX8_lookAt_112 rfl (lv_at hl 0 rfl) ?_
          refine lv_if_eq (tgt := 120) hx hb dX8_lookAt_113 (by decide) (fun c_113 => ?_) (fun c_113 => ?_)
          · replace hwp := hwp.1 c_113
            refine lv_null hx hb dX8_lookAt_120 ?_
            exact q_aret (n := "LinkQueues$Packet") (ad := ad 5) (o := none) hx hb hr (fun t ht hW => ⟨⟨none, s11, rfl, hwp, by rw [ht]; exact hP, va_K.moved hW.alike hK, hD⟩, hS.F ht⟩) hS.2.2 dX8_lookAt_121 hlocks
          · replace hwp := hwp.2 c_113
            refine lv_aload_n hx hb dX8_lookAt_116 rfl (lv_at hl 1 rfl) ?_
            refine lv_goto (tgt := 121) hx hb dX8_lookAt_117 (by decide) ?_
            exact q_aret (n := "LinkQueues$Packet") (ad := ad 5) (o := (some b_4)) hx hb hr (fun t ht hW => ⟨⟨(some b_4), s11, rfl, hwp, by rw [ht]; exact hP, va_K.moved hW.alike hK, hD⟩, hS.F ht⟩) hS.2.2 dX8_lookAt_121 hlocks
        · replace hwp := hwp.2 c_91
          refine lv_aload_n hx hb dX8_lookAt_94 rfl (lv_at hl 2 rfl) ?_
          refine va_get (D := (dC, dI)) (ci := 8) (v := .ref (ad 7 0)) (C := RX8) (T := TX8) (N := 11) hx hb hts iX8_lookAt_8 hown hK hP 0 atLq rfl 1 (by decide) (hts (.fieldLink RX8 18 "LinkQueues" "turns" "LLinkQueues$Turns;") (by decide +kernel)) (fun _ h9 => h9) rfl dX8_lookAt_95 ?_
          have hF := fA hD hS hA
          refine va_callv (va_runV (As := []) (rest := []) ⟨hx, hb, hml, hown, hts⟩ (c_X7_leave l dC dI cA ad n s11 H.size _ hwp) (cwV 0 hts gX8_lookAt_X7_leave rfl rfl rfl (by decide +kernel) ⟨Nat.le_of_ble_eq_true rfl, Nat.le_of_ble_eq_true rfl⟩) ⟨fbC, va_recv hK hP (ci := 7) (q0 := 2) rfl atTurns, fun U hU hW => ⟨rfl, by rw [hU], by rw [hU]; exact hP, va_K.moved hW.alike hK, hD.weaken (fun _ _ _ _ => trivial)⟩⟩ rfl rfl hl.1 rfl (lv_room (Nat.le_of_ble_eq_true rfl)) dX8_lookAt_98 ⟨Nat.le_of_ble_eq_true rfl, Nat.le_of_ble_eq_true rfl⟩) hS (fun q _ h => hF q h) hF (fun s12 t H1 locs ht hvm hwp hB hz1 hk1 hS => ?_)
          obtain ⟨hP1, hK1, hD1⟩ := hB
          rw [ht] at hP1
          have hD2 := hD1.weaken (fun _ q _ h => hF q.1 h)
          clear hP hD
          have hP := hP1
          have hD := hD2
          clear hP1 hD1 hD2 hK1 hk1 hz1 hF
          generalize H1 = H at hP hS ⊢
          refine lv_aload_n hx hb dX8_lookAt_101 rfl (lv_at hl 3 rfl) ?_
          refine va_get (D := (dC, dI)) (ci := 2) (v := .ref (ad 3 a1)) (C := RX2) (T := TX2) (N := 15) hx hb hts iX8_lookAt_2 hown hK hP (7 + a1) (atFlow hb_2) rfl 2 (by decide) (hts (.fieldLink RX8 84 "LinkQueues$Flow" "mean" "LLinkQueues$Mean;") (by decide +kernel)) (fun _ h9 => h9) rfl dX8_lookAt_102 ?_
          refine lv_aload_n hx hb dX8_lookAt_105 rfl (lv_at hl 2 rfl) ?_
          refine va_get (D := (dC, dI)) (ci := 8) (v := .int (sI s12 132 0)) (C := RX8) (T := TX8) (N := 11) hx hb hts iX8_lookAt_8 hown hK hP 0 atLq rfl 4 (by decide) (hts (.fieldLink RX8 36 "LinkQueues" "now" "I") (by decide +kernel)) (fun _ h9 => h9) rfl dX8_lookAt_106 ?_
          obtain ⟨hb_13, hwp⟩ := hwp
          obtain ⟨s14, e_s14⟩ : ∃ z, z = upI s12 54 a1 (sI s12 132 0) := ⟨_, rfl⟩
          refine st_put (D := (dC, dI)) (ci := 3) (v := .int (sI s12 132 0)) (ty := .int) (C := RX3) (T := TX3) (N := 7) (ws' := Wc cA ad n s14) hx hb hts iX8_lookAt_3 tyX3 tyX3_ok nmX3 hown hK hP hD hS (19 + a1) (atMean hb_13) rfl 6 (by decide) (hts (.fieldLink RX8 277 "LinkQueues$Mean" "emptySince" "I") (by decide +kernel)) (fun _ h9 => h9) rfl (by decide +kernel) rfl rfl (Nat.le_of_ble_eq_true rfl) dX8_lookAt_109 (by rw [e_s14]; exact stMean_6 hb_13 (sI s12 132 0)) (fun H locs hP hD hS => ?_)
          replace hwp := hwp s14 e_s14
          refine lv_iload_n hx hb dX8_lookAt_112 rfl (lv_at hl 0 rfl) ?_
          refine lv_if_eq (tgt := 120) hx hb dX8_lookAt_113 (by decide) (fun c_113 => ?_) (fun c_113 => ?_)
          · replace hwp := hwp.1 c_113
            refine lv_null hx hb dX8_lookAt_120 ?_
            exact q_aret (n := "LinkQueues$Packet") (ad := ad 5) (o := none) hx hb hr (fun t ht hW => ⟨⟨none, s14, rfl, hwp, by rw [ht]; exact hP, va_K.moved hW.alike hK, hD⟩, hS.F ht⟩) hS.2.2 dX8_lookAt_121 hlocks
          · replace hwp := hwp.2 c_113
            refine lv_aload_n hx hb dX8_lookAt_116 rfl (lv_at hl 1 rfl) ?_
            refine lv_goto (tgt := 121) hx hb dX8_lookAt_117 (by decide) ?_
            exact q_aret (n := "LinkQueues$Packet") (ad := ad 5) (o := (some b_4)) hx hb hr (fun t ht hW => ⟨⟨(some b_4), s14, rfl, hwp, by rw [ht]; exact hP, va_K.moved hW.alike hK, hD⟩, hS.F ht⟩) hS.2.2 dX8_lookAt_121 hlocks
      · replace hwp := hwp.2 c_55
        refine lv_aload_n hx hb dX8_lookAt_58 rfl (lv_at hl 3 rfl) ?_
        refine lv_dup hx hb dX8_lookAt_59 rfl ?_
        refine va_get (D := (dC, dI)) (ci := 2) (v := .int (sI s9 38 a1)) (C := RX2) (T := TX2) (N := 15) hx hb hts iX8_lookAt_2 hown hK hP (7 + a1) (atFlow hb_2) rfl 6 (by decide) (hts (.fieldLink RX8 201 "LinkQueues$Flow" "deficit" "I") (by decide +kernel)) (fun _ h9 => h9) rfl dX8_lookAt_60 ?_
        refine lv_aload_n hx hb dX8_lookAt_63 rfl (lv_at hl 1 rfl) ?_
        refine va_get (D := (dC, dI)) (ci := 5) (v := .int (sI s9 82 b_4)) (C := RX5) (T := TX5) (N := 8) hx hb hts iX8_lookAt_5 hown hK hP (31 + b_4) (atPacket hb_7) rfl 2 (by decide) (hts (.fieldLink RX8 231 "LinkQueues$Packet" "bytes" "I") (by decide +kernel)) (fun _ h9 => h9) rfl dX8_lookAt_64 ?_
        refine lv_isub hx hb dX8_lookAt_67 ?_
        obtain ⟨s15, e_s15⟩ : ∃ z, z = upI s9 38 a1 ((sI s9 38 a1) - (sI s9 82 b_4)) := ⟨_, rfl⟩
        refine st_put (D := (dC, dI)) (ci := 2) (v := .int ((sI s9 38 a1) - (sI s9 82 b_4))) (ty := .int) (C := RX2) (T := TX2) (N := 15) (ws' := Wc cA ad n s15) hx hb hts iX8_lookAt_2 tyX2 tyX2_ok nmX2 hown hK hP hD hS (7 + a1) (atFlow hb_2) rfl 6 (by decide) (hts (.fieldLink RX8 201 "LinkQueues$Flow" "deficit" "I") (by decide +kernel)) (fun _ h9 => h9) rfl (by decide +kernel) rfl rfl (Nat.le_of_ble_eq_true rfl) dX8_lookAt_68 (by rw [e_s15]; exact stFlow_6 hb_2 ((sI s9 38 a1) - (sI s9 82 b_4))) (fun H locs hP hD hS => ?_)
        replace hwp := hwp s15 e_s15
        refine lv_goto (tgt := 84) hx hb dX8_lookAt_71 (by decide) ?_
        refine lv_aload_n hx hb dX8_lookAt_84 rfl (lv_at hl 3 rfl) ?_
        refine va_get (D := (dC, dI)) (ci := 2) (v := .ref (ad 6 a1)) (C := RX2) (T := TX2) (N := 15) hx hb hts iX8_lookAt_2 hown hK hP (7 + a1) (atFlow hb_2) rfl 1 (by decide) (hts (.fieldLink RX8 186 "LinkQueues$Flow" "queue" "LLinkQueues$Queue;") (by decide +kernel)) (fun _ h9 => h9) rfl dX8_lookAt_85 ?_
        refine va_get (D := (dC, dI)) (ci := 6) (v := .int (sI s15 98 a1)) (C := RX6) (T := TX6) (N := 4) hx hb hts iX8_lookAt_6 hown hK hP (13 + a1) (atQueue hb_3) rfl 2 (by decide) (hts (.fieldLink RX8 190 "LinkQueues$Queue" "packets" "I") (by decide +kernel)) (fun _ h9 => h9) rfl dX8_lookAt_88 ?_
        refine lv_if_ne (tgt := 112) hx hb dX8_lookAt_91 (by decide) (fun c_91 => ?_) (fun c_91 => ?_)
        · replace hwp := hwp.1 c_91
          refine lv_iload_n hx hb dX8_lookAt_112 rfl (lv_at hl 0 rfl) ?_
          refine lv_if_eq (tgt := 120) hx hb dX8_lookAt_113 (by decide) (fun c_113 => ?_) (fun c_113 => ?_)
          · replace hwp := hwp.1 c_113
            refine lv_null hx hb dX8_lookAt_120 ?_
            exact q_aret (n := "LinkQueues$Packet") (ad := ad 5) (o := none) hx hb hr (fun t ht hW => ⟨⟨none, s15, rfl, hwp, by rw [ht]; exact hP, va_K.moved hW.alike hK, hD⟩, hS.F ht⟩) hS.2.2 dX8_lookAt_121 hlocks
          · replace hwp := hwp.2 c_113
            refine lv_aload_n hx hb dX8_lookAt_116 rfl (lv_at hl 1 rfl) ?_
            refine lv_goto (tgt := 121) hx hb dX8_lookAt_117 (by decide) ?_
            exact q_aret (n := "LinkQueues$Packet") (ad := ad 5) (o := (some b_4)) hx hb hr (fun t ht hW => ⟨⟨(some b_4), s15, rfl, hwp, by rw [ht]; exact hP, va_K.moved hW.alike hK, hD⟩, hS.F ht⟩) hS.2.2 dX8_lookAt_121 hlocks
        · replace hwp := hwp.2 c_91
          refine lv_aload_n hx hb dX8_lookAt_94 rfl (lv_at hl 2 rfl) ?_
          refine va_get (D := (dC, dI)) (ci := 8) (v := .ref (ad 7 0)) (C := RX8) (T := TX8) (N := 11) hx hb hts iX8_lookAt_8 hown hK hP 0 atLq rfl 1 (by decide) (hts (.fieldLink RX8 18 "LinkQueues" "turns" "LLinkQueues$Turns;") (by decide +kernel)) (fun _ h9 => h9) rfl dX8_lookAt_95 ?_
          have hF := fA hD hS hA
          refine va_callv (va_runV (As := []) (rest := []) ⟨hx, hb, hml, hown, hts⟩ (c_X7_leave l dC dI cA ad n s15 H.size _ hwp) (cwV 0 hts gX8_lookAt_X7_leave rfl rfl rfl (by decide +kernel) ⟨Nat.le_of_ble_eq_true rfl, Nat.le_of_ble_eq_true rfl⟩) ⟨fbC, va_recv hK hP (ci := 7) (q0 := 2) rfl atTurns, fun U hU hW => ⟨rfl, by rw [hU], by rw [hU]; exact hP, va_K.moved hW.alike hK, hD.weaken (fun _ _ _ _ => trivial)⟩⟩ rfl rfl hl.1 rfl (lv_room (Nat.le_of_ble_eq_true rfl)) dX8_lookAt_98 ⟨Nat.le_of_ble_eq_true rfl, Nat.le_of_ble_eq_true rfl⟩) hS (fun q _ h => hF q h) hF (fun s16 t H1 locs ht hvm hwp hB hz1 hk1 hS => ?_)
          obtain ⟨hP1, hK1, hD1⟩ := hB
          rw [ht] at hP1
          have hD2 := hD1.weaken (fun _ q _ h => hF q.1 h)
          clear hP hD
          have hP := hP1
          have hD := hD2
          clear hP1 hD1 hD2 hK1 hk1 hz1 hF
          generalize H1 = H at hP hS ⊢
          refine lv_aload_n hx hb dX8_lookAt_101 rfl (lv_at hl 3 rfl) ?_
          refine va_get (D := (dC, dI)) (ci := 2) (v := .ref (ad 3 a1)) (C := RX2) (T := TX2) (N := 15) hx hb hts iX8_lookAt_2 hown hK hP (7 + a1) (atFlow hb_2) rfl 2 (by decide) (hts (.fieldLink RX8 84 "LinkQueues$Flow" "mean" "LLinkQueues$Mean;") (by decide +kernel)) (fun _ h9 => h9) rfl dX8_lookAt_102 ?_
          refine lv_aload_n hx hb dX8_lookAt_105 rfl (lv_at hl 2 rfl) ?_
          refine va_get (D := (dC, dI)) (ci := 8) (v := .int (sI s16 132 0)) (C := RX8) (T := TX8) (N := 11) hx hb hts iX8_lookAt_8 hown hK hP 0 atLq rfl 4 (by decide) (hts (.fieldLink RX8 36 "LinkQueues" "now" "I") (by decide +kernel)) (fun _ h9 => h9) rfl dX8_lookAt_106 ?_
          obtain ⟨hb_17, hwp⟩ := hwp
          obtain ⟨s18, e_s18⟩ : ∃ z, z = upI s16 54 a1 (sI s16 132 0) := ⟨_, rfl⟩
          refine st_put (D := (dC, dI)) (ci := 3) (v := .int (sI s16 132 0)) (ty := .int) (C := RX3) (T := TX3) (N := 7) (ws' := Wc cA ad n s18) hx hb hts iX8_lookAt_3 tyX3 tyX3_ok nmX3 hown hK hP hD hS (19 + a1) (atMean hb_17) rfl 6 (by decide) (hts (.fieldLink RX8 277 "LinkQueues$Mean" "emptySince" "I") (by decide +kernel)) (fun _ h9 => h9) rfl (by decide +kernel) rfl rfl (Nat.le_of_ble_eq_true rfl) dX8_lookAt_109 (by rw [e_s18]; exact stMean_6 hb_17 (sI s16 132 0)) (fun H locs hP hD hS => ?_)
          replace hwp := hwp s18 e_s18
          refine lv_iload_n hx hb dX8_lookAt_112 rfl (lv_at hl 0 rfl) ?_
          refine lv_if_eq (tgt := 120) hx hb dX8_lookAt_113 (by decide) (fun c_113 => ?_) (fun c_113 => ?_)
          · replace hwp := hwp.1 c_113
            refine lv_null hx hb dX8_lookAt_120 ?_
            exact q_aret (n := "LinkQueues$Packet") (ad := ad 5) (o := none) hx hb hr (fun t ht hW => ⟨⟨none, s18, rfl, hwp, by rw [ht]; exact hP, va_K.moved hW.alike hK, hD⟩, hS.F ht⟩) hS.2.2 dX8_lookAt_121 hlocks
          · replace hwp := hwp.2 c_113
            refine lv_aload_n hx hb dX8_lookAt_116 rfl (lv_at hl 1 rfl) ?_
            refine lv_goto (tgt := 121) hx hb dX8_lookAt_117 (by decide) ?_
            exact q_aret (n := "LinkQueues$Packet") (ad := ad 5) (o := (some b_4)) hx hb hr (fun t ht hW => ⟨⟨(some b_4), s18, rfl, hwp, by rw [ht]; exact hP, va_K.moved hW.alike hK, hD⟩, hS.F ht⟩) hS.2.2 dX8_lookAt_121 hlocks
    · replace hwp := hwp.2 c_27
      refine lv_aload_n hx hb dX8_lookAt_30 rfl (lv_at hl 1 rfl) ?_
      refine va_get (D := (dC, dI)) (ci := 8) (v := .ref (ad 7 0)) (C := RX8) (T := TX8) (N := 11) hx hb hts iX8_lookAt_8 hown hK hP 0 atLq rfl 1 (by decide) (hts (.fieldLink RX8 18 "LinkQueues" "turns" "LLinkQueues$Turns;") (by decide +kernel)) (fun _ h9 => h9) rfl dX8_lookAt_31 ?_
      have hF := fA hD hS hA
      refine va_callv (va_runV (As := []) (rest := []) ⟨hx, hb, hml, hown, hts⟩ (c_X7_passOn l dC dI cA ad n s1 H.size _ hwp) (cwV 0 hts gX8_lookAt_X7_passOn rfl rfl rfl (by decide +kernel) ⟨Nat.le_of_ble_eq_true rfl, Nat.le_of_ble_eq_true rfl⟩) ⟨fbC, va_recv hK hP (ci := 7) (q0 := 2) rfl atTurns, fun U hU hW => ⟨rfl, by rw [hU], by rw [hU]; exact hP, va_K.moved hW.alike hK, hD.weaken (fun _ _ _ _ => trivial)⟩⟩ rfl rfl hl.1 rfl (lv_room (Nat.le_of_ble_eq_true rfl)) dX8_lookAt_34 ⟨Nat.le_of_ble_eq_true rfl, Nat.le_of_ble_eq_true rfl⟩) hS (fun q _ h => hF q h) hF (fun s19 t H1 locs ht hvm hwp hB hz1 hk1 hS => ?_)
      obtain ⟨hP1, hK1, hD1⟩ := hB
      rw [ht] at hP1
      have hD2 := hD1.weaken (fun _ q _ h => hF q.1 h)
      clear hP hD
      have hP := hP1
      have hD := hD2
      clear hP1 hD1 hD2 hK1 hk1 hz1 hF
      generalize H1 = H at hP hS ⊢
      refine lv_null hx hb dX8_lookAt_37 ?_
      exact q_aret (n := "LinkQueues$Packet") (ad := ad 5) (o := none) hx hb hr (fun t ht hW => ⟨⟨none, s19, rfl, hwp, by rw [ht]; exact hP, va_K.moved hW.alike hK, hD⟩, hS.F ht⟩) hS.2.2 dX8_lookAt_38 hlocks
def wp_X8_choose_L4 (n : Nat) (K : Option Nat → ST → Prop) : Nat → ST → Int32 → Option Nat → Prop
  | 0 => fun _ _ _ => False
  | fu4 + 1 => fun z4 x2_4 x1_4 => ((1000000 ≤ x2_4 → (K x1_4 z4)) ∧ (¬ (1000000 ≤ x2_4) → (((x1_4 = none → ((((sR z4 112 0) = none → (K none z4)) ∧ (∀ b_3, (sR z4 112 0) = some b_3 → (∃ b_5, (sR z4 112 0) = some b_5 ∧
wp_X8_lookAt n z4 b_5 (fun r8 s7 =>
wp_X8_choose_L4 n K fu4 s7 (x2_4 + 1) r8
)))))) ∧ (∀ b_1, x1_4 = some b_1 → (K (some b_1) z4))))))
def wp_X8_choose (n : Nat) (σ : ST) (K : Option Nat → ST → Prop) : Prop := ∃ n4, wp_X8_choose_L4 n K n4 σ 0 none
set_option maxRecDepth 20000 in
theorem iX8_choose_8 : ∀ w ∈ wsX80, w ∈ wsX8_choose := by decide +kernel
set_option maxRecDepth 20000 in
theorem iX8_choose_7 : ∀ w ∈ wsX70, w ∈ wsX8_choose := by decide +kernel
set_option maxHeartbeats 8000000 in
set_option maxRecDepth 100000 in
theorem c_X8_choose (l : Launch) (dC : Nat → ClassId) (dI : Nat → Nat → Nat) (cA : Nat → ClassId) (ad : Nat → Nat → Nat) (n : Nat) (σ : ST) (sz : Nat) (K : Option Nat → ST → Prop) (hwp : wp_X8_choose n σ K) : Met l yX8_choose wsX8_choose ({ frames := 4, cells := 0, slots := 0, locals := 91 } : Room) (va_Pc [.ref (ad 8 0)] (preC dC dI cA (Wc cA ad n σ) sz)) (va_Qe (ad 5) K (atC dC dI cA (Wc cA ad n) (va_A (Wc cA ad n σ) sz)) (va_A (Wc cA ad n σ) sz)) 0 0 (va_A (Wc cA ad n σ) sz) := by
  refine Met.ofW (cc := cX8_choose) (maxL := 3) (ret := (some (.object "LinkQueues$Packet"))) (by decide) rfl ?_
  intro p e s m args below meth c s₁ B hml hv
  obtain ⟨rfl, hsz, hP, hK, hD0⟩ := hv
  have hx := B.exec
  have hb := B.bytes
  have hr := B.returns
  have hts := atoms_spec (ws := wsX8_choose) B.pre
  have hown : s.vm.findClass RX8 = some m.cls := findClass_of_methodNamed B.named
  have hlocks := B.notSynchronized
  subst hsz
  have hD := hD0.self (sz := s.heap.size)
  clear hD0
  generalize hAe : va_A (Wc cA ad n σ) s.heap.size = A at hD ⊢
  have hA : ∀ q : Nat, s.heap.size ≤ q → A q := fun q h => by rw [← hAe]; exact Or.inr h
  have hS : va_S A s.heap s.heap [] := va_S.rf
  have hkc : 0 ≤ 0 := Nat.le_refl 0
  have hks : 0 ≤ 0 := Nat.le_refl 0
  have hl := lv_entry ([.ref (ad 8 0)]) (n := 3) (Nat.le_of_ble_eq_true rfl)
  rw [lg_entry_eq]
  generalize (lg_sl ([.ref (ad 8 0)]) ++ List.replicate (3 - (lg_sl ([.ref (ad 8 0)])).length) Slot.unset).toArray = ls at hl ⊢
  have hl : lv_has ls 3 [(0, .ref (ad 8 0))] := hl
  unfold wp_X8_choose at hwp
  generalize hHe : s.heap = H at hP ⊢
  have hS : va_S A s.heap H [] := by rw [← hHe]; exact va_S.rf
  clear hHe
  refine lv_null hx hb dX8_choose_0 ?_
  refine lv_astore_nN (lv' := [(1, .null), (0, .ref (ad 8 0))]) hx hb dX8_choose_1 rfl hl (by decide) rfl (fun ls hl => ?_)
  refine lv_iconst (v := 0) hx hb dX8_choose_2 (by decide) ?_
  refine lv_istore_n (lv' := [(2, .int 0), (1, .null), (0, .ref (ad 8 0))]) hx hb dX8_choose_3 rfl hl (by decide) rfl (fun ls hl => ?_)
  obtain ⟨n4, hwp⟩ := hwp
  have L4 : ∀ (fu4 : Nat) (z4 : ST) (x2_4 : Int32) (x1_4 : Option Nat), wp_X8_choose_L4 n K fu4 z4 x2_4 x1_4 → ∀ (H : Heap) (locs : List Loc) (ls : Array Slot), va_P (dC, dI) vwCl (Wc cA ad n z4) H → va_D A (Wc cA ad n z4) → va_S A s.heap H locs → lv_has ls 3 [(2, .int x2_4), (1, va_re (ad 5) x1_4), (0, .ref (ad 8 0))] → W p l e ({ frames := 4, cells := 0, slots := 0, locals := 91 } : Room) s m (([.ref (ad 8 0)] : List Value).toArray) below meth c H locs 0 0 (MQ below (va_Qe (ad 5) K (atC dC dI cA (Wc cA ad n) A) A) (([.ref (ad 8 0)] : List Value).toArray) s 0 0 A) (F0 m 4 ls []) := by
    intro fu4
    induction fu4 with
    | zero => intro z4 x2_4 x1_4 h; exact h.elim
    | succ fu4 ih4 =>
      intro z4 x2_4 x1_4 hwp H locs ls hP hD hS hl
      refine lv_iload_n hx hb dX8_choose_4 rfl (lv_at hl 0 rfl) ?_
      refine lv_ldc (v := 1000000) hx hb hown (hts (.constant RX8 49 (1000000)) (by decide +kernel)) dX8_choose_5 ?_
      refine lv_icmp_ge (tgt := 42) hx hb dX8_choose_7 (by decide) (fun c_7 => ?_) (fun c_7 => ?_)
      · replace hwp := hwp.1 c_7
        refine q_aload_n hx hb dX8_choose_42 rfl (lv_at hl 1 rfl) ?_
        exact q_aret (n := "LinkQueues$Packet") (ad := ad 5) (o := x1_4) hx hb hr (fun t ht hW => ⟨⟨x1_4, z4, rfl, hwp, by rw [ht]; exact hP, va_K.moved hW.alike hK, hD⟩, hS.F ht⟩) hS.2.2 dX8_choose_43 hlocks
      · replace hwp := hwp.2 c_7
        refine q_aload_n hx hb dX8_choose_10 rfl (lv_at hl 1 rfl) ?_
        refine q_ifnonnull (tgt := 42) hx hb dX8_choose_11 (by decide) (fun b_1 ho_2 => ?_) (fun ho_2 => ?_)
        · replace hwp := hwp.2 b_1 ho_2
          have hl : lv_has ls 3 [(2, .int x2_4), (1, .ref (ad 5 b_1)), (0, .ref (ad 8 0))] := by rw [ho_2] at hl; exact hl
          refine lv_aload_n hx hb dX8_choose_42 rfl (lv_at hl 1 rfl) ?_
          exact q_aret (n := "LinkQueues$Packet") (ad := ad 5) (o := (some b_1)) hx hb hr (fun t ht hW => ⟨⟨(some b_1), z4, rfl, hwp, by rw [ht]; exact hP, va_K.moved hW.alike hK, hD⟩, hS.F ht⟩) hS.2.2 dX8_choose_43 hlocks
        · replace hwp := hwp.1 ho_2
          have hl : lv_has ls 3 [(2, .int x2_4), (1, .null), (0, .ref (ad 8 0))] := by rw [ho_2] at hl; exact hl
          refine lv_aload_n hx hb dX8_choose_14 rfl (lv_at hl 2 rfl) ?_
          refine va_get (D := (dC, dI)) (ci := 8) (v := .ref (ad 7 0)) (C := RX8) (T := TX8) (N := 11) hx hb hts iX8_choose_8 hown hK hP 0 atLq rfl 1 (by decide) (hts (.fieldLink RX8 18 "LinkQueues" "turns" "LLinkQueues$Turns;") (by decide +kernel)) (fun _ h9 => h9) rfl dX8_choose_15 ?_
          refine va_get (D := (dC, dI)) (ci := 7) (v := va_re (ad 2) (sR z4 112 0)) (C := RX7) (T := TX7) (N := 3) hx hb hts iX8_choose_7 hown hK hP 2 atTurns rfl 0 (by decide) (hts (.fieldLink RX8 251 "LinkQueues$Turns" "first" "LLinkQueues$Flow;") (by decide +kernel)) (fun _ h9 => h9) rfl dX8_choose_18 ?_
          refine q_ifnull (tgt := 42) hx hb dX8_choose_21 (by decide) (fun ho_4 => ?_) (fun b_3 ho_4 => ?_)
          · replace hwp := hwp.1 ho_4
            refine lv_aload_nN hx hb dX8_choose_42 rfl (lv_at hl 1 rfl) ?_
            exact q_aret (n := "LinkQueues$Packet") (ad := ad 5) (o := none) hx hb hr (fun t ht hW => ⟨⟨none, z4, rfl, hwp, by rw [ht]; exact hP, va_K.moved hW.alike hK, hD⟩, hS.F ht⟩) hS.2.2 dX8_choose_43 hlocks
          · replace hwp := hwp.2 b_3 ho_4
            refine lv_aload_n hx hb dX8_choose_24 rfl (lv_at hl 2 rfl) ?_
            refine lv_aload_n hx hb dX8_choose_25 rfl (lv_at hl 2 rfl) ?_
            refine va_get (D := (dC, dI)) (ci := 8) (v := .ref (ad 7 0)) (C := RX8) (T := TX8) (N := 11) hx hb hts iX8_choose_8 hown hK hP 0 atLq rfl 1 (by decide) (hts (.fieldLink RX8 18 "LinkQueues" "turns" "LLinkQueues$Turns;") (by decide +kernel)) (fun _ h9 => h9) rfl dX8_choose_26 ?_
            refine va_get (D := (dC, dI)) (ci := 7) (v := va_re (ad 2) (sR z4 112 0)) (C := RX7) (T := TX7) (N := 3) hx hb hts iX8_choose_7 hown hK hP 2 atTurns rfl 0 (by decide) (hts (.fieldLink RX8 251 "LinkQueues$Turns" "first" "LLinkQueues$Flow;") (by decide +kernel)) (fun _ h9 => h9) rfl dX8_choose_29 ?_
            obtain ⟨b_5, ho_6, hwp⟩ := hwp
            rw [ho_6]
            have hF := fA hD hS hA
            refine va_calle (va_runV (As := [.ref (ad 2 b_5)]) (rest := []) ⟨hx, hb, hml, hown, hts⟩ (c_X8_lookAt l dC dI cA ad n z4 b_5 H.size _ hwp) (cwV 1 hts gX8_choose_X8_lookAt rfl rfl rfl (by decide +kernel) ⟨Nat.le_of_ble_eq_true rfl, Nat.le_of_ble_eq_true rfl⟩) ⟨fbC, va_recv hK hP (ci := 8) (q0 := 0) rfl atLq, fun U hU hW => ⟨rfl, by rw [hU], by rw [hU]; exact hP, va_K.moved hW.alike hK, hD.weaken (fun _ _ _ _ => trivial)⟩⟩ rfl rfl hl.1 rfl (lv_room (Nat.le_of_ble_eq_true rfl)) dX8_choose_32 ⟨Nat.le_of_ble_eq_true rfl, Nat.le_of_ble_eq_true rfl⟩) hS (fun q _ h => hF q h) hF (fun r8 s7 t H1 locs ht hvm hwp hB hz1 hk1 hS => ?_)
            obtain ⟨hP1, hK1, hD1⟩ := hB
            rw [ht] at hP1
            have hD2 := hD1.weaken (fun _ q _ h => hF q.1 h)
            clear hP hD
            have hP := hP1
            have hD := hD2
            clear hP1 hD1 hD2 hK1 hk1 hz1 hF
            generalize H1 = H at hP hS ⊢
            refine q_astore_n (lv' := [(1, va_re (ad 5) r8), (2, .int x2_4), (0, .ref (ad 8 0))]) hx hb dX8_choose_35 rfl hl (by decide) rfl (fun ls hl => ?_)
            refine lv_iinc (v := (x2_4 + 1)) (lv' := [(2, .int (x2_4 + 1)), (1, va_re (ad 5) r8), (0, .ref (ad 8 0))]) hx hb dX8_choose_36 hl (k := 1) rfl rfl (by decide) (by generalize r8 = qq; cases qq <;> rfl) (fun ls hl => ?_)
            refine lv_goto (tgt := 4) hx hb dX8_choose_39 (by decide) ?_
            exact ih4 s7 (x2_4 + 1) r8 hwp _ _ _ hP hD hS (lv_sub hl [0, 1, 2] rfl)
  exact L4 n4 σ 0 none hwp _ _ _ hP hD hS (lv_sub hl [0, 1, 2] rfl)
def wp_X8_oneTick_L12 (n : Nat) (K : Int32 → ST → Prop) : Nat → ST → Int32 → Prop
  | 0 => fun _ _ => False
  | fu12 + 1 => fun z12 x1_12 => ((0 < (Op.cmpValue (FP.dcmp (sD z12 138 0) (FP.i2d (sI z12 132 0))) .g) → (K x1_12 z12)) ∧ (¬ (0 < (Op.cmpValue (FP.dcmp (sD z12 138 0) (FP.i2d (sI z12 132 0))) .g)) → (((100 < x1_12 → (K x1_12 z12)) ∧ (¬ (100 < x1_12) → (wp_X8_choose n z12 (fun r3 s2 =>
((r3 = none → (∀ s6, s6 = upD s2 138 0 (FP.i2d (sI s2 132 0)) →
K x1_12 s6)) ∧ (∀ b_4, r3 = some b_4 → (wp_X8_send n s2 b_4 (fun s7 =>
wp_X8_oneTick_L12 n K fu12 s7 (x1_12 + 1)
))))
)))))))
def wp_X8_oneTick (n : Nat) (σ : ST) (K : Int32 → ST → Prop) : Prop := ∀ s1, s1 = upI σ 132 0 ((sI σ 132 0) + 1) →
∃ n12, wp_X8_oneTick_L12 n K n12 s1 0
set_option maxRecDepth 20000 in
theorem iX8_oneTick_8 : ∀ w ∈ wsX80, w ∈ wsX8_oneTick := by decide +kernel
set_option maxHeartbeats 8000000 in
set_option maxRecDepth 100000 in
theorem c_X8_oneTick (l : Launch) (dC : Nat → ClassId) (dI : Nat → Nat → Nat) (cA : Nat → ClassId) (ad : Nat → Nat → Nat) (n : Nat) (σ : ST) (sz : Nat) (K : Int32 → ST → Prop) (hwp : wp_X8_oneTick n σ K) : Met l yX8_oneTick wsX8_oneTick ({ frames := 5, cells := 0, slots := 0, locals := 113 } : Room) (va_Pc [.ref (ad 8 0)] (preC dC dI cA (Wc cA ad n σ) sz)) (va_Qi K (atC dC dI cA (Wc cA ad n) (va_A (Wc cA ad n σ) sz)) (va_A (Wc cA ad n σ) sz)) 0 0 (va_A (Wc cA ad n σ) sz) := by
  refine Met.ofW (cc := cX8_oneTick) (maxL := 3) (ret := (some .int)) (by decide) rfl ?_
  intro p e s m args below meth c s₁ B hml hv
  obtain ⟨rfl, hsz, hP, hK, hD0⟩ := hv
  have hx := B.exec
  have hb := B.bytes
  have hr := B.returns
  have hts := atoms_spec (ws := wsX8_oneTick) B.pre
  have hown : s.vm.findClass RX8 = some m.cls := findClass_of_methodNamed B.named
  have hlocks := B.notSynchronized
  subst hsz
  have hD := hD0.self (sz := s.heap.size)
  clear hD0
  generalize hAe : va_A (Wc cA ad n σ) s.heap.size = A at hD ⊢
  have hA : ∀ q : Nat, s.heap.size ≤ q → A q := fun q h => by rw [← hAe]; exact Or.inr h
  have hS : va_S A s.heap s.heap [] := va_S.rf
  have hkc : 0 ≤ 0 := Nat.le_refl 0
  have hks : 0 ≤ 0 := Nat.le_refl 0
  have hl := lv_entry ([.ref (ad 8 0)]) (n := 3) (Nat.le_of_ble_eq_true rfl)
  rw [lg_entry_eq]
  generalize (lg_sl ([.ref (ad 8 0)]) ++ List.replicate (3 - (lg_sl ([.ref (ad 8 0)])).length) Slot.unset).toArray = ls at hl ⊢
  have hl : lv_has ls 3 [(0, .ref (ad 8 0))] := hl
  unfold wp_X8_oneTick at hwp
  generalize hHe : s.heap = H at hP ⊢
  have hS : va_S A s.heap H [] := by rw [← hHe]; exact va_S.rf
  clear hHe
  refine lv_aload_n hx hb dX8_oneTick_0 rfl (lv_at hl 0 rfl) ?_
  refine lv_dup hx hb dX8_oneTick_1 rfl ?_
  refine va_get (D := (dC, dI)) (ci := 8) (v := .int (sI σ 132 0)) (C := RX8) (T := TX8) (N := 11) hx hb hts iX8_oneTick_8 hown hK hP 0 atLq rfl 4 (by decide) (hts (.fieldLink RX8 36 "LinkQueues" "now" "I") (by decide +kernel)) (fun _ h9 => h9) rfl dX8_oneTick_2 ?_
  refine lv_iconst (v := 1) hx hb dX8_oneTick_5 (by decide) ?_
  refine lv_iadd hx hb dX8_oneTick_6 ?_
  obtain ⟨s1, e_s1⟩ : ∃ z, z = upI σ 132 0 ((sI σ 132 0) + 1) := ⟨_, rfl⟩
  refine st_put (D := (dC, dI)) (ci := 8) (v := .int ((sI σ 132 0) + 1)) (ty := .int) (C := RX8) (T := TX8) (N := 11) (ws' := Wc cA ad n s1) hx hb hts iX8_oneTick_8 tyX8 tyX8_ok nmX8 hown hK hP hD hS 0 atLq rfl 4 (by decide) (hts (.fieldLink RX8 36 "LinkQueues" "now" "I") (by decide +kernel)) (fun _ h9 => h9) rfl (by decide +kernel) rfl rfl (Nat.le_of_ble_eq_true rfl) dX8_oneTick_7 (by rw [e_s1]; exact stLq_4 ((sI σ 132 0) + 1)) (fun H locs hP hD hS => ?_)
  replace hwp := hwp s1 e_s1
  refine lv_iconst (v := 0) hx hb dX8_oneTick_10 (by decide) ?_
  refine lv_istore_n (lv' := [(1, .int 0), (0, .ref (ad 8 0))]) hx hb dX8_oneTick_11 rfl hl (by decide) rfl (fun ls hl => ?_)
  obtain ⟨n12, hwp⟩ := hwp
  have L12 : ∀ (fu12 : Nat) (z12 : ST) (x1_12 : Int32), wp_X8_oneTick_L12 n K fu12 z12 x1_12 → ∀ (H : Heap) (locs : List Loc) (ls : Array Slot), va_P (dC, dI) vwCl (Wc cA ad n z12) H → va_D A (Wc cA ad n z12) → va_S A s.heap H locs → lv_has ls 3 [(1, .int x1_12), (0, .ref (ad 8 0))] → W p l e ({ frames := 5, cells := 0, slots := 0, locals := 113 } : Room) s m (([.ref (ad 8 0)] : List Value).toArray) below meth c H locs 0 0 (MQ below (va_Qi K (atC dC dI cA (Wc cA ad n) A) A) (([.ref (ad 8 0)] : List Value).toArray) s 0 0 A) (F0 m 12 ls []) := by
    intro fu12
    induction fu12 with
    | zero => intro z12 x1_12 h; exact h.elim
    | succ fu12 ih12 =>
      intro z12 x1_12 hwp H locs ls hP hD hS hl
      refine lv_aload_n hx hb dX8_oneTick_12 rfl (lv_at hl 1 rfl) ?_
      refine va_get (D := (dC, dI)) (ci := 8) (v := .double (sD z12 138 0)) (C := RX8) (T := TX8) (N := 11) hx hb hts iX8_oneTick_8 hown hK hP 0 atLq rfl 10 (by decide) (hts (.fieldLink RX8 59 "LinkQueues" "freeFrom" "D") (by decide +kernel)) (fun _ h9 => h9) rfl dX8_oneTick_13 ?_
      refine lv_aload_n hx hb dX8_oneTick_16 rfl (lv_at hl 1 rfl) ?_
      refine va_get (D := (dC, dI)) (ci := 8) (v := .int (sI z12 132 0)) (C := RX8) (T := TX8) (N := 11) hx hb hts iX8_oneTick_8 hown hK hP 0 atLq rfl 4 (by decide) (hts (.fieldLink RX8 36 "LinkQueues" "now" "I") (by decide +kernel)) (fun _ h9 => h9) rfl dX8_oneTick_17 ?_
      refine lv_i2d hx hb dX8_oneTick_20 ?_
      refine lv_dcmp hx hb dX8_oneTick_21 ?_
      refine lv_if_gt (tgt := 63) hx hb dX8_oneTick_22 (by decide) (fun c_22 => ?_) (fun c_22 => ?_)
      · replace hwp := hwp.1 c_22
        refine lv_iload_n hx hb dX8_oneTick_63 rfl (lv_at hl 0 rfl) ?_
        exact W.iret (v := x1_12) hx hb hr (fun t ht hW => ⟨⟨x1_12, z12, rfl, hwp, by rw [ht]; exact hP, va_K.moved hW.alike hK, hD⟩, hS.F ht⟩) hS.2.2 dX8_oneTick_64
      · replace hwp := hwp.2 c_22
        refine lv_iload_n hx hb dX8_oneTick_25 rfl (lv_at hl 0 rfl) ?_
        refine lv_bipush (v := 100) hx hb dX8_oneTick_26 (by decide) ?_
        refine lv_icmp_gt (tgt := 63) hx hb dX8_oneTick_28 (by decide) (fun c_28 => ?_) (fun c_28 => ?_)
        · replace hwp := hwp.1 c_28
          refine lv_iload_n hx hb dX8_oneTick_63 rfl (lv_at hl 0 rfl) ?_
          exact W.iret (v := x1_12) hx hb hr (fun t ht hW => ⟨⟨x1_12, z12, rfl, hwp, by rw [ht]; exact hP, va_K.moved hW.alike hK, hD⟩, hS.F ht⟩) hS.2.2 dX8_oneTick_64
        · replace hwp := hwp.2 c_28
          refine lv_aload_n hx hb dX8_oneTick_31 rfl (lv_at hl 1 rfl) ?_
          have hF := fA hD hS hA
          refine va_calle (va_runV (As := []) (rest := []) ⟨hx, hb, hml, hown, hts⟩ (c_X8_choose l dC dI cA ad n z12 H.size _ hwp) (cwV 0 hts gX8_oneTick_X8_choose rfl rfl rfl (by decide +kernel) ⟨Nat.le_of_ble_eq_true rfl, Nat.le_of_ble_eq_true rfl⟩) ⟨fbC, va_recv hK hP (ci := 8) (q0 := 0) rfl atLq, fun U hU hW => ⟨rfl, by rw [hU], by rw [hU]; exact hP, va_K.moved hW.alike hK, hD.weaken (fun _ _ _ _ => trivial)⟩⟩ rfl rfl hl.1 rfl (lv_room (Nat.le_of_ble_eq_true rfl)) dX8_oneTick_32 ⟨Nat.le_of_ble_eq_true rfl, Nat.le_of_ble_eq_true rfl⟩) hS (fun q _ h => hF q h) hF (fun r3 s2 t H1 locs ht hvm hwp hB hz1 hk1 hS => ?_)
          obtain ⟨hP1, hK1, hD1⟩ := hB
          rw [ht] at hP1
          have hD2 := hD1.weaken (fun _ q _ h => hF q.1 h)
          clear hP hD
          have hP := hP1
          have hD := hD2
          clear hP1 hD1 hD2 hK1 hk1 hz1 hF
          generalize H1 = H at hP hS ⊢
          refine q_astore_n (lv' := [(2, va_re (ad 5) r3), (1, .int x1_12), (0, .ref (ad 8 0))]) hx hb dX8_oneTick_35 rfl hl (by decide) rfl (fun ls hl => ?_)
          refine q_aload_n hx hb dX8_oneTick_36 rfl (lv_at hl 0 rfl) ?_
          refine q_ifnonnull (tgt := 52) hx hb dX8_oneTick_37 (by decide) (fun b_4 ho_5 => ?_) (fun ho_5 => ?_)
          · replace hwp := hwp.2 b_4 ho_5
            have hl : lv_has ls 3 [(2, .ref (ad 5 b_4)), (1, .int x1_12), (0, .ref (ad 8 0))] := by rw [ho_5] at hl; exact hl
            refine lv_aload_n hx hb dX8_oneTick_52 rfl (lv_at hl 2 rfl) ?_
            refine lv_aload_n hx hb dX8_oneTick_53 rfl (lv_at hl 0 rfl) ?_
            have hF := fA hD hS hA
            refine va_callv (va_runV (As := [.ref (ad 5 b_4)]) (rest := []) ⟨hx, hb, hml, hown, hts⟩ (c_X8_send l dC dI cA ad n s2 b_4 H.size _ hwp) (cwV 1 hts gX8_oneTick_X8_send rfl rfl rfl (by decide +kernel) ⟨Nat.le_of_ble_eq_true rfl, Nat.le_of_ble_eq_true rfl⟩) ⟨fbC, va_recv hK hP (ci := 8) (q0 := 0) rfl atLq, fun U hU hW => ⟨rfl, by rw [hU], by rw [hU]; exact hP, va_K.moved hW.alike hK, hD.weaken (fun _ _ _ _ => trivial)⟩⟩ rfl rfl hl.1 rfl (lv_room (Nat.le_of_ble_eq_true rfl)) dX8_oneTick_54 ⟨Nat.le_of_ble_eq_true rfl, Nat.le_of_ble_eq_true rfl⟩) hS (fun q _ h => hF q h) hF (fun s7 t H1 locs ht hvm hwp hB hz1 hk1 hS => ?_)
            obtain ⟨hP1, hK1, hD1⟩ := hB
            rw [ht] at hP1
            have hD2 := hD1.weaken (fun _ q _ h => hF q.1 h)
            clear hP hD
            have hP := hP1
            have hD := hD2
            clear hP1 hD1 hD2 hK1 hk1 hz1 hF
            generalize H1 = H at hP hS ⊢
            refine lv_iinc (v := (x1_12 + 1)) (lv' := [(1, .int (x1_12 + 1)), (2, .ref (ad 5 b_4)), (0, .ref (ad 8 0))]) hx hb dX8_oneTick_57 hl (k := 1) rfl rfl (by decide) rfl (fun ls hl => ?_)
            refine lv_goto (tgt := 12) hx hb dX8_oneTick_60 (by decide) ?_
            exact ih12 s7 (x1_12 + 1) hwp _ _ _ hP hD hS (lv_sub hl [0, 2] rfl)
          · replace hwp := hwp.1 ho_5
            have hl : lv_has ls 3 [(2, .null), (1, .int x1_12), (0, .ref (ad 8 0))] := by rw [ho_5] at hl; exact hl
            refine lv_aload_n hx hb dX8_oneTick_40 rfl (lv_at hl 2 rfl) ?_
            refine lv_aload_n hx hb dX8_oneTick_41 rfl (lv_at hl 2 rfl) ?_
            refine va_get (D := (dC, dI)) (ci := 8) (v := .int (sI s2 132 0)) (C := RX8) (T := TX8) (N := 11) hx hb hts iX8_oneTick_8 hown hK hP 0 atLq rfl 4 (by decide) (hts (.fieldLink RX8 36 "LinkQueues" "now" "I") (by decide +kernel)) (fun _ h9 => h9) rfl dX8_oneTick_42 ?_
            refine lv_i2d hx hb dX8_oneTick_45 ?_
            obtain ⟨s6, e_s6⟩ : ∃ z, z = upD s2 138 0 (FP.i2d (sI s2 132 0)) := ⟨_, rfl⟩
            refine st_put (D := (dC, dI)) (ci := 8) (v := .double (FP.i2d (sI s2 132 0))) (ty := .double) (C := RX8) (T := TX8) (N := 11) (ws' := Wc cA ad n s6) hx hb hts iX8_oneTick_8 tyX8 tyX8_ok nmX8 hown hK hP hD hS 0 atLq rfl 10 (by decide) (hts (.fieldLink RX8 59 "LinkQueues" "freeFrom" "D") (by decide +kernel)) (fun _ h9 => h9) rfl (by decide +kernel) rfl rfl (Nat.le_of_ble_eq_true rfl) dX8_oneTick_46 (by rw [e_s6]; exact stLq_10 (FP.i2d (sI s2 132 0))) (fun H locs hP hD hS => ?_)
            replace hwp := hwp s6 e_s6
            refine lv_goto (tgt := 63) hx hb dX8_oneTick_49 (by decide) ?_
            refine lv_iload_n hx hb dX8_oneTick_63 rfl (lv_at hl 1 rfl) ?_
            exact W.iret (v := x1_12) hx hb hr (fun t ht hW => ⟨⟨x1_12, s6, rfl, hwp, by rw [ht]; exact hP, va_K.moved hW.alike hK, hD⟩, hS.F ht⟩) hS.2.2 dX8_oneTick_64
  exact L12 n12 s1 0 hwp _ _ _ hP hD hS (lv_sub hl [0, 1] rfl)
