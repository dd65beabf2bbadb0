def wp_X4_place (n : Nat) (σ : ST) (a0 : Int32) (K : Int32 → ST → Prop) : Prop := K (a0 &&& 31) σ
set_option maxHeartbeats 8000000 in
set_option maxRecDepth 100000 in
theorem c_X4_place (l : Launch) (dC : Nat → ClassId) (dI : Nat → Nat → Nat) (cA : Nat → ClassId) (ad : Nat → Nat → Nat) (n : Nat) (σ : ST) (a0 : Int32) (sz : Nat) (K : Int32 → ST → Prop) (hwp : wp_X4_place n σ a0 K) : Met l yX4_place wsX4_place ({ frames := 0, cells := 0, slots := 0, locals := 0 } : Room) (va_Pc [.int a0] (preC dC dI cA (Wc cA ad n σ) sz)) (va_Qi K (atC dC dI cA (Wc cA ad n) (va_A (Wc cA ad n σ) sz)) (va_A (Wc cA ad n σ) sz)) 0 0 (va_A (Wc cA ad n σ) sz) := by
  refine Met.ofW (cc := cX4_place) (maxL := 1) (ret := (some .int)) (by decide) rfl ?_
  intro p e s m args below meth c s₁ B hml hv
  obtain ⟨rfl, hsz, hP, hK, hD0⟩ := hv
  have hx := B.exec
  have hb := B.bytes
  have hr := B.returns
  have hts := atoms_spec (ws := wsX4_place) B.pre
  have hown : s.vm.findClass RX4 = some m.cls := findClass_of_methodNamed B.named
  have hlocks := B.notSynchronized
  subst hsz
  have hD := hD0.self (sz := s.heap.size)
  clear hD0
  generalize hAe : va_A (Wc cA ad n σ) s.heap.size = A at hD ⊢
  have hA : ∀ q : Nat, s.heap.size ≤ q → A q := fun q h => by rw [← hAe]; exact Or.inr h
  have hS : va_S A s.heap s.heap [] := va_S.rf
  have hkc : 0 ≤ 0 := Nat.le_refl 0
  have hks : 0 ≤ 0 := Nat.le_refl 0
  have hl := lv_entry ([.int a0]) (n := 1) (Nat.le_of_ble_eq_true rfl)
  rw [lg_entry_eq]
  generalize (lg_sl ([.int a0]) ++ List.replicate (1 - (lg_sl ([.int a0])).length) Slot.unset).toArray = ls at hl ⊢
  have hl : lv_has ls 1 [(0, .int a0)] := hl
  unfold wp_X4_place at hwp
  generalize hHe : s.heap = H at hP ⊢
  have hS : va_S A s.heap H [] := by rw [← hHe]; exact va_S.rf
  clear hHe
  refine lv_iload_n hx hb dX4_place_0 rfl (lv_at hl 0 rfl) ?_
  refine lv_bipush (v := 31) hx hb dX4_place_1 (by decide) ?_
  refine lv_iand hx hb dX4_place_3 ?_
  exact W.iret (v := (a0 &&& 31)) hx hb hr (fun t ht hW => ⟨⟨(a0 &&& 31), σ, rfl, hwp, by rw [ht]; exact hP, va_K.moved hW.alike hK, hD⟩, hS.F ht⟩) hS.2.2 dX4_place_4
def wp_X4_add (n : Nat) (σ : ST) (a1 : Nat) (K : ST → Prop) : Prop := ∀ s1, s1 = upI σ 65 0 ((sI σ 65 0) + 1) →
wp_X4_place n s1 (sI s1 65 0) (fun r3 s2 =>
vp_in r3 32 ∧
a1 < n ∧
∀ s5, s5 = upR s2 64 r3.toNatClampNeg (some a1) →
K s5
)
set_option maxRecDepth 20000 in
theorem iX4_add_4 : ∀ w ∈ wsX40, w ∈ wsX4_add := by decide +kernel
set_option maxHeartbeats 8000000 in
set_option maxRecDepth 100000 in
theorem c_X4_add (l : Launch) (dC : Nat → ClassId) (dI : Nat → Nat → Nat) (cA : Nat → ClassId) (ad : Nat → Nat → Nat) (n : Nat) (σ : ST) (a1 : Nat) (sz : Nat) (K : ST → Prop) (hwp : wp_X4_add n σ a1 K) : Met l yX4_add wsX4_add ({ frames := 1, cells := 0, slots := 0, locals := 20 } : Room) (va_Pc [.ref (ad 4 0), .ref (ad 5 a1)] (preC dC dI cA (Wc cA ad n σ) sz)) (va_Qv K (atC dC dI cA (Wc cA ad n) (va_A (Wc cA ad n σ) sz)) (va_A (Wc cA ad n σ) sz)) 0 0 (va_A (Wc cA ad n σ) sz) := by
  refine Met.ofW (cc := cX4_add) (maxL := 2) (ret := none) (by decide) rfl ?_
  intro p e s m args below meth c s₁ B hml hv
  obtain ⟨rfl, hsz, hP, hK, hD0⟩ := hv
  have hx := B.exec
  have hb := B.bytes
  have hr := B.returns
  have hts := atoms_spec (ws := wsX4_add) B.pre
  have hown : s.vm.findClass RX4 = some m.cls := findClass_of_methodNamed B.named
  have hlocks := B.notSynchronized
  subst hsz
  have hD := hD0.self (sz := s.heap.size)
  clear hD0
  generalize hAe : va_A (Wc cA ad n σ) s.heap.size = A at hD ⊢
  have hA : ∀ q : Nat, s.heap.size ≤ q → A q := fun q h => by rw [← hAe]; exact Or.inr h
  have hS : va_S A s.heap s.heap [] := va_S.rf
  have hkc : 0 ≤ 0 := Nat.le_refl 0
  have hks : 0 ≤ 0 := Nat.le_refl 0
  have hl := lv_entry ([.ref (ad 4 0), .ref (ad 5 a1)]) (n := 2) (Nat.le_of_ble_eq_true rfl)
  rw [lg_entry_eq]
  generalize (lg_sl ([.ref (ad 4 0), .ref (ad 5 a1)]) ++ List.replicate (2 - (lg_sl ([.ref (ad 4 0), .ref (ad 5 a1)])).length) Slot.unset).toArray = ls at hl ⊢
  have hl : lv_has ls 2 [(0, .ref (ad 4 0)), (1, .ref (ad 5 a1))] := hl
  unfold wp_X4_add at hwp
  generalize hHe : s.heap = H at hP ⊢
  have hS : va_S A s.heap H [] := by rw [← hHe]; exact va_S.rf
  clear hHe
  refine lv_aload_n hx hb dX4_add_0 rfl (lv_at hl 0 rfl) ?_
  refine lv_dup hx hb dX4_add_1 rfl ?_
  refine va_get (D := (dC, dI)) (ci := 4) (v := .int (sI σ 65 0)) (C := RX4) (T := TX4) (N := 2) hx hb hts iX4_add_4 hown hK hP 5 atOutlog rfl 1 (by decide) (hts (.fieldLink RX4 15 "LinkQueues$Outlog" "nth" "I") (by decide +kernel)) (fun _ h9 => h9) rfl dX4_add_2 ?_
  refine lv_iconst (v := 1) hx hb dX4_add_5 (by decide) ?_
  refine lv_iadd hx hb dX4_add_6 ?_
  obtain ⟨s1, e_s1⟩ : ∃ z, z = upI σ 65 0 ((sI σ 65 0) + 1) := ⟨_, rfl⟩
  refine st_put (D := (dC, dI)) (ci := 4) (v := .int ((sI σ 65 0) + 1)) (ty := .int) (C := RX4) (T := TX4) (N := 2) (ws' := Wc cA ad n s1) hx hb hts iX4_add_4 tyX4 tyX4_ok nmX4 hown hK hP hD hS 5 atOutlog rfl 1 (by decide) (hts (.fieldLink RX4 15 "LinkQueues$Outlog" "nth" "I") (by decide +kernel)) (fun _ h9 => h9) rfl (by decide +kernel) rfl rfl (Nat.le_of_ble_eq_true rfl) dX4_add_7 (by rw [e_s1]; exact stOutlog_1 ((sI σ 65 0) + 1)) (fun H locs hP hD hS => ?_)
  replace hwp := hwp s1 e_s1
  refine lv_aload_n hx hb dX4_add_10 rfl (lv_at hl 0 rfl) ?_
  refine va_get (D := (dC, dI)) (ci := 4) (v := .ref (ad 11 0)) (C := RX4) (T := TX4) (N := 2) hx hb hts iX4_add_4 hown hK hP 5 atOutlog rfl 0 (by decide) (hts (.fieldLink RX4 11 "LinkQueues$Outlog" "row" "[LLinkQueues$Packet;") (by decide +kernel)) (fun _ h9 => h9) rfl dX4_add_11 ?_
  refine lv_aload_n hx hb dX4_add_14 rfl (lv_at hl 0 rfl) ?_
  refine va_get (D := (dC, dI)) (ci := 4) (v := .int (sI s1 65 0)) (C := RX4) (T := TX4) (N := 2) hx hb hts iX4_add_4 hown hK hP 5 atOutlog rfl 1 (by decide) (hts (.fieldLink RX4 15 "LinkQueues$Outlog" "nth" "I") (by decide +kernel)) (fun _ h9 => h9) rfl dX4_add_15 ?_
  have hF := fA hD hS hA
  refine va_calli (va_runS (As := [.int (sI s1 65 0)]) (rest := [.ref (ad 11 0)]) ⟨hx, hb, hml, hown, hts⟩ (c_X4_place l dC dI cA ad n s1 (sI s1 65 0) H.size _ hwp) (cwS 1 hts gX4_add_X4_place rfl rfl rfl (by decide +kernel) ⟨Nat.le_of_ble_eq_true rfl, Nat.le_of_ble_eq_true rfl⟩) ⟨fbC, fun U hU hW => ⟨rfl, by rw [hU], by rw [hU]; exact hP, va_K.moved hW.alike hK, hD.weaken (fun _ _ _ _ => trivial)⟩⟩ rfl rfl hl.1 rfl (lv_room (Nat.le_of_ble_eq_true rfl)) dX4_add_18 ⟨Nat.le_of_ble_eq_true rfl, Nat.le_of_ble_eq_true rfl⟩) hS (fun q _ h => hF q h) hF (fun r3 s2 t H1 locs ht hvm hwp hB hz1 hk1 hS => ?_)
  obtain ⟨hP1, hK1, hD1⟩ := hB
  rw [ht] at hP1
  have hD2 := hD1.weaken (fun _ q _ h => hF q.1 h)
  clear hP hD
  have hP := hP1
  have hD := hD2
  clear hP1 hD1 hD2 hK1 hk1 hz1 hF
  generalize H1 = H at hP hS ⊢
  refine lv_aload_n hx hb dX4_add_21 rfl (lv_at hl 1 rfl) ?_
  obtain ⟨hi_4, hwp⟩ := hwp
  obtain ⟨s5, e_s5⟩ : ∃ z, z = upR s2 64 r3.toNatClampNeg (some a1) := ⟨_, rfl⟩
  obtain ⟨hb_6, hwp⟩ := hwp
  refine va_astq (D := (dC, dI)) hx hb hK hP hD hS 6 4 (31 + a1) 5 atr11 rfl (atPacket hb_6) rfl hi_4 dX4_add_22 (fun H locs hP hD hS => ?_)
  rw [st_r11, ← e_s5] at hP hD
  replace hwp := hwp s5 e_s5
  exact W.vret hx hb hr (fun t ht hW => ⟨⟨s5, rfl, hwp, by rw [ht]; exact hP, va_K.moved hW.alike hK, hD⟩, hS.F ht⟩) hS.2.2 dX4_add_23
def wp_X4_lastBut (n : Nat) (σ : ST) (a1 : Int32) (K : Option Nat → ST → Prop) : Prop := ((a1 < 0 → (K none σ)) ∧ (¬ (a1 < 0) → (((32 ≤ a1 → (K none σ)) ∧ (¬ (32 ≤ a1) → (wp_X4_place n σ ((sI σ 65 0) - a1) (fun r2 s1 =>
vp_in r2 32 ∧
K (sR s1 64 r2.toNatClampNeg) s1
)))))))
set_option maxRecDepth 20000 in
theorem iX4_lastBut_4 : ∀ w ∈ wsX40, w ∈ wsX4_lastBut := by decide +kernel
set_option maxHeartbeats 8000000 in
set_option maxRecDepth 100000 in
theorem c_X4_lastBut (l : Launch) (dC : Nat → ClassId) (dI : Nat → Nat → Nat) (cA : Nat → ClassId) (ad : Nat → Nat → Nat) (n : Nat) (σ : ST) (a1 : Int32) (sz : Nat) (K : Option Nat → ST → Prop) (hwp : wp_X4_lastBut n σ a1 K) : Met l yX4_lastBut wsX4_lastBut ({ frames := 1, cells := 0, slots := 0, locals := 20 } : Room) (va_Pc [.ref (ad 4 0), .int a1] (preC dC dI cA (Wc cA ad n σ) sz)) (va_Qe (ad 5) K (atC dC dI cA (Wc cA ad n) (va_A (Wc cA ad n σ) sz)) (va_A (Wc cA ad n σ) sz)) 0 0 (va_A (Wc cA ad n σ) sz) := by
  refine Met.ofW (cc := cX4_lastBut) (maxL := 2) (ret := (some (.object "LinkQueues$Packet"))) (by decide) rfl ?_
  intro p e s m args below meth c s₁ B hml hv
  obtain ⟨rfl, hsz, hP, hK, hD0⟩ := hv
  have hx := B.exec
  have hb := B.bytes
  have hr := B.returns
  have hts := atoms_spec (ws := wsX4_lastBut) B.pre
  have hown : s.vm.findClass RX4 = some m.cls := findClass_of_methodNamed B.named
  have hlocks := B.notSynchronized
  subst hsz
  have hD := hD0.self (sz := s.heap.size)
  clear hD0
  generalize hAe : va_A (Wc cA ad n σ) s.heap.size = A at hD ⊢
  have hA : ∀ q : Nat, s.heap.size ≤ q → A q := fun q h => by rw [← hAe]; exact Or.inr h
  have hS : va_S A s.heap s.heap [] := va_S.rf
  have hkc : 0 ≤ 0 := Nat.le_refl 0
  have hks : 0 ≤ 0 := Nat.le_refl 0
  have hl := lv_entry ([.ref (ad 4 0), .int a1]) (n := 2) (Nat.le_of_ble_eq_true rfl)
  rw [lg_entry_eq]
  generalize (lg_sl ([.ref (ad 4 0), .int a1]) ++ List.replicate (2 - (lg_sl ([.ref (ad 4 0), .int a1])).length) Slot.unset).toArray = ls at hl ⊢
  have hl : lv_has ls 2 [(0, .ref (ad 4 0)), (1, .int a1)] := hl
  unfold wp_X4_lastBut at hwp
  generalize hHe : s.heap = H at hP ⊢
  have hS : va_S A s.heap H [] := by rw [← hHe]; exact va_S.rf
  clear hHe
  refine lv_iload_n hx hb dX4_lastBut_0 rfl (lv_at hl 1 rfl) ?_
  refine lv_if_lt (tgt := 27) hx hb dX4_lastBut_1 (by decide) (fun c_1 => ?_) (fun c_1 => ?_)
  · replace hwp := hwp.1 c_1
    refine lv_null hx hb dX4_lastBut_27 ?_
    exact q_aret (n := "LinkQueues$Packet") (ad := ad 5) (o := none) hx hb hr (fun t ht hW => ⟨⟨none, σ, rfl, hwp, by rw [ht]; exact hP, va_K.moved hW.alike hK, hD⟩, hS.F ht⟩) hS.2.2 dX4_lastBut_28 hlocks
  · replace hwp := hwp.2 c_1
    refine lv_iload_n hx hb dX4_lastBut_4 rfl (lv_at hl 1 rfl) ?_
    refine lv_bipush (v := 32) hx hb dX4_lastBut_5 (by decide) ?_
    refine lv_icmp_ge (tgt := 27) hx hb dX4_lastBut_7 (by decide) (fun c_7 => ?_) (fun c_7 => ?_)
    · replace hwp := hwp.1 c_7
      refine lv_null hx hb dX4_lastBut_27 ?_
      exact q_aret (n := "LinkQueues$Packet") (ad := ad 5) (o := none) hx hb hr (fun t ht hW => ⟨⟨none, σ, rfl, hwp, by rw [ht]; exact hP, va_K.moved hW.alike hK, hD⟩, hS.F ht⟩) hS.2.2 dX4_lastBut_28 hlocks
    · replace hwp := hwp.2 c_7
      refine lv_aload_n hx hb dX4_lastBut_10 rfl (lv_at hl 0 rfl) ?_
      refine va_get (D := (dC, dI)) (ci := 4) (v := .ref (ad 11 0)) (C := RX4) (T := TX4) (N := 2) hx hb hts iX4_lastBut_4 hown hK hP 5 atOutlog rfl 0 (by decide) (hts (.fieldLink RX4 11 "LinkQueues$Outlog" "row" "[LLinkQueues$Packet;") (by decide +kernel)) (fun _ h9 => h9) rfl dX4_lastBut_11 ?_
      refine lv_aload_n hx hb dX4_lastBut_14 rfl (lv_at hl 0 rfl) ?_
      refine va_get (D := (dC, dI)) (ci := 4) (v := .int (sI σ 65 0)) (C := RX4) (T := TX4) (N := 2) hx hb hts iX4_lastBut_4 hown hK hP 5 atOutlog rfl 1 (by decide) (hts (.fieldLink RX4 15 "LinkQueues$Outlog" "nth" "I") (by decide +kernel)) (fun _ h9 => h9) rfl dX4_lastBut_15 ?_
      refine lv_iload_n hx hb dX4_lastBut_18 rfl (lv_at hl 1 rfl) ?_
      refine lv_isub hx hb dX4_lastBut_19 ?_
      have hF := fA hD hS hA
      refine va_calli (va_runS (As := [.int ((sI σ 65 0) - a1)]) (rest := [.ref (ad 11 0)]) ⟨hx, hb, hml, hown, hts⟩ (c_X4_place l dC dI cA ad n σ ((sI σ 65 0) - a1) H.size _ hwp) (cwS 1 hts gX4_lastBut_X4_place rfl rfl rfl (by decide +kernel) ⟨Nat.le_of_ble_eq_true rfl, Nat.le_of_ble_eq_true rfl⟩) ⟨fbC, fun U hU hW => ⟨rfl, by rw [hU], by rw [hU]; exact hP, va_K.moved hW.alike hK, hD.weaken (fun _ _ _ _ => trivial)⟩⟩ rfl rfl hl.1 rfl (lv_room (Nat.le_of_ble_eq_true rfl)) dX4_lastBut_20 ⟨Nat.le_of_ble_eq_true rfl, Nat.le_of_ble_eq_true rfl⟩) hS (fun q _ h => hF q h) hF (fun r2 s1 t H1 locs ht hvm hwp hB hz1 hk1 hS => ?_)
      obtain ⟨hP1, hK1, hD1⟩ := hB
      rw [ht] at hP1
      have hD2 := hD1.weaken (fun _ q _ h => hF q.1 h)
      clear hP hD
      have hP := hP1
      have hD := hD2
      clear hP1 hD1 hD2 hK1 hk1 hz1 hF
      generalize H1 = H at hP hS ⊢
      obtain ⟨hi_3, hwp⟩ := hwp
      refine va_aldq (D := (dC, dI)) hx hb hK hP 6 4 atr11 rfl hi_3 dX4_lastBut_23 ?_
      refine lv_goto (tgt := 28) hx hb dX4_lastBut_24 (by decide) ?_
      exact q_aret (n := "LinkQueues$Packet") (ad := ad 5) (o := (sR s1 64 r2.toNatClampNeg)) hx hb hr (fun t ht hW => ⟨⟨(sR s1 64 r2.toNatClampNeg), s1, rfl, hwp, by rw [ht]; exact hP, va_K.moved hW.alike hK, hD⟩, hS.F ht⟩) hS.2.2 dX4_lastBut_28 hlocks
def wp_X6_add (n : Nat) (σ : ST) (j : Nat) (a1 : Nat) (K : ST → Prop) : Prop := j < 6 ∧
(((sR σ 97 j) = none → (∀ s4, s4 = upR σ 96 j (some a1) →
∀ s5, s5 = upR s4 97 j (some a1) →
∀ s6, s6 = upI s5 98 j ((sI s5 98 j) + 1) →
a1 < n ∧
∀ s8, s8 = upI s6 99 j ((sI s6 99 j) + (sI s6 82 a1)) →
K s8)) ∧ (∀ b_2, (sR σ 97 j) = some b_2 → (∃ b_9, (sR σ 97 j) = some b_9 ∧
b_9 < n ∧
∀ s12, s12 = upR σ 87 b_9 (some a1) →
∀ s13, s13 = upR s12 97 j (some a1) →
∀ s14, s14 = upI s13 98 j ((sI s13 98 j) + 1) →
a1 < n ∧
∀ s16, s16 = upI s14 99 j ((sI s14 99 j) + (sI s14 82 a1)) →
K s16)))
set_option maxRecDepth 20000 in
theorem iX6_add_6 : ∀ w ∈ wsX60, w ∈ wsX6_add := by decide +kernel
set_option maxRecDepth 20000 in
theorem iX6_add_5 : ∀ w ∈ wsX50, w ∈ wsX6_add := by decide +kernel
set_option maxHeartbeats 8000000 in
set_option maxRecDepth 100000 in
theorem c_X6_add (l : Launch) (dC : Nat → ClassId) (dI : Nat → Nat → Nat) (cA : Nat → ClassId) (ad : Nat → Nat → Nat) (n : Nat) (σ : ST) (j : Nat) (a1 : Nat) (sz : Nat) (K : ST → Prop) (hwp : wp_X6_add n σ j a1 K) : Met l yX6_add wsX6_add ({ frames := 0, cells := 0, slots := 0, locals := 0 } : Room) (va_Pc [.ref (ad 6 j), .ref (ad 5 a1)] (preC dC dI cA (Wc cA ad n σ) sz)) (va_Qv K (atC dC dI cA (Wc cA ad n) (va_A (Wc cA ad n σ) sz)) (va_A (Wc cA ad n σ) sz)) 0 0 (va_A (Wc cA ad n σ) sz) := by
  refine Met.ofW (cc := cX6_add) (maxL := 2) (ret := none) (by decide) rfl ?_
  intro p e s m args below meth c s₁ B hml hv
  obtain ⟨rfl, hsz, hP, hK, hD0⟩ := hv
  have hx := B.exec
  have hb := B.bytes
  have hr := B.returns
  have hts := atoms_spec (ws := wsX6_add) B.pre
  have hown : s.vm.findClass RX6 = some m.cls := findClass_of_methodNamed B.named
  have hlocks := B.notSynchronized
  subst hsz
  have hD := hD0.self (sz := s.heap.size)
  clear hD0
  generalize hAe : va_A (Wc cA ad n σ) s.heap.size = A at hD ⊢
  have hA : ∀ q : Nat, s.heap.size ≤ q → A q := fun q h => by rw [← hAe]; exact Or.inr h
  have hS : va_S A s.heap s.heap [] := va_S.rf
  have hkc : 0 ≤ 0 := Nat.le_refl 0
  have hks : 0 ≤ 0 := Nat.le_refl 0
  have hl := lv_entry ([.ref (ad 6 j), .ref (ad 5 a1)]) (n := 2) (Nat.le_of_ble_eq_true rfl)
  rw [lg_entry_eq]
  generalize (lg_sl ([.ref (ad 6 j), .ref (ad 5 a1)]) ++ List.replicate (2 - (lg_sl ([.ref (ad 6 j), .ref (ad 5 a1)])).length) Slot.unset).toArray = ls at hl ⊢
  have hl : lv_has ls 2 [(0, .ref (ad 6 j)), (1, .ref (ad 5 a1))] := hl
  unfold wp_X6_add at hwp
  generalize hHe : s.heap = H at hP ⊢
  have hS : va_S A s.heap H [] := by rw [← hHe]; exact va_S.rf
  clear hHe
  refine lv_aload_n hx hb dX6_add_0 rfl (lv_at hl 0 rfl) ?_
  obtain ⟨hb_1, hwp⟩ := hwp
  refine va_get (D := (dC, dI)) (ci := 6) (v := va_re (ad 5) (sR σ 97 j)) (C := RX6) (T := TX6) (N := 4) hx hb hts iX6_add_6 hown hK hP (13 + j) (atQueue hb_1) rfl 1 (by decide) (hts (.fieldLink RX6 13 "LinkQueues$Queue" "last" "LLinkQueues$Packet;") (by decide +kernel)) (fun _ h9 => h9) rfl dX6_add_1 ?_
  refine q_ifnonnull (tgt := 15) hx hb dX6_add_4 (by decide) (fun b_2 ho_3 => ?_) (fun ho_3 => ?_)
  · replace hwp := hwp.2 b_2 ho_3
    refine lv_aload_n hx hb dX6_add_15 rfl (lv_at hl 0 rfl) ?_
    refine va_get (D := (dC, dI)) (ci := 6) (v := va_re (ad 5) (sR σ 97 j)) (C := RX6) (T := TX6) (N := 4) hx hb hts iX6_add_6 hown hK hP (13 + j) (atQueue hb_1) rfl 1 (by decide) (hts (.fieldLink RX6 13 "LinkQueues$Queue" "last" "LLinkQueues$Packet;") (by decide +kernel)) (fun _ h9 => h9) rfl dX6_add_16 ?_
    refine lv_aload_n hx hb dX6_add_19 rfl (lv_at hl 1 rfl) ?_
    obtain ⟨b_9, ho_10, hwp⟩ := hwp
    rw [ho_10]
    obtain ⟨hb_11, hwp⟩ := hwp
    obtain ⟨s12, e_s12⟩ : ∃ z, z = upR σ 87 b_9 (some a1) := ⟨_, rfl⟩
    refine st_put (D := (dC, dI)) (ci := 5) (v := va_re (ad 5) (some a1)) (ty := (.object "LinkQueues$Packet")) (C := RX5) (T := TX5) (N := 8) (ws' := Wc cA ad n s12) hx hb hts iX6_add_5 tyX5 tyX5_ok nmX5 hown hK hP hD hS (31 + b_9) (atPacket hb_11) rfl 7 (by decide) (hts (.fieldLink RX6 23 "LinkQueues$Packet" "behind" "LLinkQueues$Packet;") (by decide +kernel)) (fun _ h9 => h9) rfl (by decide +kernel) (nar_re _ (ad 5) (some a1)) (fits_re _ (ad 5) (some a1)) (Nat.le_of_ble_eq_true rfl) dX6_add_20 (by rw [e_s12]; exact stPacket_7 hb_11 (some a1)) (fun H locs hP hD hS => ?_)
    replace hwp := hwp s12 e_s12
    refine lv_aload_n hx hb dX6_add_23 rfl (lv_at hl 0 rfl) ?_
    refine lv_aload_n hx hb dX6_add_24 rfl (lv_at hl 1 rfl) ?_
    obtain ⟨s13, e_s13⟩ : ∃ z, z = upR s12 97 j (some a1) := ⟨_, rfl⟩
    refine st_put (D := (dC, dI)) (ci := 6) (v := va_re (ad 5) (some a1)) (ty := (.object "LinkQueues$Packet")) (C := RX6) (T := TX6) (N := 4) (ws' := Wc cA ad n s13) hx hb hts iX6_add_6 tyX6 tyX6_ok nmX6 hown hK hP hD hS (13 + j) (atQueue hb_1) rfl 1 (by decide) (hts (.fieldLink RX6 13 "LinkQueues$Queue" "last" "LLinkQueues$Packet;") (by decide +kernel)) (fun _ h9 => h9) rfl (by decide +kernel) (nar_re _ (ad 5) (some a1)) (fits_re _ (ad 5) (some a1)) (Nat.le_of_ble_eq_true rfl) dX6_add_25 (by rw [e_s13]; exact stQueue_1 hb_1 (some a1)) (fun H locs hP hD hS => ?_)
    replace hwp := hwp s13 e_s13
    refine lv_aload_n hx hb dX6_add_28 rfl (lv_at hl 0 rfl) ?_
    refine lv_dup hx hb dX6_add_29 rfl ?_
    refine va_get (D := (dC, dI)) (ci := 6) (v := .int (sI s13 98 j)) (C := RX6) (T := TX6) (N := 4) hx hb hts iX6_add_6 hown hK hP (13 + j) (atQueue hb_1) rfl 2 (by decide) (hts (.fieldLink RX6 16 "LinkQueues$Queue" "packets" "I") (by decide +kernel)) (fun _ h9 => h9) rfl dX6_add_30 ?_
    refine lv_iconst (v := 1) hx hb dX6_add_33 (by decide) ?_
    refine lv_iadd hx hb dX6_add_34 ?_
    obtain ⟨s14, e_s14⟩ : ∃ z, z = upI s13 98 j ((sI s13 98 j) + 1) := ⟨_, rfl⟩
    refine st_put (D := (dC, dI)) (ci := 6) (v := .int ((sI s13 98 j) + 1)) (ty := .int) (C := RX6) (T := TX6) (N := 4) (ws' := Wc cA ad n s14) hx hb hts iX6_add_6 tyX6 tyX6_ok nmX6 hown hK hP hD hS (13 + j) (atQueue hb_1) rfl 2 (by decide) (hts (.fieldLink RX6 16 "LinkQueues$Queue" "packets" "I") (by decide +kernel)) (fun _ h9 => h9) rfl (by decide +kernel) rfl rfl (Nat.le_of_ble_eq_true rfl) dX6_add_35 (by rw [e_s14]; exact stQueue_2 hb_1 ((sI s13 98 j) + 1)) (fun H locs hP hD hS => ?_)
    replace hwp := hwp s14 e_s14
    refine lv_aload_n hx hb dX6_add_38 rfl (lv_at hl 0 rfl) ?_
    refine lv_dup hx hb dX6_add_39 rfl ?_
    refine va_get (D := (dC, dI)) (ci := 6) (v := .int (sI s14 99 j)) (C := RX6) (T := TX6) (N := 4) hx hb hts iX6_add_6 hown hK hP (13 + j) (atQueue hb_1) rfl 3 (by decide) (hts (.fieldLink RX6 20 "LinkQueues$Queue" "bytes" "I") (by decide +kernel)) (fun _ h9 => h9) rfl dX6_add_40 ?_
    refine lv_aload_n hx hb dX6_add_43 rfl (lv_at hl 1 rfl) ?_
    obtain ⟨hb_15, hwp⟩ := hwp
    refine va_get (D := (dC, dI)) (ci := 5) (v := .int (sI s14 82 a1)) (C := RX5) (T := TX5) (N := 8) hx hb hts iX6_add_5 hown hK hP (31 + a1) (atPacket hb_15) rfl 2 (by decide) (hts (.fieldLink RX6 28 "LinkQueues$Packet" "bytes" "I") (by decide +kernel)) (fun _ h9 => h9) rfl dX6_add_44 ?_
    refine lv_iadd hx hb dX6_add_47 ?_
    obtain ⟨s16, e_s16⟩ : ∃ z, z = upI s14 99 j ((sI s14 99 j) + (sI s14 82 a1)) := ⟨_, rfl⟩
    refine st_put (D := (dC, dI)) (ci := 6) (v := .int ((sI s14 99 j) + (sI s14 82 a1))) (ty := .int) (C := RX6) (T := TX6) (N := 4) (ws' := Wc cA ad n s16) hx hb hts iX6_add_6 tyX6 tyX6_ok nmX6 hown hK hP hD hS (13 + j) (atQueue hb_1) rfl 3 (by decide) (hts (.fieldLink RX6 20 "LinkQueues$Queue" "bytes" "I") (by decide +kernel)) (fun _ h9 => h9) rfl (by decide +kernel) rfl rfl (Nat.le_of_ble_eq_true rfl) dX6_add_48 (by rw [e_s16]; exact stQueue_3 hb_1 ((sI s14 99 j) + (sI s14 82 a1))) (fun H locs hP hD hS => ?_)
    replace hwp := hwp s16 e_s16
    exact W.vret hx hb hr (fun t ht hW => ⟨⟨s16, rfl, hwp, by rw [ht]; exact hP, va_K.moved hW.alike hK, hD⟩, hS.F ht⟩) hS.2.2 dX6_add_51
  · replace hwp := hwp.1 ho_3
    refine lv_aload_n hx hb dX6_add_7 rfl (lv_at hl 0 rfl) ?_
    refine lv_aload_n hx hb dX6_add_8 rfl (lv_at hl 1 rfl) ?_
    obtain ⟨s4, e_s4⟩ : ∃ z, z = upR σ 96 j (some a1) := ⟨_, rfl⟩
    refine st_put (D := (dC, dI)) (ci := 6) (v := va_re (ad 5) (some a1)) (ty := (.object "LinkQueues$Packet")) (C := RX6) (T := TX6) (N := 4) (ws' := Wc cA ad n s4) hx hb hts iX6_add_6 tyX6 tyX6_ok nmX6 hown hK hP hD hS (13 + j) (atQueue hb_1) rfl 0 (by decide) (hts (.fieldLink RX6 7 "LinkQueues$Queue" "first" "LLinkQueues$Packet;") (by decide +kernel)) (fun _ h9 => h9) rfl (by decide +kernel) (nar_re _ (ad 5) (some a1)) (fits_re _ (ad 5) (some a1)) (Nat.le_of_ble_eq_true rfl) dX6_add_9 (by rw [e_s4]; exact stQueue_0 hb_1 (some a1)) (fun H locs hP hD hS => ?_)
    replace hwp := hwp s4 e_s4
    refine lv_goto (tgt := 23) hx hb dX6_add_12 (by decide) ?_
    refine lv_aload_n hx hb dX6_add_23 rfl (lv_at hl 0 rfl) ?_
    refine lv_aload_n hx hb dX6_add_24 rfl (lv_at hl 1 rfl) ?_
    obtain ⟨s5, e_s5⟩ : ∃ z, z = upR s4 97 j (some a1) := ⟨_, rfl⟩
    refine st_put (D := (dC, dI)) (ci := 6) (v := va_re (ad 5) (some a1)) (ty := (.object "LinkQueues$Packet")) (C := RX6) (T := TX6) (N := 4) (ws' := Wc cA ad n s5) hx hb hts iX6_add_6 tyX6 tyX6_ok nmX6 hown hK hP hD hS (13 + j) (atQueue hb_1) rfl 1 (by decide) (hts (.fieldLink RX6 13 "LinkQueues$Queue" "last" "LLinkQueues$Packet;") (by decide +kernel)) (fun _ h9 => h9) rfl (by decide +kernel) (nar_re _ (ad 5) (some a1)) (fits_re _ (ad 5) (some a1)) (Nat.le_of_ble_eq_true rfl) dX6_add_25 (by rw [e_s5]; exact stQueue_1 hb_1 (some a1)) (fun H locs hP hD hS => ?_)
    replace hwp := hwp s5 e_s5
    refine lv_aload_n hx hb dX6_add_28 rfl (lv_at hl 0 rfl) ?_
    refine lv_dup hx hb dX6_add_29 rfl ?_
    refine va_get (D := (dC, dI)) (ci := 6) (v := .int (sI s5 98 j)) (C := RX6) (T := TX6) (N := 4) hx hb hts iX6_add_6 hown hK hP (13 + j) (atQueue hb_1) rfl 2 (by decide) (hts (.fieldLink RX6 16 "LinkQueues$Queue" "packets" "I") (by decide +kernel)) (fun _ h9 => h9) rfl dX6_add_30 ?_
    refine lv_iconst (v := 1) hx hb dX6_add_33 (by decide) ?_
    refine lv_iadd hx hb dX6_add_34 ?_
    obtain ⟨s6, e_s6⟩ : ∃ z, z = upI s5 98 j ((sI s5 98 j) + 1) := ⟨_, rfl⟩
    refine st_put (D := (dC, dI)) (ci := 6) (v := .int ((sI s5 98 j) + 1)) (ty := .int) (C := RX6) (T := TX6) (N := 4) (ws' := Wc cA ad n s6) hx hb hts iX6_add_6 tyX6 tyX6_ok nmX6 hown hK hP hD hS (13 + j) (atQueue hb_1) rfl 2 (by decide) (hts (.fieldLink RX6 16 "LinkQueues$Queue" "packets" "I") (by decide +kernel)) (fun _ h9 => h9) rfl (by decide +kernel) rfl rfl (Nat.le_of_ble_eq_true rfl) dX6_add_35 (by rw [e_s6]; exact stQueue_2 hb_1 ((sI s5 98 j) + 1)) (fun H locs hP hD hS => ?_)
    replace hwp := hwp s6 e_s6
    refine lv_aload_n hx hb dX6_add_38 rfl (lv_at hl 0 rfl) ?_
    refine lv_dup hx hb dX6_add_39 rfl ?_
    refine va_get (D := (dC, dI)) (ci := 6) (v := .int (sI s6 99 j)) (C := RX6) (T := TX6) (N := 4) hx hb hts iX6_add_6 hown hK hP (13 + j) (atQueue hb_1) rfl 3 (by decide) (hts (.fieldLink RX6 20 "LinkQueues$Queue" "bytes" "I") (by decide +kernel)) (fun _ h9 => h9) rfl dX6_add_40 ?_
    refine lv_aload_n hx hb dX6_add_43 rfl (lv_at hl 1 rfl) ?_
    obtain ⟨hb_7, hwp⟩ := hwp
    refine va_get (D := (dC, dI)) (ci := 5) (v := .int (sI s6 82 a1)) (C := RX5) (T := TX5) (N := 8) hx hb hts iX6_add_5 hown hK hP (31 + a1) (atPacket hb_7) rfl 2 (by decide) (hts (.fieldLink RX6 28 "LinkQueues$Packet" "bytes" "I") (by decide +kernel)) (fun _ h9 => h9) rfl dX6_add_44 ?_
    refine lv_iadd hx hb dX6_add_47 ?_
    obtain ⟨s8, e_s8⟩ : ∃ z, z = upI s6 99 j ((sI s6 99 j) + (sI s6 82 a1)) := ⟨_, rfl⟩
    refine st_put (D := (dC, dI)) (ci := 6) (v := .int ((sI s6 99 j) + (sI s6 82 a1))) (ty := .int) (C := RX6) (T := TX6) (N := 4) (ws' := Wc cA ad n s8) hx hb hts iX6_add_6 tyX6 tyX6_ok nmX6 hown hK hP hD hS (13 + j) (atQueue hb_1) rfl 3 (by decide) (hts (.fieldLink RX6 20 "LinkQueues$Queue" "bytes" "I") (by decide +kernel)) (fun _ h9 => h9) rfl (by decide +kernel) rfl rfl (Nat.le_of_ble_eq_true rfl) dX6_add_48 (by rw [e_s8]; exact stQueue_3 hb_1 ((sI s6 99 j) + (sI s6 82 a1))) (fun H locs hP hD hS => ?_)
    replace hwp := hwp s8 e_s8
    exact W.vret hx hb hr (fun t ht hW => ⟨⟨s8, rfl, hwp, by rw [ht]; exact hP, va_K.moved hW.alike hK, hD⟩, hS.F ht⟩) hS.2.2 dX6_add_51
def wp_X6_removeFirst (n : Nat) (σ : ST) (j : Nat) (K : ST → Prop) : Prop := j < 6 ∧
(((sR σ 96 j) = none → (K σ)) ∧ (∀ b_2, (sR σ 96 j) = some b_2 → (b_2 < n ∧
∀ s5, s5 = upR σ 96 j (sR σ 87 b_2) →
(((sR s5 96 j) = none → (∀ s8, s8 = upR s5 97 j none →
∀ s9, s9 = upR s8 87 b_2 none →
∀ s10, s10 = upI s9 98 j ((sI s9 98 j) - 1) →
∀ s11, s11 = upI s10 99 j ((sI s10 99 j) - (sI s10 82 b_2)) →
K s11)) ∧ (∀ b_6, (sR s5 96 j) = some b_6 → (∀ s12, s12 = upR s5 87 b_2 none →
∀ s13, s13 = upI s12 98 j ((sI s12 98 j) - 1) →
∀ s14, s14 = upI s13 99 j ((sI s13 99 j) - (sI s13 82 b_2)) →
K s14))))))
set_option maxRecDepth 20000 in
theorem iX6_removeFirst_6 : ∀ w ∈ wsX60, w ∈ wsX6_removeFirst := by decide +kernel
set_option maxRecDepth 20000 in
theorem iX6_removeFirst_5 : ∀ w ∈ wsX50, w ∈ wsX6_removeFirst := by decide +kernel
set_option maxHeartbeats 8000000 in
set_option maxRecDepth 100000 in
theorem c_X6_removeFirst (l : Launch) (dC : Nat → ClassId) (dI : Nat → Nat → Nat) (cA : Nat → ClassId) (ad : Nat → Nat → Nat) (n : Nat) (σ : ST) (j : Nat) (sz : Nat) (K : ST → Prop) (hwp : wp_X6_removeFirst n σ j K) : Met l yX6_removeFirst wsX6_removeFirst ({ frames := 0, cells := 0, slots := 0, locals := 0 } : Room) (va_Pc [.ref (ad 6 j)] (preC dC dI cA (Wc cA ad n σ) sz)) (va_Qv K (atC dC dI cA (Wc cA ad n) (va_A (Wc cA ad n σ) sz)) (va_A (Wc cA ad n σ) sz)) 0 0 (va_A (Wc cA ad n σ) sz) := by
  refine Met.ofW (cc := cX6_removeFirst) (maxL := 2) (ret := none) (by decide) rfl ?_
  intro p e s m args below meth c s₁ B hml hv
  obtain ⟨rfl, hsz, hP, hK, hD0⟩ := hv
  have hx := B.exec
  have hb := B.bytes
  have hr := B.returns
  have hts := atoms_spec (ws := wsX6_removeFirst) B.pre
  have hown : s.vm.findClass RX6 = some m.cls := findClass_of_methodNamed B.named
  have hlocks := B.notSynchronized
  subst hsz
  have hD := hD0.self (sz := s.heap.size)
  clear hD0
  generalize hAe : va_A (Wc cA ad n σ) s.heap.size = A at hD ⊢
  have hA : ∀ q : Nat, s.heap.size ≤ q → A q := fun q h => by rw [← hAe]; exact Or.inr h
  have hS : va_S A s.heap s.heap [] := va_S.rf
  have hkc : 0 ≤ 0 := Nat.le_refl 0
  have hks : 0 ≤ 0 := Nat.le_refl 0
  have hl := lv_entry ([.ref (ad 6 j)]) (n := 2) (Nat.le_of_ble_eq_true rfl)
  rw [lg_entry_eq]
  generalize (lg_sl ([.ref (ad 6 j)]) ++ List.replicate (2 - (lg_sl ([.ref (ad 6 j)])).length) Slot.unset).toArray = ls at hl ⊢
  have hl : lv_has ls 2 [(0, .ref (ad 6 j))] := hl
  unfold wp_X6_removeFirst at hwp
  generalize hHe : s.heap = H at hP ⊢
  have hS : va_S A s.heap H [] := by rw [← hHe]; exact va_S.rf
  clear hHe
  refine lv_aload_n hx hb dX6_removeFirst_0 rfl (lv_at hl 0 rfl) ?_
  obtain ⟨hb_1, hwp⟩ := hwp
  refine va_get (D := (dC, dI)) (ci := 6) (v := va_re (ad 5) (sR σ 96 j)) (C := RX6) (T := TX6) (N := 4) hx hb hts iX6_removeFirst_6 hown hK hP (13 + j) (atQueue hb_1) rfl 0 (by decide) (hts (.fieldLink RX6 7 "LinkQueues$Queue" "first" "LLinkQueues$Packet;") (by decide +kernel)) (fun _ h9 => h9) rfl dX6_removeFirst_1 ?_
  refine q_astore_n (lv' := [(1, va_re (ad 5) (sR σ 96 j)), (0, .ref (ad 6 j))]) hx hb dX6_removeFirst_4 rfl hl (by decide) rfl (fun ls hl => ?_)
  refine q_aload_n hx hb dX6_removeFirst_5 rfl (lv_at hl 0 rfl) ?_
  refine q_ifnonnull (tgt := 10) hx hb dX6_removeFirst_6 (by decide) (fun b_2 ho_3 => ?_) (fun ho_3 => ?_)
  · replace hwp := hwp.2 b_2 ho_3
    have hl : lv_has ls 2 [(1, .ref (ad 5 b_2)), (0, .ref (ad 6 j))] := by rw [ho_3] at hl; exact hl
    refine lv_aload_n hx hb dX6_removeFirst_10 rfl (lv_at hl 1 rfl) ?_
    refine lv_aload_n hx hb dX6_removeFirst_11 rfl (lv_at hl 0 rfl) ?_
    obtain ⟨hb_4, hwp⟩ := hwp
    refine va_get (D := (dC, dI)) (ci := 5) (v := va_re (ad 5) (sR σ 87 b_2)) (C := RX5) (T := TX5) (N := 8) hx hb hts iX6_removeFirst_5 hown hK hP (31 + b_2) (atPacket hb_4) rfl 7 (by decide) (hts (.fieldLink RX6 23 "LinkQueues$Packet" "behind" "LLinkQueues$Packet;") (by decide +kernel)) (fun _ h9 => h9) rfl dX6_removeFirst_12 ?_
    obtain ⟨s5, e_s5⟩ : ∃ z, z = upR σ 96 j (sR σ 87 b_2) := ⟨_, rfl⟩
    refine st_put (D := (dC, dI)) (ci := 6) (v := va_re (ad 5) (sR σ 87 b_2)) (ty := (.object "LinkQueues$Packet")) (C := RX6) (T := TX6) (N := 4) (ws' := Wc cA ad n s5) hx hb hts iX6_removeFirst_6 tyX6 tyX6_ok nmX6 hown hK hP hD hS (13 + j) (atQueue hb_1) rfl 0 (by decide) (hts (.fieldLink RX6 7 "LinkQueues$Queue" "first" "LLinkQueues$Packet;") (by decide +kernel)) (fun _ h9 => h9) rfl (by decide +kernel) (nar_re _ (ad 5) (sR σ 87 b_2)) (fits_re _ (ad 5) (sR σ 87 b_2)) (Nat.le_of_ble_eq_true rfl) dX6_removeFirst_15 (by rw [e_s5]; exact stQueue_0 hb_1 (sR σ 87 b_2)) (fun H locs hP hD hS => ?_)
    replace hwp := hwp s5 e_s5
    refine lv_aload_n hx hb dX6_removeFirst_18 rfl (lv_at hl 1 rfl) ?_
    refine va_get (D := (dC, dI)) (ci := 6) (v := va_re (ad 5) (sR s5 96 j)) (C := RX6) (T := TX6) (N := 4) hx hb hts iX6_removeFirst_6 hown hK hP (13 + j) (atQueue hb_1) rfl 0 (by decide) (hts (.fieldLink RX6 7 "LinkQueues$Queue" "first" "LLinkQueues$Packet;") (by decide +kernel)) (fun _ h9 => h9) rfl dX6_removeFirst_19 ?_
    refine q_ifnonnull (tgt := 30) hx hb dX6_removeFirst_22 (by decide) (fun b_6 ho_7 => ?_) (fun ho_7 => ?_)
    · replace hwp := hwp.2 b_6 ho_7
      refine lv_aload_n hx hb dX6_removeFirst_30 rfl (lv_at hl 0 rfl) ?_
      refine lv_null hx hb dX6_removeFirst_31 ?_
      obtain ⟨s12, e_s12⟩ : ∃ z, z = upR s5 87 b_2 none := ⟨_, rfl⟩
      refine st_put (D := (dC, dI)) (ci := 5) (v := va_re (ad 5) none) (ty := (.object "LinkQueues$Packet")) (C := RX5) (T := TX5) (N := 8) (ws' := Wc cA ad n s12) hx hb hts iX6_removeFirst_5 tyX5 tyX5_ok nmX5 hown hK hP hD hS (31 + b_2) (atPacket hb_4) rfl 7 (by decide) (hts (.fieldLink RX6 23 "LinkQueues$Packet" "behind" "LLinkQueues$Packet;") (by decide +kernel)) (fun _ h9 => h9) rfl (by decide +kernel) (nar_re _ (ad 5) none) (fits_re _ (ad 5) none) (Nat.le_of_ble_eq_true rfl) dX6_removeFirst_32 (by rw [e_s12]; exact stPacket_7 hb_4 none) (fun H locs hP hD hS => ?_)
      replace hwp := hwp s12 e_s12
      refine lv_aload_n hx hb dX6_removeFirst_35 rfl (lv_at hl 1 rfl) ?_
      refine lv_dup hx hb dX6_removeFirst_36 rfl ?_
      refine va_get (D := (dC, dI)) (ci := 6) (v := .int (sI s12 98 j)) (C := RX6) (T := TX6) (N := 4) hx hb hts iX6_removeFirst_6 hown hK hP (13 + j) (atQueue hb_1) rfl 2 (by decide) (hts (.fieldLink RX6 16 "LinkQueues$Queue" "packets" "I") (by decide +kernel)) (fun _ h9 => h9) rfl dX6_removeFirst_37 ?_
      refine lv_iconst (v := 1) hx hb dX6_removeFirst_40 (by decide) ?_
      refine lv_isub hx hb dX6_removeFirst_41 ?_
      obtain ⟨s13, e_s13⟩ : ∃ z, z = upI s12 98 j ((sI s12 98 j) - 1) := ⟨_, rfl⟩
      refine st_put (D := (dC, dI)) (ci := 6) (v := .int ((sI s12 98 j) - 1)) (ty := .int) (C := RX6) (T := TX6) (N := 4) (ws' := Wc cA ad n s13) hx hb hts iX6_removeFirst_6 tyX6 tyX6_ok nmX6 hown hK hP hD hS (13 + j) (atQueue hb_1) rfl 2 (by decide) (hts (.fieldLink RX6 16 "LinkQueues$Queue" "packets" "I") (by decide +kernel)) (fun _ h9 => h9) rfl (by decide +kernel) rfl rfl (Nat.le_of_ble_eq_true rfl) dX6_removeFirst_42 (by rw [e_s13]; exact stQueue_2 hb_1 ((sI s12 98 j) - 1)) (fun H locs hP hD hS => ?_)
      replace hwp := hwp s13 e_s13
      refine lv_aload_n hx hb dX6_removeFirst_45 rfl (lv_at hl 1 rfl) ?_
      refine lv_dup hx hb dX6_removeFirst_46 rfl ?_
      refine va_get (D := (dC, dI)) (ci := 6) (v := .int (sI s13 99 j)) (C := RX6) (T := TX6) (N := 4) hx hb hts iX6_removeFirst_6 hown hK hP (13 + j) (atQueue hb_1) rfl 3 (by decide) (hts (.fieldLink RX6 20 "LinkQueues$Queue" "bytes" "I") (by decide +kernel)) (fun _ h9 => h9) rfl dX6_removeFirst_47 ?_
      refine lv_aload_n hx hb dX6_removeFirst_50 rfl (lv_at hl 0 rfl) ?_
      refine va_get (D := (dC, dI)) (ci := 5) (v := .int (sI s13 82 b_2)) (C := RX5) (T := TX5) (N := 8) hx hb hts iX6_removeFirst_5 hown hK hP (31 + b_2) (atPacket hb_4) rfl 2 (by decide) (hts (.fieldLink RX6 28 "LinkQueues$Packet" "bytes" "I") (by decide +kernel)) (fun _ h9 => h9) rfl dX6_removeFirst_51 ?_
      refine lv_isub hx hb dX6_removeFirst_54 ?_
      obtain ⟨s14, e_s14⟩ : ∃ z, z = upI s13 99 j ((sI s13 99 j) - (sI s13 82 b_2)) := ⟨_, rfl⟩
      refine st_put (D := (dC, dI)) (ci := 6) (v := .int ((sI s13 99 j) - (sI s13 82 b_2))) (ty := .int) (C := RX6) (T := TX6) (N := 4) (ws' := Wc cA ad n s14) hx hb hts iX6_removeFirst_6 tyX6 tyX6_ok nmX6 hown hK hP hD hS (13 + j) (atQueue hb_1) rfl 3 (by decide) (hts (.fieldLink RX6 20 "LinkQueues$Queue" "bytes" "I") (by decide +kernel)) (fun _ h9 => h9) rfl (by decide +kernel) rfl rfl (Nat.le_of_ble_eq_true rfl) dX6_removeFirst_55 (by rw [e_s14]; exact stQueue_3 hb_1 ((sI s13 99 j) - (sI s13 82 b_2))) (fun H locs hP hD hS => ?_)
      replace hwp := hwp s14 e_s14
      exact W.vret hx hb hr (fun t ht hW => ⟨⟨s14, rfl, hwp, by rw [ht]; exact hP, va_K.moved hW.alike hK, hD⟩, hS.F ht⟩) hS.2.2 dX6_removeFirst_58
    · replace hwp := hwp.1 ho_7
      refine lv_aload_n hx hb dX6_removeFirst_25 rfl (lv_at hl 1 rfl) ?_
      refine lv_null hx hb dX6_removeFirst_26 ?_
      obtain ⟨s8, e_s8⟩ : ∃ z, z = upR s5 97 j none := ⟨_, rfl⟩
      refine st_put (D := (dC, dI)) (ci := 6) (v := va_re (ad 5) none) (ty := (.object "LinkQueues$Packet")) (C := RX6) (T := TX6) (N := 4) (ws' := Wc cA ad n s8) hx hb hts iX6_removeFirst_6 tyX6 tyX6_ok nmX6 hown hK hP hD hS (13 + j) (atQueue hb_1) rfl 1 (by decide) (hts (.fieldLink RX6 13 "LinkQueues$Queue" "last" "LLinkQueues$Packet;") (by decide +kernel)) (fun _ h9 => h9) rfl (by decide +kernel) (nar_re _ (ad 5) none) (fits_re _ (ad 5) none) (Nat.le_of_ble_eq_true rfl) dX6_removeFirst_27 (by rw [e_s8]; exact stQueue_1 hb_1 none) (fun H locs hP hD hS => ?_)
      replace hwp := hwp s8 e_s8
      refine lv_aload_n hx hb dX6_removeFirst_30 rfl (lv_at hl 0 rfl) ?_
      refine lv_null hx hb dX6_removeFirst_31 ?_
      obtain ⟨s9, e_s9⟩ : ∃ z, z = upR s8 87 b_2 none := ⟨_, rfl⟩
      refine st_put (D := (dC, dI)) (ci := 5) (v := va_re (ad 5) none) (ty := (.object "LinkQueues$Packet")) (C := RX5) (T := TX5) (N := 8) (ws' := Wc cA ad n s9) hx hb hts iX6_removeFirst_5 tyX5 tyX5_ok nmX5 hown hK hP hD hS (31 + b_2) (atPacket hb_4) rfl 7 (by decide) (hts (.fieldLink RX6 23 "LinkQueues$Packet" "behind" "LLinkQueues$Packet;") (by decide +kernel)) (fun _ h9 => h9) rfl (by decide +kernel) (nar_re _ (ad 5) none) (fits_re _ (ad 5) none) (Nat.le_of_ble_eq_true rfl) dX6_removeFirst_32 (by rw [e_s9]; exact stPacket_7 hb_4 none) (fun H locs hP hD hS => ?_)
      replace hwp := hwp s9 e_s9
      refine lv_aload_n hx hb dX6_removeFirst_35 rfl (lv_at hl 1 rfl) ?_
      refine lv_dup hx hb dX6_removeFirst_36 rfl ?_
      refine va_get (D := (dC, dI)) (ci := 6) (v := .int (sI s9 98 j)) (C := RX6) (T := TX6) (N := 4) hx hb hts iX6_removeFirst_6 hown hK hP (13 + j) (atQueue hb_1) rfl 2 (by decide) (hts (.fieldLink RX6 16 "LinkQueues$Queue" "packets" "I") (by decide +kernel)) (fun _ h9 => h9) rfl dX6_removeFirst_37 ?_
      refine lv_iconst (v := 1) hx hb dX6_removeFirst_40 (by decide) ?_
      refine lv_isub hx hb dX6_removeFirst_41 ?_
      obtain ⟨s10, e_s10⟩ : ∃ z, z = upI s9 98 j ((sI s9 98 j) - 1) := ⟨_, rfl⟩
      refine st_put (D := (dC, dI)) (ci := 6) (v := .int ((sI s9 98 j) - 1)) (ty := .int) (C := RX6) (T := TX6) (N := 4) (ws' := Wc cA ad n s10) hx hb hts iX6_removeFirst_6 tyX6 tyX6_ok nmX6 hown hK hP hD hS (13 + j) (atQueue hb_1) rfl 2 (by decide) (hts (.fieldLink RX6 16 "LinkQueues$Queue" "packets" "I") (by decide +kernel)) (fun _ h9 => h9) rfl (by decide +kernel) rfl rfl (Nat.le_of_ble_eq_true rfl) dX6_removeFirst_42 (by rw [e_s10]; exact stQueue_2 hb_1 ((sI s9 98 j) - 1)) (fun H locs hP hD hS => ?_)
      replace hwp := hwp s10 e_s10
      refine lv_aload_n hx hb dX6_removeFirst_45 rfl (lv_at hl 1 rfl) ?_
      refine lv_dup hx hb dX6_removeFirst_46 rfl ?_
      refine va_get (D := (dC, dI)) (ci := 6) (v := .int (sI s10 99 j)) (C := RX6) (T := TX6) (N := 4) hx hb hts iX6_removeFirst_6 hown hK hP (13 + j) (atQueue hb_1) rfl 3 (by decide) (hts (.fieldLink RX6 20 "LinkQueues$Queue" "bytes" "I") (by decide +kernel)) (fun _ h9 => h9) rfl dX6_removeFirst_47 ?_
      refine lv_aload_n hx hb dX6_removeFirst_50 rfl (lv_at hl 0 rfl) ?_
      refine va_get (D := (dC, dI)) (ci := 5) (v := .int (sI s10 82 b_2)) (C := RX5) (T := TX5) (N := 8) hx hb hts iX6_removeFirst_5 hown hK hP (31 + b_2) (atPacket hb_4) rfl 2 (by decide) (hts (.fieldLink RX6 28 "LinkQueues$Packet" "bytes" "I") (by decide +kernel)) (fun _ h9 => h9) rfl dX6_removeFirst_51 ?_
      refine lv_isub hx hb dX6_removeFirst_54 ?_
      obtain ⟨s11, e_s11⟩ : ∃ z, z = upI s10 99 j ((sI s10 99 j) - (sI s10 82 b_2)) := ⟨_, rfl⟩
      refine st_put (D := (dC, dI)) (ci := 6) (v := .int ((sI s10 99 j) - (sI s10 82 b_2))) (ty := .int) (C := RX6) (T := TX6) (N := 4) (ws' := Wc cA ad n s11) hx hb hts iX6_removeFirst_6 tyX6 tyX6_ok nmX6 hown hK hP hD hS (13 + j) (atQueue hb_1) rfl 3 (by decide) (hts (.fieldLink RX6 20 "LinkQueues$Queue" "bytes" "I") (by decide +kernel)) (fun _ h9 => h9) rfl (by decide +kernel) rfl rfl (Nat.le_of_ble_eq_true rfl) dX6_removeFirst_55 (by rw [e_s11]; exact stQueue_3 hb_1 ((sI s10 99 j) - (sI s10 82 b_2))) (fun H locs hP hD hS => ?_)
      replace hwp := hwp s11 e_s11
      exact W.vret hx hb hr (fun t ht hW => ⟨⟨s11, rfl, hwp, by rw [ht]; exact hP, va_K.moved hW.alike hK, hD⟩, hS.F ht⟩) hS.2.2 dX6_removeFirst_58
  · replace hwp := hwp.1 ho_3
    have hl : lv_has ls 2 [(1, .null), (0, .ref (ad 6 j))] := by rw [ho_3] at hl; exact hl
    exact W.vret hx hb hr (fun t ht hW => ⟨⟨σ, rfl, hwp, by rw [ht]; exact hP, va_K.moved hW.alike hK, hD⟩, hS.F ht⟩) hS.2.2 dX6_removeFirst_9
