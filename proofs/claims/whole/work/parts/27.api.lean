def wp_X5_init (n : Nat) (σ : ST) (j : Nat) (a1 : Int32) (a2 : Nat) (a3 : Int32) (a4 : Int32) (a5 : Int32) (K : ST → Prop) : Prop := j < n ∧
∀ s2, s2 = upI σ 85 j 0 →
∀ s3, s3 = upI s2 86 j 0 →
∀ s4, s4 = upR s3 87 j none →
∀ s5, s5 = upI s4 80 j a1 →
∀ s6, s6 = upR s5 81 j (some a2) →
∀ s7, s7 = upI s6 82 j a3 →
∀ s8, s8 = upI s7 83 j a4 →
isB a5 ∧
∀ s9, s9 = upI s8 84 j a5 →
K s9
set_option maxRecDepth 20000 in
theorem iX5_init_5 : ∀ w ∈ wsX50, w ∈ wsX5_init := by decide +kernel
set_option maxHeartbeats 8000000 in
set_option maxRecDepth 100000 in
theorem c_X5_init (l : Launch) (dC : Nat → ClassId) (dI : Nat → Nat → Nat) (cA : Nat → ClassId) (ad : Nat → Nat → Nat) (n : Nat) (σ : ST) (j : Nat) (a1 : Int32) (a2 : Nat) (a3 : Int32) (a4 : Int32) (a5 : Int32) (sz : Nat) (K : ST → Prop) (hwp : wp_X5_init n σ j a1 a2 a3 a4 a5 K) : Met l yX5_init wsX5_init ({ frames := 1, cells := 0, slots := 0, locals := 12 } : Room) (va_Pc [.ref (ad 5 j), .int a1, .ref (ad 2 a2), .int a3, .int a4, .int a5] (preC dC dI cA (Wc cA ad n σ) sz)) (va_Qv K (atC dC dI cA (Wc cA ad n) (va_A (Wc cA ad n σ) sz)) (va_A (Wc cA ad n σ) sz)) 0 0 (va_A (Wc cA ad n σ) sz) := by
  refine Met.ofW (cc := cX5_init) (maxL := 6) (ret := none) (by decide) rfl ?_
  intro p e s m args below meth c s₁ B hml hv
  obtain ⟨rfl, hsz, hP, hK, hD0⟩ := hv
  have hx := B.exec
  have hb := B.bytes
  have hr := B.returns
  have hts := atoms_spec (ws := wsX5_init) B.pre
  have hown : s.vm.findClass RX5 = some m.cls := findClass_of_methodNamed B.named
  have hlocks := B.notSynchronized
  subst hsz
  have hD := hD0.self (sz := s.heap.size)
  clear hD0
  generalize hAe : va_A (Wc cA ad n σ) s.heap.size = A at hD ⊢
  have hin : meth.name = "<init>" := (name_of_methodNamed B.named B.method).1
  have hA : ∀ q : Nat, s.heap.size ≤ q → A q := fun q h => by rw [← hAe]; exact Or.inr h
  have hS : va_S A s.heap s.heap [] := va_S.rf
  have hkc : 0 ≤ 0 := Nat.le_refl 0
  have hks : 0 ≤ 0 := Nat.le_refl 0
  have hl := lv_entry ([.ref (ad 5 j), .int a1, .ref (ad 2 a2), .int a3, .int a4, .int a5]) (n := 6) (Nat.le_of_ble_eq_true rfl)
  rw [lg_entry_eq]
  generalize (lg_sl ([.ref (ad 5 j), .int a1, .ref (ad 2 a2), .int a3, .int a4, .int a5]) ++ List.replicate (6 - (lg_sl ([.ref (ad 5 j), .int a1, .ref (ad 2 a2), .int a3, .int a4, .int a5])).length) Slot.unset).toArray = ls at hl ⊢
  have hl : lv_has ls 6 [(0, .ref (ad 5 j)), (1, .int a1), (2, .ref (ad 2 a2)), (3, .int a3), (4, .int a4), (5, .int a5)] := hl
  unfold wp_X5_init at hwp
  generalize hHe : s.heap = H at hP ⊢
  have hS : va_S A s.heap H [] := by rw [← hHe]; exact va_S.rf
  clear hHe
  refine lv_aload_n hx hb dX5_init_0 rfl (lv_at hl 0 rfl) ?_
  refine W.objInit hx hb hown (hts (.methodLink RX5 1 objectInit) (by decide +kernel)) (hts (.instanceMethod objectInit) (by decide +kernel)) (hts _ (List.mem_cons_of_mem _ (List.mem_append_left _ (List.mem_of_getElem? (i := 2) rfl)))) rfl (by rw [hml]; exact hl.1) rfl dX5_init_1 (Nat.le_of_ble_eq_true rfl) (Nat.le_of_ble_eq_true rfl) ?_
  refine W.eq (g2 := F0 m 4 ls []) rfl ?_
  refine lv_aload_n hx hb dX5_init_4 rfl (lv_at hl 0 rfl) ?_
  refine lv_iconst (v := 0) hx hb dX5_init_5 (by decide) ?_
  obtain ⟨hb_1, hwp⟩ := hwp
  obtain ⟨s2, e_s2⟩ : ∃ z, z = upI σ 85 j 0 := ⟨_, rfl⟩
  refine st_put (D := (dC, dI)) (ci := 5) (v := .int 0) (ty := .boolean) (C := RX5) (T := TX5) (N := 8) (ws' := Wc cA ad n s2) hx hb hts iX5_init_5 tyX5 tyX5_ok nmX5 hown hK hP hD hS (31 + j) (atPacket hb_1) rfl 5 (by decide) (hts (.fieldLink RX5 7 "LinkQueues$Packet" "marked" "Z") (by decide +kernel)) (fun _ h9 => h9) rfl (by decide +kernel) rfl rfl (Nat.le_of_ble_eq_true rfl) dX5_init_6 (by rw [e_s2]; exact stPacket_5 hb_1 0) (fun H locs hP hD hS => ?_)
  replace hwp := hwp s2 e_s2
  refine lv_aload_n hx hb dX5_init_9 rfl (lv_at hl 0 rfl) ?_
  refine lv_iconst (v := 0) hx hb dX5_init_10 (by decide) ?_
  obtain ⟨s3, e_s3⟩ : ∃ z, z = upI s2 86 j 0 := ⟨_, rfl⟩
  refine st_put (D := (dC, dI)) (ci := 5) (v := .int 0) (ty := .int) (C := RX5) (T := TX5) (N := 8) (ws' := Wc cA ad n s3) hx hb hts iX5_init_5 tyX5 tyX5_ok nmX5 hown hK hP hD hS (31 + j) (atPacket hb_1) rfl 6 (by decide) (hts (.fieldLink RX5 13 "LinkQueues$Packet" "wait" "I") (by decide +kernel)) (fun _ h9 => h9) rfl (by decide +kernel) rfl rfl (Nat.le_of_ble_eq_true rfl) dX5_init_11 (by rw [e_s3]; exact stPacket_6 hb_1 0) (fun H locs hP hD hS => ?_)
  replace hwp := hwp s3 e_s3
  refine lv_aload_n hx hb dX5_init_14 rfl (lv_at hl 0 rfl) ?_
  refine lv_null hx hb dX5_init_15 ?_
  obtain ⟨s4, e_s4⟩ : ∃ z, z = upR s3 87 j none := ⟨_, rfl⟩
  refine st_put (D := (dC, dI)) (ci := 5) (v := va_re (ad 5) none) (ty := (.object "LinkQueues$Packet")) (C := RX5) (T := TX5) (N := 8) (ws' := Wc cA ad n s4) hx hb hts iX5_init_5 tyX5 tyX5_ok nmX5 hown hK hP hD hS (31 + j) (atPacket hb_1) rfl 7 (by decide) (hts (.fieldLink RX5 17 "LinkQueues$Packet" "behind" "LLinkQueues$Packet;") (by decide +kernel)) (fun _ h9 => h9) rfl (by decide +kernel) (nar_re _ (ad 5) none) (fits_re _ (ad 5) none) (Nat.le_of_ble_eq_true rfl) dX5_init_16 (by rw [e_s4]; exact stPacket_7 hb_1 none) (fun H locs hP hD hS => ?_)
  replace hwp := hwp s4 e_s4
  refine lv_aload_n hx hb dX5_init_19 rfl (lv_at hl 0 rfl) ?_
  refine lv_iload_n hx hb dX5_init_20 rfl (lv_at hl 1 rfl) ?_
  obtain ⟨s5, e_s5⟩ : ∃ z, z = upI s4 80 j a1 := ⟨_, rfl⟩
  refine st_putF (D := (dC, dI)) (ci := 5) (v := .int a1) (ty := .int) (C := RX5) (T := TX5) (N := 8) (ws' := Wc cA ad n s5) hx hb hts iX5_init_5 tyX5 tyX5_ok nmX5 hown hK hP hD hS (31 + j) (atPacket hb_1) rfl 0 (by decide) (hts (.fieldLink RX5 21 "LinkQueues$Packet" "number" "I") (by decide +kernel)) (fun _ h9 => h9) rfl hin rfl (by decide +kernel) rfl rfl (Nat.le_of_ble_eq_true rfl) dX5_init_21 (by rw [e_s5]; exact stPacket_0 hb_1 a1) (fun H locs hP hD hS => ?_)
  replace hwp := hwp s5 e_s5
  refine lv_aload_n hx hb dX5_init_24 rfl (lv_at hl 0 rfl) ?_
  refine lv_aload_n hx hb dX5_init_25 rfl (lv_at hl 2 rfl) ?_
  obtain ⟨s6, e_s6⟩ : ∃ z, z = upR s5 81 j (some a2) := ⟨_, rfl⟩
  refine st_putF (D := (dC, dI)) (ci := 5) (v := va_re (ad 2) (some a2)) (ty := (.object "LinkQueues$Flow")) (C := RX5) (T := TX5) (N := 8) (ws' := Wc cA ad n s6) hx hb hts iX5_init_5 tyX5 tyX5_ok nmX5 hown hK hP hD hS (31 + j) (atPacket hb_1) rfl 1 (by decide) (hts (.fieldLink RX5 24 "LinkQueues$Packet" "owner" "LLinkQueues$Flow;") (by decide +kernel)) (fun _ h9 => h9) rfl hin rfl (by decide +kernel) (nar_re _ (ad 2) (some a2)) (fits_re _ (ad 2) (some a2)) (Nat.le_of_ble_eq_true rfl) dX5_init_26 (by rw [e_s6]; exact stPacket_1 hb_1 (some a2)) (fun H locs hP hD hS => ?_)
  replace hwp := hwp s6 e_s6
  refine lv_aload_n hx hb dX5_init_29 rfl (lv_at hl 0 rfl) ?_
  refine lv_iload_n hx hb dX5_init_30 rfl (lv_at hl 3 rfl) ?_
  obtain ⟨s7, e_s7⟩ : ∃ z, z = upI s6 82 j a3 := ⟨_, rfl⟩
  refine st_putF (D := (dC, dI)) (ci := 5) (v := .int a3) (ty := .int) (C := RX5) (T := TX5) (N := 8) (ws' := Wc cA ad n s7) hx hb hts iX5_init_5 tyX5 tyX5_ok nmX5 hown hK hP hD hS (31 + j) (atPacket hb_1) rfl 2 (by decide) (hts (.fieldLink RX5 28 "LinkQueues$Packet" "bytes" "I") (by decide +kernel)) (fun _ h9 => h9) rfl hin rfl (by decide +kernel) rfl rfl (Nat.le_of_ble_eq_true rfl) dX5_init_31 (by rw [e_s7]; exact stPacket_2 hb_1 a3) (fun H locs hP hD hS => ?_)
  replace hwp := hwp s7 e_s7
  refine lv_aload_n hx hb dX5_init_34 rfl (lv_at hl 0 rfl) ?_
  refine lv_iload hx hb dX5_init_35 (lv_at hl 4 rfl) ?_
  obtain ⟨s8, e_s8⟩ : ∃ z, z = upI s7 83 j a4 := ⟨_, rfl⟩
  refine st_putF (D := (dC, dI)) (ci := 5) (v := .int a4) (ty := .int) (C := RX5) (T := TX5) (N := 8) (ws' := Wc cA ad n s8) hx hb hts iX5_init_5 tyX5 tyX5_ok nmX5 hown hK hP hD hS (31 + j) (atPacket hb_1) rfl 3 (by decide) (hts (.fieldLink RX5 31 "LinkQueues$Packet" "cameAt" "I") (by decide +kernel)) (fun _ h9 => h9) rfl hin rfl (by decide +kernel) rfl rfl (Nat.le_of_ble_eq_true rfl) dX5_init_37 (by rw [e_s8]; exact stPacket_3 hb_1 a4) (fun H locs hP hD hS => ?_)
  replace hwp := hwp s8 e_s8
  refine lv_aload_n hx hb dX5_init_40 rfl (lv_at hl 0 rfl) ?_
  refine lv_iload hx hb dX5_init_41 (lv_at hl 5 rfl) ?_
  obtain ⟨hB_10, hwp⟩ := hwp
  obtain ⟨s9, e_s9⟩ : ∃ z, z = upI s8 84 j a5 := ⟨_, rfl⟩
  refine st_putF (D := (dC, dI)) (ci := 5) (v := .int a5) (ty := .boolean) (C := RX5) (T := TX5) (N := 8) (ws' := Wc cA ad n s9) hx hb hts iX5_init_5 tyX5 tyX5_ok nmX5 hown hK hP hD hS (31 + j) (atPacket hb_1) rfl 4 (by decide) (hts (.fieldLink RX5 34 "LinkQueues$Packet" "markable" "Z") (by decide +kernel)) (fun _ h9 => h9) rfl hin rfl (by decide +kernel) (isB_nar hB_10) (isB_fits hB_10) (Nat.le_of_ble_eq_true rfl) dX5_init_43 (by rw [e_s9]; exact stPacket_4 hb_1 a5) (fun H locs hP hD hS => ?_)
  replace hwp := hwp s9 e_s9
  exact W.vret hx hb hr (fun t ht hW => ⟨⟨s9, rfl, hwp, by rw [ht]; exact hP, va_K.moved hW.alike hK, hD⟩, hS.F ht⟩) hS.2.2 dX5_init_46
def wp_X8_free (n : Nat) (σ : ST) (K : UInt64 → ST → Prop) : Prop := K (sD σ 138 0) σ
set_option maxRecDepth 20000 in
theorem iX8_free_8 : ∀ w ∈ wsX80, w ∈ wsX8_free := by decide +kernel
set_option maxHeartbeats 8000000 in
set_option maxRecDepth 100000 in
theorem c_X8_free (l : Launch) (dC : Nat → ClassId) (dI : Nat → Nat → Nat) (cA : Nat → ClassId) (ad : Nat → Nat → Nat) (n : Nat) (σ : ST) (sz : Nat) (K : UInt64 → ST → Prop) (hwp : wp_X8_free n σ K) : Met l yX8_free wsX8_free ({ frames := 0, cells := 0, slots := 0, locals := 0 } : Room) (va_Pc [.ref (ad 8 0)] (preC dC dI cA (Wc cA ad n σ) sz)) (va_Qd K (atC dC dI cA (Wc cA ad n) (va_A (Wc cA ad n σ) sz)) (va_A (Wc cA ad n σ) sz)) 0 0 (va_A (Wc cA ad n σ) sz) := by
  refine Met.ofW (cc := cX8_free) (maxL := 1) (ret := (some .double)) (by decide) rfl ?_
  intro p e s m args below meth c s₁ B hml hv
  obtain ⟨rfl, hsz, hP, hK, hD0⟩ := hv
  have hx := B.exec
  have hb := B.bytes
  have hr := B.returns
  have hts := atoms_spec (ws := wsX8_free) B.pre
  have hown : s.vm.findClass RX8 = some m.cls := findClass_of_methodNamed B.named
  have hlocks := B.notSynchronized
  subst hsz
  have hD := hD0.self (sz := s.heap.size)
  clear hD0
  generalize hAe : va_A (Wc cA ad n σ) s.heap.size = A at hD ⊢
  have hA : ∀ q : Nat, s.heap.size ≤ q → A q := fun q h => by rw [← hAe]; exact Or.inr h
  have hS : va_S A s.heap s.heap [] := va_S.rf
  have hkc : 0 ≤ 0 := Nat.le_refl 0
  have hks : 0 ≤ 0 := Nat.le_refl 0
  have hl := lv_entry ([.ref (ad 8 0)]) (n := 1) (Nat.le_of_ble_eq_true rfl)
  rw [lg_entry_eq]
  generalize (lg_sl ([.ref (ad 8 0)]) ++ List.replicate (1 - (lg_sl ([.ref (ad 8 0)])).length) Slot.unset).toArray = ls at hl ⊢
  have hl : lv_has ls 1 [(0, .ref (ad 8 0))] := hl
  unfold wp_X8_free at hwp
  generalize hHe : s.heap = H at hP ⊢
  have hS : va_S A s.heap H [] := by rw [← hHe]; exact va_S.rf
  clear hHe
  refine lv_aload_n hx hb dX8_free_0 rfl (lv_at hl 0 rfl) ?_
  refine va_get (D := (dC, dI)) (ci := 8) (v := .double (sD σ 138 0)) (C := RX8) (T := TX8) (N := 11) hx hb hts iX8_free_8 hown hK hP 0 atLq rfl 10 (by decide) (hts (.fieldLink RX8 59 "LinkQueues" "freeFrom" "D") (by decide +kernel)) (fun _ h9 => h9) rfl dX8_free_1 ?_
  exact W.dret (v := (sD σ 138 0)) hx hb hr (fun t ht hW => ⟨⟨(sD σ 138 0), σ, rfl, hwp, by rw [ht]; exact hP, va_K.moved hW.alike hK, hD⟩, hS.F ht⟩) hS.2.2 dX8_free_4
def wp_X8_clock (n : Nat) (σ : ST) (K : Int32 → ST → Prop) : Prop := K (sI σ 132 0) σ
set_option maxRecDepth 20000 in
theorem iX8_clock_8 : ∀ w ∈ wsX80, w ∈ wsX8_clock := by decide +kernel
set_option maxHeartbeats 8000000 in
set_option maxRecDepth 100000 in
theorem c_X8_clock (l : Launch) (dC : Nat → ClassId) (dI : Nat → Nat → Nat) (cA : Nat → ClassId) (ad : Nat → Nat → Nat) (n : Nat) (σ : ST) (sz : Nat) (K : Int32 → ST → Prop) (hwp : wp_X8_clock n σ K) : Met l yX8_clock wsX8_clock ({ frames := 0, cells := 0, slots := 0, locals := 0 } : Room) (va_Pc [.ref (ad 8 0)] (preC dC dI cA (Wc cA ad n σ) sz)) (va_Qi K (atC dC dI cA (Wc cA ad n) (va_A (Wc cA ad n σ) sz)) (va_A (Wc cA ad n σ) sz)) 0 0 (va_A (Wc cA ad n σ) sz) := by
  refine Met.ofW (cc := cX8_clock) (maxL := 1) (ret := (some .int)) (by decide) rfl ?_
  intro p e s m args below meth c s₁ B hml hv
  obtain ⟨rfl, hsz, hP, hK, hD0⟩ := hv
  have hx := B.exec
  have hb := B.bytes
  have hr := B.returns
  have hts := atoms_spec (ws := wsX8_clock) B.pre
  have hown : s.vm.findClass RX8 = some m.cls := findClass_of_methodNamed B.named
  have hlocks := B.notSynchronized
  subst hsz
  have hD := hD0.self (sz := s.heap.size)
  clear hD0
  generalize hAe : va_A (Wc cA ad n σ) s.heap.size = A at hD ⊢
  have hA : ∀ q : Nat, s.heap.size ≤ q → A q := fun q h => by rw [← hAe]; exact Or.inr h
  have hS : va_S A s.heap s.heap [] := va_S.rf
  have hkc : 0 ≤ 0 := Nat.le_refl 0
  have hks : 0 ≤ 0 := Nat.le_refl 0
  have hl := lv_entry ([.ref (ad 8 0)]) (n := 1) (Nat.le_of_ble_eq_true rfl)
  rw [lg_entry_eq]
  generalize (lg_sl ([.ref (ad 8 0)]) ++ List.replicate (1 - (lg_sl ([.ref (ad 8 0)])).length) Slot.unset).toArray = ls at hl ⊢
  have hl : lv_has ls 1 [(0, .ref (ad 8 0))] := hl
  unfold wp_X8_clock at hwp
  generalize hHe : s.heap = H at hP ⊢
  have hS : va_S A s.heap H [] := by rw [← hHe]; exact va_S.rf
  clear hHe
  refine lv_aload_n hx hb dX8_clock_0 rfl (lv_at hl 0 rfl) ?_
  refine va_get (D := (dC, dI)) (ci := 8) (v := .int (sI σ 132 0)) (C := RX8) (T := TX8) (N := 11) hx hb hts iX8_clock_8 hown hK hP 0 atLq rfl 4 (by decide) (hts (.fieldLink RX8 36 "LinkQueues" "now" "I") (by decide +kernel)) (fun _ h9 => h9) rfl dX8_clock_1 ?_
  exact W.iret (v := (sI σ 132 0)) hx hb hr (fun t ht hW => ⟨⟨(sI σ 132 0), σ, rfl, hwp, by rw [ht]; exact hP, va_K.moved hW.alike hK, hD⟩, hS.F ht⟩) hS.2.2 dX8_clock_4
def wp_X8_round (n : Nat) (σ : ST) (a1 : Int32) (K : Int32 → ST → Prop) : Prop := wp_X7_flowAfter n σ a1 (fun r2 s1 =>
((r2 = none → (K (-1) s1)) ∧ (∀ b_3, r2 = some b_3 → (b_3 < 6 ∧
K (sI s1 32 b_3) s1)))
)
set_option maxRecDepth 20000 in
theorem iX8_round_8 : ∀ w ∈ wsX80, w ∈ wsX8_round := by decide +kernel
set_option maxRecDepth 20000 in
theorem iX8_round_2 : ∀ w ∈ wsX20, w ∈ wsX8_round := by decide +kernel
set_option maxHeartbeats 8000000 in
set_option maxRecDepth 100000 in
theorem c_X8_round (l : Launch) (dC : Nat → ClassId) (dI : Nat → Nat → Nat) (cA : Nat → ClassId) (ad : Nat → Nat → Nat) (n : Nat) (σ : ST) (a1 : Int32) (sz : Nat) (K : Int32 → ST → Prop) (hwp : wp_X8_round n σ a1 K) : Met l yX8_round wsX8_round ({ frames := 1, cells := 0, slots := 0, locals := 23 } : Room) (va_Pc [.ref (ad 8 0), .int a1] (preC dC dI cA (Wc cA ad n σ) sz)) (va_Qi K (atC dC dI cA (Wc cA ad n) (va_A (Wc cA ad n σ) sz)) (va_A (Wc cA ad n σ) sz)) 0 0 (va_A (Wc cA ad n σ) sz) := by
  refine Met.ofW (cc := cX8_round) (maxL := 3) (ret := (some .int)) (by decide) rfl ?_
  intro p e s m args below meth c s₁ B hml hv
  obtain ⟨rfl, hsz, hP, hK, hD0⟩ := hv
  have hx := B.exec
  have hb := B.bytes
  have hr := B.returns
  have hts := atoms_spec (ws := wsX8_round) B.pre
  have hown : s.vm.findClass RX8 = some m.cls := findClass_of_methodNamed B.named
  have hlocks := B.notSynchronized
  subst hsz
  have hD := hD0.self (sz := s.heap.size)
  clear hD0
  generalize hAe : va_A (Wc cA ad n σ) s.heap.size = A at hD ⊢
  have hA : ∀ q : Nat, s.heap.size ≤ q → A q := fun q h => by rw [← hAe]; exact Or.inr h
  have hS : va_S A s.heap s.heap [] := va_S.rf
  have hkc : 0 ≤ 0 := Nat.le_refl 0
  have hks : 0 ≤ 0 := Nat.le_refl 0
  have hl := lv_entry ([.ref (ad 8 0), .int a1]) (n := 3) (Nat.le_of_ble_eq_true rfl)
  rw [lg_entry_eq]
  generalize (lg_sl ([.ref (ad 8 0), .int a1]) ++ List.replicate (3 - (lg_sl ([.ref (ad 8 0), .int a1])).length) Slot.unset).toArray = ls at hl ⊢
  have hl : lv_has ls 3 [(0, .ref (ad 8 0)), (1, .int a1)] := hl
  unfold wp_X8_round at hwp
  generalize hHe : s.heap = H at hP ⊢
  have hS : va_S A s.heap H [] := by rw [← hHe]; exact va_S.rf
  clear hHe
  refine lv_aload_n hx hb dX8_round_0 rfl (lv_at hl 0 rfl) ?_
  refine va_get (D := (dC, dI)) (ci := 8) (v := .ref (ad 7 0)) (C := RX8) (T := TX8) (N := 11) hx hb hts iX8_round_8 hown hK hP 0 atLq rfl 1 (by decide) (hts (.fieldLink RX8 18 "LinkQueues" "turns" "LLinkQueues$Turns;") (by decide +kernel)) (fun _ h9 => h9) rfl dX8_round_1 ?_
  refine lv_iload_n hx hb dX8_round_4 rfl (lv_at hl 1 rfl) ?_
  have hF := fA hD hS hA
  refine va_calle (va_runV (As := [.int a1]) (rest := []) ⟨hx, hb, hml, hown, hts⟩ (c_X7_flowAfter l dC dI cA ad n σ a1 H.size _ hwp) (cwV 1 hts gX8_round_X7_flowAfter rfl rfl rfl (by decide +kernel) ⟨Nat.le_of_ble_eq_true rfl, Nat.le_of_ble_eq_true rfl⟩) ⟨fbC, va_recv hK hP (ci := 7) (q0 := 2) rfl atTurns, fun U hU hW => ⟨rfl, by rw [hU], by rw [hU]; exact hP, va_K.moved hW.alike hK, hD.weaken (fun _ _ _ _ => trivial)⟩⟩ rfl rfl hl.1 rfl (lv_room (Nat.le_of_ble_eq_true rfl)) dX8_round_5 ⟨Nat.le_of_ble_eq_true rfl, Nat.le_of_ble_eq_true rfl⟩) hS (fun q _ h => hF q h) hF (fun r2 s1 t H1 locs ht hvm hwp hB hz1 hk1 hS => ?_)
  obtain ⟨hP1, hK1, hD1⟩ := hB
  rw [ht] at hP1
  have hD2 := hD1.weaken (fun _ q _ h => hF q.1 h)
  clear hP hD
  have hP := hP1
  have hD := hD2
  clear hP1 hD1 hD2 hK1 hk1 hz1 hF
  generalize H1 = H at hP hS ⊢
  refine q_astore_n (lv' := [(2, va_re (ad 2) r2), (0, .ref (ad 8 0)), (1, .int a1)]) hx hb dX8_round_8 rfl hl (by decide) rfl (fun ls hl => ?_)
  refine q_aload_n hx hb dX8_round_9 rfl (lv_at hl 0 rfl) ?_
  refine q_ifnonnull (tgt := 17) hx hb dX8_round_10 (by decide) (fun b_3 ho_4 => ?_) (fun ho_4 => ?_)
  · replace hwp := hwp.2 b_3 ho_4
    have hl : lv_has ls 3 [(2, .ref (ad 2 b_3)), (0, .ref (ad 8 0)), (1, .int a1)] := by rw [ho_4] at hl; exact hl
    refine lv_aload_n hx hb dX8_round_17 rfl (lv_at hl 0 rfl) ?_
    obtain ⟨hb_5, hwp⟩ := hwp
    refine va_get (D := (dC, dI)) (ci := 2) (v := .int (sI s1 32 b_3)) (C := RX2) (T := TX2) (N := 15) hx hb hts iX8_round_2 hown hK hP (7 + b_3) (atFlow hb_5) rfl 0 (by decide) (hts (.fieldLink RX8 228 "LinkQueues$Flow" "place" "I") (by decide +kernel)) (fun _ h9 => h9) rfl dX8_round_18 ?_
    exact W.iret (v := (sI s1 32 b_3)) hx hb hr (fun t ht hW => ⟨⟨(sI s1 32 b_3), s1, rfl, hwp, by rw [ht]; exact hP, va_K.moved hW.alike hK, hD⟩, hS.F ht⟩) hS.2.2 dX8_round_21
  · replace hwp := hwp.1 ho_4
    have hl : lv_has ls 3 [(2, .null), (0, .ref (ad 8 0)), (1, .int a1)] := by rw [ho_4] at hl; exact hl
    refine lv_iconst (v := (-1)) hx hb dX8_round_13 (by decide) ?_
    refine lv_goto (tgt := 21) hx hb dX8_round_14 (by decide) ?_
    exact W.iret (v := (-1)) hx hb hr (fun t ht hW => ⟨⟨(-1), s1, rfl, hwp, by rw [ht]; exact hP, va_K.moved hW.alike hK, hD⟩, hS.F ht⟩) hS.2.2 dX8_round_21
def wp_X8_flowAt (n : Nat) (σ : ST) (a1 : Int32) (K : Option Nat → ST → Prop) (KX : String → ST → Prop) : Prop := ((a1 < 0 → (KX "java/lang/IllegalArgumentException" σ)) ∧ (¬ (a1 < 0) → (((6 ≤ a1 → (KX "java/lang/IllegalArgumentException" σ)) ∧ (¬ (6 ≤ a1) → (vp_in a1 6 ∧
K (some a1.toNatClampNeg) σ))))))
set_option maxRecDepth 20000 in
theorem iX8_flowAt_8 : ∀ w ∈ wsX80, w ∈ wsX8_flowAt := by decide +kernel
theorem iX8_flowAt_A : ∀ w ∈ (vx_atS RX8 73 "java/lang/IllegalArgumentException" ["java/lang/RuntimeException", "java/lang/Exception"]).filter goodWord, w ∈ wsX8_flowAt := fun _ h => List.mem_cons_of_mem _ (List.mem_append_right _ h)
set_option maxHeartbeats 8000000 in
set_option maxRecDepth 100000 in
theorem c_X8_flowAt (l : Launch) (hfl : l.stackTraces = false) (dC : Nat → ClassId) (dI : Nat → Nat → Nat) (cA : Nat → ClassId) (ad : Nat → Nat → Nat) (n : Nat) (σ : ST) (a1 : Int32) (sz : Nat) (K : Option Nat → ST → Prop) (KX : String → ST → Prop) (hwp : wp_X8_flowAt n σ a1 K KX) : vx_Met l yX8_flowAt wsX8_flowAt ({ frames := 6, cells := 1, slots := 6, locals := 90 } : Room) (va_Pc [.ref (ad 8 0), .int a1] (preX dC dI cA (Wc cA ad n σ) sz)) (va_Qe (ad 2) K (atC dC dI cA (Wc cA ad n) (va_A (Wc cA ad n σ) sz)) (va_A (Wc cA ad n σ) sz)) (xQ dC dI cA (Wc cA ad n) KX (va_A (Wc cA ad n σ) sz)) 1 6 (va_A (Wc cA ad n σ) sz) := by
  refine vx_ofW (cc := cX8_flowAt) (maxL := 3) (ret := (some (.object "LinkQueues$Flow"))) (by decide) rfl ?_
  intro p e s m args below meth c s₁ B hml hnt hv
  obtain ⟨rfl, ⟨hsz, hP, hK, hD0⟩, hT⟩ := hv
  have hx := B.exec
  have hb := B.bytes
  have hr := B.returns
  have hts := atoms_spec (ws := wsX8_flowAt) B.pre
  have hown : s.vm.findClass RX8 = some m.cls := findClass_of_methodNamed B.named
  have hlocks := B.notSynchronized
  subst hsz
  have hD := hD0.self (sz := s.heap.size)
  clear hD0
  generalize hAe : va_A (Wc cA ad n σ) s.heap.size = A at hD hT ⊢
  have hA : ∀ q : Nat, s.heap.size ≤ q → A q := fun q h => by rw [← hAe]; exact Or.inr h
  have hS : va_S A s.heap s.heap [] := va_S.rf
  have hkc : 0 ≤ 0 := Nat.le_refl 0
  have hks : 0 ≤ 0 := Nat.le_refl 0
  have hl := lv_entry ([.ref (ad 8 0), .int a1]) (n := 3) (Nat.le_of_ble_eq_true rfl)
  rw [lg_entry_eq]
  generalize (lg_sl ([.ref (ad 8 0), .int a1]) ++ List.replicate (3 - (lg_sl ([.ref (ad 8 0), .int a1])).length) Slot.unset).toArray = ls at hl ⊢
  have hl : lv_has ls 3 [(0, .ref (ad 8 0)), (1, .int a1)] := hl
  unfold wp_X8_flowAt at hwp
  generalize hHe : s.heap = H at hP ⊢
  have hS : va_S A s.heap H [] := by rw [← hHe]; exact va_S.rf
  clear hHe
  refine lv_iload_n hx hb dX8_flowAt_0 rfl (lv_at hl 1 rfl) ?_
  refine lv_if_lt (tgt := 22) hx hb dX8_flowAt_1 (by decide) (fun c_1 => ?_) (fun c_1 => ?_)
  · replace hwp := hwp.1 c_1
    refine lv_null hx hb dX8_flowAt_22 ?_
    refine lv_astore_nN (lv' := [(2, .null), (0, .ref (ad 8 0)), (1, .int a1)]) hx hb dX8_flowAt_23 rfl hl (by decide) rfl (fun ls hl => ?_)
    refine lv_aload_nN hx hb dX8_flowAt_24 rfl (lv_at hl 0 rfl) ?_
    refine lv_ifnonnullN hx hb dX8_flowAt_25 ?_
    obtain ⟨sa_1, hstr⟩ := hT.2.2.2.2.2.2.2.2 14 (240, "a class is 0 to 5") rfl
    exact vx_throwS (own := RX8) (cls := "java/lang/IllegalArgumentException") (text := "a class is 0 to 5") (names := ["java/lang/RuntimeException", "java/lang/Exception"]) (ik := 69) (is := 240) (ic := 73) (sa := sa_1) (A := A) hx hb hfl hown (by decide +kernel) (by decide +kernel) (hts (.classLink RX8 69 "java/lang/IllegalArgumentException") (by decide +kernel)) (hts (.initialized "java/lang/IllegalArgumentException") (by decide +kernel)) hstr (hatA hT hts iX8_flowAt_A) goodA hT.1 hT.2.1 hS (hl.1.trans hml.symm) dX8_flowAt_28 dX8_flowAt_31 dX8_flowAt_32 dX8_flowAt_34 dX8_flowAt_37 (fun x hx => (hnt x hx).elim) (Nat.le_of_ble_eq_true rfl) (Nat.le_of_ble_eq_true rfl) (Nat.le_of_ble_eq_true rfl) (Nat.le_of_ble_eq_true rfl) hlocks (xThrow (ws := Wc cA ad n) (KX := KX) hP hK hD hS hwp) hS.2.2 (Nat.le_of_ble_eq_true rfl) (Nat.le_of_ble_eq_true rfl)
  · replace hwp := hwp.2 c_1
    refine lv_iload_n hx hb dX8_flowAt_4 rfl (lv_at hl 1 rfl) ?_
    refine lv_aload_n hx hb dX8_flowAt_5 rfl (lv_at hl 0 rfl) ?_
    refine va_get (D := (dC, dI)) (ci := 8) (v := .ref (ad 12 0)) (C := RX8) (T := TX8) (N := 11) hx hb hts iX8_flowAt_8 hown hK hP 0 atLq rfl 0 (by decide) (hts (.fieldLink RX8 11 "LinkQueues" "flows" "[LLinkQueues$Flow;") (by decide +kernel)) (fun _ h9 => h9) rfl dX8_flowAt_6 ?_
    refine va_alen (v := 6) hx hb hK hP 1 3 atf12 rfl rfl dX8_flowAt_9 ?_
    refine lv_icmp_ge (tgt := 22) hx hb dX8_flowAt_10 (by decide) (fun c_10 => ?_) (fun c_10 => ?_)
    · replace hwp := hwp.1 c_10
      refine lv_null hx hb dX8_flowAt_22 ?_
      refine lv_astore_nN (lv' := [(2, .null), (0, .ref (ad 8 0)), (1, .int a1)]) hx hb dX8_flowAt_23 rfl hl (by decide) rfl (fun ls hl => ?_)
      refine lv_aload_nN hx hb dX8_flowAt_24 rfl (lv_at hl 0 rfl) ?_
      refine lv_ifnonnullN hx hb dX8_flowAt_25 ?_
      obtain ⟨sa_2, hstr⟩ := hT.2.2.2.2.2.2.2.2 14 (240, "a class is 0 to 5") rfl
      exact vx_throwS (own := RX8) (cls := "java/lang/IllegalArgumentException") (text := "a class is 0 to 5") (names := ["java/lang/RuntimeException", "java/lang/Exception"]) (ik := 69) (is := 240) (ic := 73) (sa := sa_2) (A := A) hx hb hfl hown (by decide +kernel) (by decide +kernel) (hts (.classLink RX8 69 "java/lang/IllegalArgumentException") (by decide +kernel)) (hts (.initialized "java/lang/IllegalArgumentException") (by decide +kernel)) hstr (hatA hT hts iX8_flowAt_A) goodA hT.1 hT.2.1 hS (hl.1.trans hml.symm) dX8_flowAt_28 dX8_flowAt_31 dX8_flowAt_32 dX8_flowAt_34 dX8_flowAt_37 (fun x hx => (hnt x hx).elim) (Nat.le_of_ble_eq_true rfl) (Nat.le_of_ble_eq_true rfl) (Nat.le_of_ble_eq_true rfl) (Nat.le_of_ble_eq_true rfl) hlocks (xThrow (ws := Wc cA ad n) (KX := KX) hP hK hD hS hwp) hS.2.2 (Nat.le_of_ble_eq_true rfl) (Nat.le_of_ble_eq_true rfl)
    · replace hwp := hwp.2 c_10
      refine lv_aload_n hx hb dX8_flowAt_13 rfl (lv_at hl 0 rfl) ?_
      refine va_get (D := (dC, dI)) (ci := 8) (v := .ref (ad 12 0)) (C := RX8) (T := TX8) (N := 11) hx hb hts iX8_flowAt_8 hown hK hP 0 atLq rfl 0 (by decide) (hts (.fieldLink RX8 11 "LinkQueues" "flows" "[LLinkQueues$Flow;") (by decide +kernel)) (fun _ h9 => h9) rfl dX8_flowAt_14 ?_
      refine lv_iload_n hx hb dX8_flowAt_17 rfl (lv_at hl 1 rfl) ?_
      obtain ⟨hi_3, hwp⟩ := hwp
      refine va_aldq (D := (dC, dI)) hx hb hK hP 1 3 atf12 rfl hi_3 dX8_flowAt_18 ?_
      refine lv_goto (tgt := 23) hx hb dX8_flowAt_19 (by decide) ?_
      refine lv_astore_n (lv' := [(2, .ref (ad 2 a1.toNatClampNeg)), (0, .ref (ad 8 0)), (1, .int a1)]) hx hb dX8_flowAt_23 rfl hl (by decide) rfl (fun ls hl => ?_)
      refine lv_aload_n hx hb dX8_flowAt_24 rfl (lv_at hl 0 rfl) ?_
      refine lv_ifnonnull (tgt := 38) hx hb dX8_flowAt_25 (by decide) ?_
      refine lv_aload_n hx hb dX8_flowAt_38 rfl (lv_at hl 0 rfl) ?_
      refine vx_ret ?_
      refine W.widen (k := 1) (n := 6) (Nat.le_of_ble_eq_true rfl) (Nat.le_of_ble_eq_true rfl) ?_
      exact q_aret (n := "LinkQueues$Flow") (ad := ad 2) (o := (some a1.toNatClampNeg)) hx hb hr (fun t ht hW => ⟨⟨(some a1.toNatClampNeg), σ, rfl, hwp, by rw [ht]; exact hP, va_K.moved hW.alike hK, hD⟩, hS.F ht⟩) hS.2.2 dX8_flowAt_39 hlocks
