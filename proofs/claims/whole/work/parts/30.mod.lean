def wp_X9_thrown (σ : ST) (K : Int32 → ST → Prop) : Prop := K (sI σ 1000 0) σ
set_option maxRecDepth 20000 in
theorem iX9_thrown_9 : ∀ w ∈ wsX90, w ∈ wsX9_thrown := by decide +kernel
set_option maxHeartbeats 8000000 in
set_option maxRecDepth 100000 in
theorem c_X9_thrown (l : Launch) (dC : Nat → ClassId) (dI : Nat → Nat → Nat) (cA : Nat → ClassId) (ad : Nat → Nat → Nat) (σ : ST) (sz : Nat) (K : Int32 → ST → Prop) (hwp : wp_X9_thrown σ K) : Met l yX9_thrown wsX9_thrown ({ frames := 0, cells := 0, slots := 0, locals := 0 } : Room) (va_Pc [.ref (ad 9 0)] (preC dC dI cA (Wm cA ad σ) sz)) (va_Qi K (atC dC dI cA (Wm cA ad) (va_A (Wm cA ad σ) sz)) (va_A (Wm cA ad σ) sz)) 0 0 (va_A (Wm cA ad σ) sz) := by
  refine Met.ofW (cc := cX9_thrown) (maxL := 1) (ret := (some .int)) (by decide) rfl ?_
  intro p e s m args below meth c s₁ B hml hv
  obtain ⟨rfl, hsz, hP, hK, hD0⟩ := hv
  have hx := B.exec
  have hb := B.bytes
  have hr := B.returns
  have hts := atoms_spec (ws := wsX9_thrown) B.pre
  have hown : s.vm.findClass RX9 = some m.cls := findClass_of_methodNamed B.named
  have hlocks := B.notSynchronized
  subst hsz
  have hD := hD0.self (sz := s.heap.size)
  clear hD0
  generalize hAe : va_A (Wm cA ad σ) s.heap.size = A at hD ⊢
  have hA : ∀ q : Nat, s.heap.size ≤ q → A q := fun q h => by rw [← hAe]; exact Or.inr h
  have hS : va_S A s.heap s.heap [] := va_S.rf
  have hkc : 0 ≤ 0 := Nat.le_refl 0
  have hks : 0 ≤ 0 := Nat.le_refl 0
  have hl := lv_entry ([.ref (ad 9 0)]) (n := 1) (Nat.le_of_ble_eq_true rfl)
  rw [lg_entry_eq]
  generalize (lg_sl ([.ref (ad 9 0)]) ++ List.replicate (1 - (lg_sl ([.ref (ad 9 0)])).length) Slot.unset).toArray = ls at hl ⊢
  have hl : lv_has ls 1 [(0, .ref (ad 9 0))] := hl
  unfold wp_X9_thrown at hwp
  generalize hHe : s.heap = H at hP ⊢
  have hS : va_S A s.heap H [] := by rw [← hHe]; exact va_S.rf
  clear hHe
  refine lv_aload_n hx hb dX9_thrown_0 rfl (lv_at hl 0 rfl) ?_
  refine va_get (D := (dC, dI)) (ci := 9) (v := .int (sI σ 1000 0)) (C := RX9) (T := TX9) (N := 43) hx hb hts iX9_thrown_9 hown hK hP 0 atModel rfl 0 (by decide) (hts (.fieldLink RX9 115 "LinkQueuesModel" "refusal" "I") (by decide +kernel)) (fun _ h9 => h9) rfl dX9_thrown_1 ?_
  exact W.iret (v := (sI σ 1000 0)) hx hb hr (fun t ht hW => ⟨⟨(sI σ 1000 0), σ, rfl, hwp, by rw [ht]; exact hP, va_K.moved hW.alike hK, hD⟩, hS.F ht⟩) hS.2.2 dX9_thrown_4
def wp_X9_isIn (σ : ST) (a0 : Int32) (a1 : Int32) (a2 : Int32) (K : Int32 → ST → Prop) : Prop := ((a0 < a1 → (K 0 σ)) ∧ (¬ (a0 < a1) → (((a2 < a0 → (K 0 σ)) ∧ (¬ (a2 < a0) → (K 1 σ))))))
set_option maxHeartbeats 8000000 in
set_option maxRecDepth 100000 in
theorem c_X9_isIn (l : Launch) (dC : Nat → ClassId) (dI : Nat → Nat → Nat) (cA : Nat → ClassId) (ad : Nat → Nat → Nat) (σ : ST) (a0 : Int32) (a1 : Int32) (a2 : Int32) (sz : Nat) (K : Int32 → ST → Prop) (hwp : wp_X9_isIn σ a0 a1 a2 K) : Met l yX9_isIn wsX9_isIn ({ frames := 0, cells := 0, slots := 0, locals := 0 } : Room) (va_Pc [.int a0, .int a1, .int a2] (preC dC dI cA (Wm cA ad σ) sz)) (va_Qi K (atC dC dI cA (Wm cA ad) (va_A (Wm cA ad σ) sz)) (va_A (Wm cA ad σ) sz)) 0 0 (va_A (Wm cA ad σ) sz) := by
  refine Met.ofW (cc := cX9_isIn) (maxL := 3) (ret := (some .boolean)) (by decide) rfl ?_
  intro p e s m args below meth c s₁ B hml hv
  obtain ⟨rfl, hsz, hP, hK, hD0⟩ := hv
  have hx := B.exec
  have hb := B.bytes
  have hr := B.returns
  have hts := atoms_spec (ws := wsX9_isIn) B.pre
  have hown : s.vm.findClass RX9 = some m.cls := findClass_of_methodNamed B.named
  have hlocks := B.notSynchronized
  subst hsz
  have hD := hD0.self (sz := s.heap.size)
  clear hD0
  generalize hAe : va_A (Wm cA ad σ) s.heap.size = A at hD ⊢
  have hA : ∀ q : Nat, s.heap.size ≤ q → A q := fun q h => by rw [← hAe]; exact Or.inr h
  have hS : va_S A s.heap s.heap [] := va_S.rf
  have hkc : 0 ≤ 0 := Nat.le_refl 0
  have hks : 0 ≤ 0 := Nat.le_refl 0
  have hl := lv_entry ([.int a0, .int a1, .int a2]) (n := 3) (Nat.le_of_ble_eq_true rfl)
  rw [lg_entry_eq]
  generalize (lg_sl ([.int a0, .int a1, .int a2]) ++ List.replicate (3 - (lg_sl ([.int a0, .int a1, .int a2])).length) Slot.unset).toArray = ls at hl ⊢
  have hl : lv_has ls 3 [(0, .int a0), (1, .int a1), (2, .int a2)] := hl
  unfold wp_X9_isIn at hwp
  generalize hHe : s.heap = H at hP ⊢
  have hS : va_S A s.heap H [] := by rw [← hHe]; exact va_S.rf
  clear hHe
  refine lv_iload_n hx hb dX9_isIn_0 rfl (lv_at hl 0 rfl) ?_
  refine lv_iload_n hx hb dX9_isIn_1 rfl (lv_at hl 1 rfl) ?_
  refine lv_icmp_lt (tgt := 14) hx hb dX9_isIn_2 (by decide) (fun c_2 => ?_) (fun c_2 => ?_)
  · replace hwp := hwp.1 c_2
    refine lv_iconst (v := 0) hx hb dX9_isIn_14 (by decide) ?_
    exact W.zret (ty := .boolean) (v := 0) hx hb hr (isB_nar isB0) (fun t ht hW => ⟨⟨0, σ, rfl, hwp, by rw [ht]; exact hP, va_K.moved hW.alike hK, hD⟩, hS.F ht⟩) hS.2.2 dX9_isIn_15
  · replace hwp := hwp.2 c_2
    refine lv_iload_n hx hb dX9_isIn_5 rfl (lv_at hl 0 rfl) ?_
    refine lv_iload_n hx hb dX9_isIn_6 rfl (lv_at hl 2 rfl) ?_
    refine lv_icmp_gt (tgt := 14) hx hb dX9_isIn_7 (by decide) (fun c_7 => ?_) (fun c_7 => ?_)
    · replace hwp := hwp.1 c_7
      refine lv_iconst (v := 0) hx hb dX9_isIn_14 (by decide) ?_
      exact W.zret (ty := .boolean) (v := 0) hx hb hr (isB_nar isB0) (fun t ht hW => ⟨⟨0, σ, rfl, hwp, by rw [ht]; exact hP, va_K.moved hW.alike hK, hD⟩, hS.F ht⟩) hS.2.2 dX9_isIn_15
    · replace hwp := hwp.2 c_7
      refine lv_iconst (v := 1) hx hb dX9_isIn_10 (by decide) ?_
      refine lv_goto (tgt := 15) hx hb dX9_isIn_11 (by decide) ?_
      exact W.zret (ty := .boolean) (v := 1) hx hb hr (isB_nar isB1) (fun t ht hW => ⟨⟨1, σ, rfl, hwp, by rw [ht]; exact hP, va_K.moved hW.alike hK, hD⟩, hS.F ht⟩) hS.2.2 dX9_isIn_15
def wp_X9_refused (σ : ST) (a1 : Int32) (K : Int32 → ST → Prop) : Prop := ∀ s1, s1 = upI σ 1000 0 a1 →
((a1 ≤ 0 → (K 0 s1)) ∧ (¬ (a1 ≤ 0) → (K 1 s1)))
set_option maxRecDepth 20000 in
theorem iX9_refused_9 : ∀ w ∈ wsX90, w ∈ wsX9_refused := by decide +kernel
set_option maxHeartbeats 8000000 in
set_option maxRecDepth 100000 in
theorem c_X9_refused (l : Launch) (dC : Nat → ClassId) (dI : Nat → Nat → Nat) (cA : Nat → ClassId) (ad : Nat → Nat → Nat) (σ : ST) (a1 : Int32) (sz : Nat) (K : Int32 → ST → Prop) (hwp : wp_X9_refused σ a1 K) : Met l yX9_refused wsX9_refused ({ frames := 0, cells := 0, slots := 0, locals := 0 } : Room) (va_Pc [.ref (ad 9 0), .int a1] (preC dC dI cA (Wm cA ad σ) sz)) (va_Qi K (atC dC dI cA (Wm cA ad) (va_A (Wm cA ad σ) sz)) (va_A (Wm cA ad σ) sz)) 0 0 (va_A (Wm cA ad σ) sz) := by
  refine Met.ofW (cc := cX9_refused) (maxL := 2) (ret := (some .boolean)) (by decide) rfl ?_
  intro p e s m args below meth c s₁ B hml hv
  obtain ⟨rfl, hsz, hP, hK, hD0⟩ := hv
  have hx := B.exec
  have hb := B.bytes
  have hr := B.returns
  have hts := atoms_spec (ws := wsX9_refused) B.pre
  have hown : s.vm.findClass RX9 = some m.cls := findClass_of_methodNamed B.named
  have hlocks := B.notSynchronized
  subst hsz
  have hD := hD0.self (sz := s.heap.size)
  clear hD0
  generalize hAe : va_A (Wm cA ad σ) s.heap.size = A at hD ⊢
  have hA : ∀ q : Nat, s.heap.size ≤ q → A q := fun q h => by rw [← hAe]; exact Or.inr h
  have hS : va_S A s.heap s.heap [] := va_S.rf
  have hkc : 0 ≤ 0 := Nat.le_refl 0
  have hks : 0 ≤ 0 := Nat.le_refl 0
  have hl := lv_entry ([.ref (ad 9 0), .int a1]) (n := 2) (Nat.le_of_ble_eq_true rfl)
  rw [lg_entry_eq]
  generalize (lg_sl ([.ref (ad 9 0), .int a1]) ++ List.replicate (2 - (lg_sl ([.ref (ad 9 0), .int a1])).length) Slot.unset).toArray = ls at hl ⊢
  have hl : lv_has ls 2 [(0, .ref (ad 9 0)), (1, .int a1)] := hl
  unfold wp_X9_refused at hwp
  generalize hHe : s.heap = H at hP ⊢
  have hS : va_S A s.heap H [] := by rw [← hHe]; exact va_S.rf
  clear hHe
  refine lv_aload_n hx hb dX9_refused_0 rfl (lv_at hl 0 rfl) ?_
  refine lv_iload_n hx hb dX9_refused_1 rfl (lv_at hl 1 rfl) ?_
  obtain ⟨s1, e_s1⟩ : ∃ z, z = upI σ 1000 0 a1 := ⟨_, rfl⟩
  refine st_put (D := (dC, dI)) (ci := 9) (v := .int a1) (ty := .int) (C := RX9) (T := TX9) (N := 43) (ws' := Wm cA ad s1) hx hb hts iX9_refused_9 tyX9 tyX9_ok nmX9 hown hK hP hD hS 0 atModel rfl 0 (by decide) (hts (.fieldLink RX9 115 "LinkQueuesModel" "refusal" "I") (by decide +kernel)) (fun _ h9 => h9) rfl (by decide +kernel) rfl rfl (Nat.le_of_ble_eq_true rfl) dX9_refused_2 (by rw [e_s1]; exact stM_0 a1) (fun H locs hP hD hS => ?_)
  replace hwp := hwp s1 e_s1
  refine lv_iload_n hx hb dX9_refused_5 rfl (lv_at hl 1 rfl) ?_
  refine lv_if_le (tgt := 13) hx hb dX9_refused_6 (by decide) (fun c_6 => ?_) (fun c_6 => ?_)
  · replace hwp := hwp.1 c_6
    refine lv_iconst (v := 0) hx hb dX9_refused_13 (by decide) ?_
    exact W.zret (ty := .boolean) (v := 0) hx hb hr (isB_nar isB0) (fun t ht hW => ⟨⟨0, s1, rfl, hwp, by rw [ht]; exact hP, va_K.moved hW.alike hK, hD⟩, hS.F ht⟩) hS.2.2 dX9_refused_14
  · replace hwp := hwp.2 c_6
    refine lv_iconst (v := 1) hx hb dX9_refused_9 (by decide) ?_
    refine lv_goto (tgt := 14) hx hb dX9_refused_10 (by decide) ?_
    exact W.zret (ty := .boolean) (v := 1) hx hb hr (isB_nar isB1) (fun t ht hW => ⟨⟨1, s1, rfl, hwp, by rw [ht]; exact hP, va_K.moved hW.alike hK, hD⟩, hS.F ht⟩) hS.2.2 dX9_refused_14
def wp_X9_kind_J35 (a1 : Int32) (a2 : Int32) (a3 : Int32) (K : ST → Prop) (z35 : ST) (y0_35 : Int32) : Prop := wp_X9_refused z35 y0_35 (fun r4 s3 =>
((r4 = 0 → (vp_in a1 6 ∧
∀ s6, s6 = upI s3 1006 a1.toNatClampNeg a2 →
vp_in a1 6 ∧
∀ s8, s8 = upI s6 1007 a1.toNatClampNeg a3 →
vp_in a1 6 ∧
∀ s10, s10 = upD s8 1012 a1.toNatClampNeg FP.dconst0 →
vp_in a1 6 ∧
∀ s12, s12 = upI s10 1013 a1.toNatClampNeg (-1) →
vp_in a1 6 ∧
∀ s14, s14 = upI s12 1014 a1.toNatClampNeg (sI s12 1001 0) →
vp_in a1 6 ∧
∀ s16, s16 = upI s14 1018 a1.toNatClampNeg 0 →
vp_in a1 6 ∧
∀ s18, s18 = upI s16 1019 a1.toNatClampNeg 0 →
vp_in a1 6 ∧
∀ s20, s20 = upD s18 1020 a1.toNatClampNeg FP.dconst0 →
vp_in a1 6 ∧
∀ s22, s22 = upI s20 1021 a1.toNatClampNeg 0 →
vp_in a1 6 ∧
∀ s24, s24 = upI s22 1022 a1.toNatClampNeg 0 →
K s24)) ∧ (¬ (r4 = 0) → (K s3)))
)
def wp_X9_kind_J34 (a1 : Int32) (a2 : Int32) (a3 : Int32) (K : ST → Prop) (G35 : ST → Int32 → Prop) (z34 : ST) : Prop := G35 z34 1
def wp_X9_kind (σ : ST) (a1 : Int32) (a2 : Int32) (a3 : Int32) (K : ST → Prop) : Prop := wp_X9_isIn σ a1 0 5 (fun r2 s1 =>
((r2 = 0 → (wp_X9_kind_J34 a1 a2 a3 K (wp_X9_kind_J35 a1 a2 a3 K) s1)) ∧ (¬ (r2 = 0) → (wp_X9_isIn s1 a2 0 2 (fun r26 s25 =>
((r26 = 0 → (wp_X9_kind_J34 a1 a2 a3 K (wp_X9_kind_J35 a1 a2 a3 K) s25)) ∧ (¬ (r26 = 0) → (wp_X9_isIn s25 a3 1 3000 (fun r28 s27 =>
((r28 = 0 → (wp_X9_kind_J34 a1 a2 a3 K (wp_X9_kind_J35 a1 a2 a3 K) s27)) ∧ (¬ (r28 = 0) → (wp_X9_kind_J35 a1 a2 a3 K s27 0)))
))))
))))
)
set_option maxRecDepth 20000 in
theorem iX9_kind_9 : ∀ w ∈ wsX90, w ∈ wsX9_kind := by decide +kernel
set_option maxHeartbeats 8000000 in
set_option maxRecDepth 100000 in
theorem c_X9_kind (l : Launch) (dC : Nat → ClassId) (dI : Nat → Nat → Nat) (cA : Nat → ClassId) (ad : Nat → Nat → Nat) (σ : ST) (a1 : Int32) (a2 : Int32) (a3 : Int32) (sz : Nat) (K : ST → Prop) (hwp : wp_X9_kind σ a1 a2 a3 K) : Met l yX9_kind wsX9_kind ({ frames := 1, cells := 0, slots := 0, locals := 22 } : Room) (va_Pc [.ref (ad 9 0), .int a1, .int a2, .int a3] (preC dC dI cA (Wm cA ad σ) sz)) (va_Qv K (atC dC dI cA (Wm cA ad) (va_A (Wm cA ad σ) sz)) (va_A (Wm cA ad σ) sz)) 0 0 (va_A (Wm cA ad σ) sz) := by
  refine Met.ofW (cc := cX9_kind) (maxL := 4) (ret := none) (by decide) rfl ?_
  intro p e s m args below meth c s₁ B hml hv
  obtain ⟨rfl, hsz, hP, hK, hD0⟩ := hv
  have hx := B.exec
  have hb := B.bytes
  have hr := B.returns
  have hts := atoms_spec (ws := wsX9_kind) B.pre
  have hown : s.vm.findClass RX9 = some m.cls := findClass_of_methodNamed B.named
  have hlocks := B.notSynchronized
  subst hsz
  have hD := hD0.self (sz := s.heap.size)
  clear hD0
  generalize hAe : va_A (Wm cA ad σ) s.heap.size = A at hD ⊢
  have hA : ∀ q : Nat, s.heap.size ≤ q → A q := fun q h => by rw [← hAe]; exact Or.inr h
  have hS : va_S A s.heap s.heap [] := va_S.rf
  have hkc : 0 ≤ 0 := Nat.le_refl 0
  have hks : 0 ≤ 0 := Nat.le_refl 0
  have hl := lv_entry ([.ref (ad 9 0), .int a1, .int a2, .int a3]) (n := 4) (Nat.le_of_ble_eq_true rfl)
  rw [lg_entry_eq]
  generalize (lg_sl ([.ref (ad 9 0), .int a1, .int a2, .int a3]) ++ List.replicate (4 - (lg_sl ([.ref (ad 9 0), .int a1, .int a2, .int a3])).length) Slot.unset).toArray = ls at hl ⊢
  have hl : lv_has ls 4 [(0, .ref (ad 9 0)), (1, .int a1), (2, .int a2), (3, .int a3)] := hl
  unfold wp_X9_kind at hwp
  generalize hHe : s.heap = H at hP ⊢
  have hS : va_S A s.heap H [] := by rw [← hHe]; exact va_S.rf
  clear hHe
  refine lv_aload_n hx hb dX9_kind_0 rfl (lv_at hl 0 rfl) ?_
  refine lv_iload_n hx hb dX9_kind_1 rfl (lv_at hl 1 rfl) ?_
  refine lv_iconst (v := 0) hx hb dX9_kind_2 (by decide) ?_
  refine lv_iconst (v := 5) hx hb dX9_kind_3 (by decide) ?_
  have hF := fA hD hS hA
  refine va_calli (va_runS (As := [.int a1, .int 0, .int 5]) (rest := [.ref (ad 9 0)]) ⟨hx, hb, hml, hown, hts⟩ (c_X9_isIn l dC dI cA ad σ a1 0 5 H.size _ hwp) (cwS 3 hts gX9_kind_X9_isIn rfl rfl rfl (by decide +kernel) ⟨Nat.le_of_ble_eq_true rfl, Nat.le_of_ble_eq_true rfl⟩) ⟨fbC, fun U hU hW => ⟨rfl, by rw [hU], by rw [hU]; exact hP, va_K.moved hW.alike hK, hD.weaken (fun _ _ _ _ => trivial)⟩⟩ rfl rfl hl.1 rfl (lv_room (Nat.le_of_ble_eq_true rfl)) dX9_kind_4 ⟨hkc, hks⟩) hS (fun q _ h => hF q h) hF (fun r2 s1 t H1 locs ht hvm hwp hB hz1 hk1 hS => ?_)
  obtain ⟨hP1, hK1, hD1⟩ := hB
  rw [ht] at hP1
  have hD2 := hD1.weaken (fun _ q _ h => hF q.1 h)
  clear hP hD
  have hP := hP1
  have hD := hD2
  clear hP1 hD1 hD2 hK1 hk1 hz1 hF
  generalize H1 = H at hP hS ⊢
  have J35 : ∀ (z35 : ST) (y0_35 : Int32), wp_X9_kind_J35 a1 a2 a3 K z35 y0_35 → ∀ (H : Heap) (locs : List Loc) (ls : Array Slot), va_P (dC, dI) vwCl (Wm cA ad z35) H → va_D A (Wm cA ad z35) → va_S A s.heap H locs → lv_has ls 4 [(0, .ref (ad 9 0)), (1, .int a1), (2, .int a2), (3, .int a3)] → W p l e ({ frames := 1, cells := 0, slots := 0, locals := 22 } : Room) s m ([.ref (ad 9 0), .int a1, .int a2, .int a3] : List Value).toArray below meth c H locs 0 0 (MQ below (va_Qv K (atC dC dI cA (Wm cA ad) A) A) ([.ref (ad 9 0), .int a1, .int a2, .int a3] : List Value).toArray s 0 0 A) (F0 m 35 ls [.int y0_35, .ref (ad 9 0)]) := by
    intro z35 y0_35 hwp H locs ls hP hD hS hl
    have hF := fA hD hS hA
    refine va_calli (va_runV (As := [.int y0_35]) (rest := []) ⟨hx, hb, hml, hown, hts⟩ (c_X9_refused l dC dI cA ad z35 y0_35 H.size _ hwp) (cwV 1 hts gX9_kind_X9_refused rfl rfl rfl (by decide +kernel) ⟨Nat.le_of_ble_eq_true rfl, Nat.le_of_ble_eq_true rfl⟩) ⟨fbC, va_recv hK hP (ci := 9) (q0 := 0) rfl atModel, fun U hU hW => ⟨rfl, by rw [hU], by rw [hU]; exact hP, va_K.moved hW.alike hK, hD.weaken (fun _ _ _ _ => trivial)⟩⟩ rfl rfl hl.1 rfl (lv_room (Nat.le_of_ble_eq_true rfl)) dX9_kind_35 ⟨hkc, hks⟩) hS (fun q _ h => hF q h) hF (fun r4 s3 t H1 locs ht hvm hwp hB hz1 hk1 hS => ?_)
    obtain ⟨hP1, hK1, hD1⟩ := hB
    rw [ht] at hP1
    have hD2 := hD1.weaken (fun _ q _ h => hF q.1 h)
    clear hP hD
    have hP := hP1
    have hD := hD2
    clear hP1 hD1 hD2 hK1 hk1 hz1 hF
    generalize H1 = H at hP hS ⊢
    refine lv_if_eq (tgt := 42) hx hb dX9_kind_38 (by decide) (fun c_38 => ?_) (fun c_38 => ?_)
    · replace hwp := hwp.1 c_38
      refine lv_aload_n hx hb dX9_kind_42 rfl (lv_at hl 0 rfl) ?_
      refine va_get (D := (dC, dI)) (ci := 9) (v := .ref (ad 106 0)) (C := RX9) (T := TX9) (N := 43) hx hb hts iX9_kind_9 hown hK hP 0 atModel rfl 6 (by decide) (hts (.fieldLink RX9 20 "LinkQueuesModel" "kinds" "[I") (by decide +kernel)) (fun _ h9 => h9) rfl dX9_kind_43 ?_
      refine lv_iload_n hx hb dX9_kind_46 rfl (lv_at hl 1 rfl) ?_
      refine lv_iload_n hx hb dX9_kind_47 rfl (lv_at hl 2 rfl) ?_
      obtain ⟨hi_5, hwp⟩ := hwp
      obtain ⟨s6, e_s6⟩ : ∃ z, z = upI s3 1006 a1.toNatClampNeg a2 := ⟨_, rfl⟩
      refine va_iast (D := (dC, dI)) hx hb hK hP hD hS 1 1 atm6 rfl hi_5 dX9_kind_48 (fun H locs hP hD hS => ?_)
      rw [stm6, ← e_s6] at hP hD
      replace hwp := hwp s6 e_s6
      refine lv_aload_n hx hb dX9_kind_49 rfl (lv_at hl 0 rfl) ?_
      refine va_get (D := (dC, dI)) (ci := 9) (v := .ref (ad 107 0)) (C := RX9) (T := TX9) (N := 43) hx hb hts iX9_kind_9 hown hK hP 0 atModel rfl 7 (by decide) (hts (.fieldLink RX9 24 "LinkQueuesModel" "quanta" "[I") (by decide +kernel)) (fun _ h9 => h9) rfl dX9_kind_50 ?_
      refine lv_iload_n hx hb dX9_kind_53 rfl (lv_at hl 1 rfl) ?_
      refine lv_iload_n hx hb dX9_kind_54 rfl (lv_at hl 3 rfl) ?_
      obtain ⟨hi_7, hwp⟩ := hwp
      obtain ⟨s8, e_s8⟩ : ∃ z, z = upI s6 1007 a1.toNatClampNeg a3 := ⟨_, rfl⟩
      refine va_iast (D := (dC, dI)) hx hb hK hP hD hS 2 1 atm7 rfl hi_7 dX9_kind_55 (fun H locs hP hD hS => ?_)
      rw [stm7, ← e_s8] at hP hD
      replace hwp := hwp s8 e_s8
      refine lv_aload_n hx hb dX9_kind_56 rfl (lv_at hl 0 rfl) ?_
      refine va_get (D := (dC, dI)) (ci := 9) (v := .ref (ad 112 0)) (C := RX9) (T := TX9) (N := 43) hx hb hts iX9_kind_9 hown hK hP 0 atModel rfl 12 (by decide) (hts (.fieldLink RX9 40 "LinkQueuesModel" "average" "[D") (by decide +kernel)) (fun _ h9 => h9) rfl dX9_kind_57 ?_
      refine lv_iload_n hx hb dX9_kind_60 rfl (lv_at hl 1 rfl) ?_
      refine lv_dconst0 hx hb dX9_kind_61 ?_
      obtain ⟨hi_9, hwp⟩ := hwp
      obtain ⟨s10, e_s10⟩ : ∃ z, z = upD s8 1012 a1.toNatClampNeg FP.dconst0 := ⟨_, rfl⟩
      refine va_dast (D := (dC, dI)) hx hb hK hP hD hS 7 0 atm12 rfl hi_9 dX9_kind_62 (fun H locs hP hD hS => ?_)
      rw [stm12, ← e_s10] at hP hD
      replace hwp := hwp s10 e_s10
      refine lv_aload_n hx hb dX9_kind_63 rfl (lv_at hl 0 rfl) ?_
      refine va_get (D := (dC, dI)) (ci := 9) (v := .ref (ad 113 0)) (C := RX9) (T := TX9) (N := 43) hx hb hts iX9_kind_9 hown hK hP 0 atModel rfl 13 (by decide) (hts (.fieldLink RX9 43 "LinkQueuesModel" "meanCount" "[I") (by decide +kernel)) (fun _ h9 => h9) rfl dX9_kind_64 ?_
      refine lv_iload_n hx hb dX9_kind_67 rfl (lv_at hl 1 rfl) ?_
      refine lv_iconst (v := (-1)) hx hb dX9_kind_68 (by decide) ?_
      obtain ⟨hi_11, hwp⟩ := hwp
      obtain ⟨s12, e_s12⟩ : ∃ z, z = upI s10 1013 a1.toNatClampNeg (-1) := ⟨_, rfl⟩
      refine va_iast (D := (dC, dI)) hx hb hK hP hD hS 8 1 atm13 rfl hi_11 dX9_kind_69 (fun H locs hP hD hS => ?_)
      rw [stm13, ← e_s12] at hP hD
      replace hwp := hwp s12 e_s12
      refine lv_aload_n hx hb dX9_kind_70 rfl (lv_at hl 0 rfl) ?_
      refine va_get (D := (dC, dI)) (ci := 9) (v := .ref (ad 114 0)) (C := RX9) (T := TX9) (N := 43) hx hb hts iX9_kind_9 hown hK hP 0 atModel rfl 14 (by decide) (hts (.fieldLink RX9 46 "LinkQueuesModel" "emptySince" "[I") (by decide +kernel)) (fun _ h9 => h9) rfl dX9_kind_71 ?_
      refine lv_iload_n hx hb dX9_kind_74 rfl (lv_at hl 1 rfl) ?_
      refine lv_aload_n hx hb dX9_kind_75 rfl (lv_at hl 0 rfl) ?_
      refine va_get (D := (dC, dI)) (ci := 9) (v := .int (sI s12 1001 0)) (C := RX9) (T := TX9) (N := 43) hx hb hts iX9_kind_9 hown hK hP 0 atModel rfl 1 (by decide) (hts (.fieldLink RX9 126 "LinkQueuesModel" "now" "I") (by decide +kernel)) (fun _ h9 => h9) rfl dX9_kind_76 ?_
      obtain ⟨hi_13, hwp⟩ := hwp
      obtain ⟨s14, e_s14⟩ : ∃ z, z = upI s12 1014 a1.toNatClampNeg (sI s12 1001 0) := ⟨_, rfl⟩
      refine va_iast (D := (dC, dI)) hx hb hK hP hD hS 9 1 atm14 rfl hi_13 dX9_kind_79 (fun H locs hP hD hS => ?_)
      rw [stm14, ← e_s14] at hP hD
      replace hwp := hwp s14 e_s14
      refine lv_aload_n hx hb dX9_kind_80 rfl (lv_at hl 0 rfl) ?_
      refine va_get (D := (dC, dI)) (ci := 9) (v := .ref (ad 118 0)) (C := RX9) (T := TX9) (N := 43) hx hb hts iX9_kind_9 hown hK hP 0 atModel rfl 18 (by decide) (hts (.fieldLink RX9 58 "LinkQueuesModel" "hasAbove" "[Z") (by decide +kernel)) (fun _ h9 => h9) rfl dX9_kind_81 ?_
      refine lv_iload_n hx hb dX9_kind_84 rfl (lv_at hl 1 rfl) ?_
      refine lv_iconst (v := 0) hx hb dX9_kind_85 (by decide) ?_
      obtain ⟨hi_15, hwp⟩ := hwp
      obtain ⟨s16, e_s16⟩ : ∃ z, z = upI s14 1018 a1.toNatClampNeg 0 := ⟨_, rfl⟩
      refine va_zast (D := (dC, dI)) hx hb hK hP hD hS 13 2 atm18 rfl hi_15 dX9_kind_86 (fun H locs hP hD hS => ?_)
      rw [isB_vp isB0] at hP hD
      rw [stm18, ← e_s16] at hP hD
      replace hwp := hwp s16 e_s16
      refine lv_aload_n hx hb dX9_kind_87 rfl (lv_at hl 0 rfl) ?_
      refine va_get (D := (dC, dI)) (ci := 9) (v := .ref (ad 119 0)) (C := RX9) (T := TX9) (N := 43) hx hb hts iX9_kind_9 hown hK hP 0 atModel rfl 19 (by decide) (hts (.fieldLink RX9 62 "LinkQueuesModel" "drops" "[Z") (by decide +kernel)) (fun _ h9 => h9) rfl dX9_kind_88 ?_
      refine lv_iload_n hx hb dX9_kind_91 rfl (lv_at hl 1 rfl) ?_
      refine lv_iconst (v := 0) hx hb dX9_kind_92 (by decide) ?_
      obtain ⟨hi_17, hwp⟩ := hwp
      obtain ⟨s18, e_s18⟩ : ∃ z, z = upI s16 1019 a1.toNatClampNeg 0 := ⟨_, rfl⟩
      refine va_zast (D := (dC, dI)) hx hb hK hP hD hS 14 2 atm19 rfl hi_17 dX9_kind_93 (fun H locs hP hD hS => ?_)
      rw [isB_vp isB0] at hP hD
      rw [stm19, ← e_s18] at hP hD
      replace hwp := hwp s18 e_s18
      refine lv_aload_n hx hb dX9_kind_94 rfl (lv_at hl 0 rfl) ?_
      refine va_get (D := (dC, dI)) (ci := 9) (v := .ref (ad 120 0)) (C := RX9) (T := TX9) (N := 43) hx hb hts iX9_kind_9 hown hK hP 0 atModel rfl 20 (by decide) (hts (.fieldLink RX9 65 "LinkQueuesModel" "nextTime" "[D") (by decide +kernel)) (fun _ h9 => h9) rfl dX9_kind_95 ?_
      refine lv_iload_n hx hb dX9_kind_98 rfl (lv_at hl 1 rfl) ?_
      refine lv_dconst0 hx hb dX9_kind_99 ?_
      obtain ⟨hi_19, hwp⟩ := hwp
      obtain ⟨s20, e_s20⟩ : ∃ z, z = upD s18 1020 a1.toNatClampNeg FP.dconst0 := ⟨_, rfl⟩
      refine va_dast (D := (dC, dI)) hx hb hK hP hD hS 15 0 atm20 rfl hi_19 dX9_kind_100 (fun H locs hP hD hS => ?_)
      rw [stm20, ← e_s20] at hP hD
      replace hwp := hwp s20 e_s20
      refine lv_aload_n hx hb dX9_kind_101 rfl (lv_at hl 0 rfl) ?_
      refine va_get (D := (dC, dI)) (ci := 9) (v := .ref (ad 121 0)) (C := RX9) (T := TX9) (N := 43) hx hb hts iX9_kind_9 hown hK hP 0 atModel rfl 21 (by decide) (hts (.fieldLink RX9 68 "LinkQueuesModel" "delayCount" "[I") (by decide +kernel)) (fun _ h9 => h9) rfl dX9_kind_102 ?_
      refine lv_iload_n hx hb dX9_kind_105 rfl (lv_at hl 1 rfl) ?_
      refine lv_iconst (v := 0) hx hb dX9_kind_106 (by decide) ?_
      obtain ⟨hi_21, hwp⟩ := hwp
      obtain ⟨s22, e_s22⟩ : ∃ z, z = upI s20 1021 a1.toNatClampNeg 0 := ⟨_, rfl⟩
      refine va_iast (D := (dC, dI)) hx hb hK hP hD hS 16 1 atm21 rfl hi_21 dX9_kind_107 (fun H locs hP hD hS => ?_)
      rw [stm21, ← e_s22] at hP hD
      replace hwp := hwp s22 e_s22
      refine lv_aload_n hx hb dX9_kind_108 rfl (lv_at hl 0 rfl) ?_
      refine va_get (D := (dC, dI)) (ci := 9) (v := .ref (ad 122 0)) (C := RX9) (T := TX9) (N := 43) hx hb hts iX9_kind_9 hown hK hP 0 atModel rfl 22 (by decide) (hts (.fieldLink RX9 71 "LinkQueuesModel" "lastCount" "[I") (by decide +kernel)) (fun _ h9 => h9) rfl dX9_kind_109 ?_
      refine lv_iload_n hx hb dX9_kind_112 rfl (lv_at hl 1 rfl) ?_
      refine lv_iconst (v := 0) hx hb dX9_kind_113 (by decide) ?_
      obtain ⟨hi_23, hwp⟩ := hwp
      obtain ⟨s24, e_s24⟩ : ∃ z, z = upI s22 1022 a1.toNatClampNeg 0 := ⟨_, rfl⟩
      refine va_iast (D := (dC, dI)) hx hb hK hP hD hS 17 1 atm22 rfl hi_23 dX9_kind_114 (fun H locs hP hD hS => ?_)
      rw [stm22, ← e_s24] at hP hD
      replace hwp := hwp s24 e_s24
      exact W.vret hx hb hr (fun t ht hW => ⟨⟨s24, rfl, hwp, by rw [ht]; exact hP, va_K.moved hW.alike hK, hD⟩, hS.F ht⟩) hS.2.2 dX9_kind_115
    · replace hwp := hwp.2 c_38
      exact W.vret hx hb hr (fun t ht hW => ⟨⟨s3, rfl, hwp, by rw [ht]; exact hP, va_K.moved hW.alike hK, hD⟩, hS.F ht⟩) hS.2.2 dX9_kind_41
  have J34 : ∀ (z34 : ST), wp_X9_kind_J34 a1 a2 a3 K (wp_X9_kind_J35 a1 a2 a3 K) z34 → ∀ (H : Heap) (locs : List Loc) (ls : Array Slot), va_P (dC, dI) vwCl (Wm cA ad z34) H → va_D A (Wm cA ad z34) → va_S A s.heap H locs → lv_has ls 4 [(0, .ref (ad 9 0)), (1, .int a1), (2, .int a2), (3, .int a3)] → W p l e ({ frames := 1, cells := 0, slots := 0, locals := 22 } : Room) s m ([.ref (ad 9 0), .int a1, .int a2, .int a3] : List Value).toArray below meth c H locs 0 0 (MQ below (va_Qv K (atC dC dI cA (Wm cA ad) A) A) ([.ref (ad 9 0), .int a1, .int a2, .int a3] : List Value).toArray s 0 0 A) (F0 m 34 ls [.ref (ad 9 0)]) := by
    intro z34 hwp H locs ls hP hD hS hl
    refine lv_iconst (v := 1) hx hb dX9_kind_34 (by decide) ?_
    exact J35 z34 1 hwp _ _ _ hP hD hS (lv_sub hl [0, 1, 2, 3] rfl)
  refine lv_if_eq (tgt := 34) hx hb dX9_kind_7 (by decide) (fun c_7 => ?_) (fun c_7 => ?_)
  · replace hwp := hwp.1 c_7
    exact J34 s1 hwp _ _ _ hP hD hS (lv_sub hl [0, 1, 2, 3] rfl)
  · replace hwp := hwp.2 c_7
    refine lv_iload_n hx hb dX9_kind_10 rfl (lv_at hl 2 rfl) ?_
    refine lv_iconst (v := 0) hx hb dX9_kind_11 (by decide) ?_
    refine lv_iconst (v := 2) hx hb dX9_kind_12 (by decide) ?_
    have hF := fA hD hS hA
    refine va_calli (va_runS (As := [.int a2, .int 0, .int 2]) (rest := [.ref (ad 9 0)]) ⟨hx, hb, hml, hown, hts⟩ (c_X9_isIn l dC dI cA ad s1 a2 0 2 H.size _ hwp) (cwS 3 hts gX9_kind_X9_isIn rfl rfl rfl (by decide +kernel) ⟨Nat.le_of_ble_eq_true rfl, Nat.le_of_ble_eq_true rfl⟩) ⟨fbC, fun U hU hW => ⟨rfl, by rw [hU], by rw [hU]; exact hP, va_K.moved hW.alike hK, hD.weaken (fun _ _ _ _ => trivial)⟩⟩ rfl rfl hl.1 rfl (lv_room (Nat.le_of_ble_eq_true rfl)) dX9_kind_13 ⟨hkc, hks⟩) hS (fun q _ h => hF q h) hF (fun r26 s25 t H1 locs ht hvm hwp hB hz1 hk1 hS => ?_)
    obtain ⟨hP1, hK1, hD1⟩ := hB
    rw [ht] at hP1
    have hD2 := hD1.weaken (fun _ q _ h => hF q.1 h)
    clear hP hD
    have hP := hP1
    have hD := hD2
    clear hP1 hD1 hD2 hK1 hk1 hz1 hF
    generalize H1 = H at hP hS ⊢
    refine lv_if_eq (tgt := 34) hx hb dX9_kind_16 (by decide) (fun c_16 => ?_) (fun c_16 => ?_)
    · replace hwp := hwp.1 c_16
      exact J34 s25 hwp _ _ _ hP hD hS (lv_sub hl [0, 1, 2, 3] rfl)
    · replace hwp := hwp.2 c_16
      refine lv_iload_n hx hb dX9_kind_19 rfl (lv_at hl 3 rfl) ?_
      refine lv_iconst (v := 1) hx hb dX9_kind_20 (by decide) ?_
      refine lv_sipush (v := 3000) hx hb dX9_kind_21 (by decide) ?_
      have hF := fA hD hS hA
      refine va_calli (va_runS (As := [.int a3, .int 1, .int 3000]) (rest := [.ref (ad 9 0)]) ⟨hx, hb, hml, hown, hts⟩ (c_X9_isIn l dC dI cA ad s25 a3 1 3000 H.size _ hwp) (cwS 3 hts gX9_kind_X9_isIn rfl rfl rfl (by decide +kernel) ⟨Nat.le_of_ble_eq_true rfl, Nat.le_of_ble_eq_true rfl⟩) ⟨fbC, fun U hU hW => ⟨rfl, by rw [hU], by rw [hU]; exact hP, va_K.moved hW.alike hK, hD.weaken (fun _ _ _ _ => trivial)⟩⟩ rfl rfl hl.1 rfl (lv_room (Nat.le_of_ble_eq_true rfl)) dX9_kind_24 ⟨hkc, hks⟩) hS (fun q _ h => hF q h) hF (fun r28 s27 t H1 locs ht hvm hwp hB hz1 hk1 hS => ?_)
      obtain ⟨hP1, hK1, hD1⟩ := hB
      rw [ht] at hP1
      have hD2 := hD1.weaken (fun _ q _ h => hF q.1 h)
      clear hP hD
      have hP := hP1
      have hD := hD2
      clear hP1 hD1 hD2 hK1 hk1 hz1 hF
      generalize H1 = H at hP hS ⊢
      refine lv_if_eq (tgt := 34) hx hb dX9_kind_27 (by decide) (fun c_27 => ?_) (fun c_27 => ?_)
      · replace hwp := hwp.1 c_27
        exact J34 s27 hwp _ _ _ hP hD hS (lv_sub hl [0, 1, 2, 3] rfl)
      · replace hwp := hwp.2 c_27
        refine lv_iconst (v := 0) hx hb dX9_kind_30 (by decide) ?_
        refine lv_goto (tgt := 35) hx hb dX9_kind_31 (by decide) ?_
        exact J35 s27 0 hwp _ _ _ hP hD hS (lv_sub hl [0, 1, 2, 3] rfl)
def wp_X9_mean_J77 (a1 : Int32) (a2 : UInt64) (a4 : UInt64) (a6 : UInt64) (a8 : UInt64) (K : ST → Prop) (z77 : ST) (y0_77 : Int32) : Prop := wp_X9_refused z77 y0_77 (fun r4 s3 =>
((r4 = 0 → (vp_in a1 6 ∧
∀ s6, s6 = upD s3 1008 a1.toNatClampNeg a2 →
vp_in a1 6 ∧
∀ s8, s8 = upD s6 1009 a1.toNatClampNeg a4 →
vp_in a1 6 ∧
∀ s10, s10 = upD s8 1010 a1.toNatClampNeg a6 →
vp_in a1 6 ∧
∀ s12, s12 = upD s10 1011 a1.toNatClampNeg a8 →
K s12)) ∧ (¬ (r4 = 0) → (K s3)))
)
def wp_X9_mean_J64 (a1 : Int32) (a2 : UInt64) (a4 : UInt64) (a6 : UInt64) (a8 : UInt64) (K : ST → Prop) (z64 : ST) (y0_64 : Int32) : Prop := ((y0_64 = 0 → (wp_X9_mean_J77 a1 a2 a4 a6 a8 K z64 1)) ∧ (¬ (y0_64 = 0) → (wp_X9_mean_J77 a1 a2 a4 a6 a8 K z64 0)))
def wp_X9_mean_J63 (a1 : Int32) (a2 : UInt64) (a4 : UInt64) (a6 : UInt64) (a8 : UInt64) (K : ST → Prop) (G64 : ST → Int32 → Prop) (z63 : ST) : Prop := G64 z63 0
def wp_X9_mean (σ : ST) (a1 : Int32) (a2 : UInt64) (a4 : UInt64) (a6 : UInt64) (a8 : UInt64) (K : ST → Prop) : Prop := wp_X9_isIn σ a1 0 5 (fun r2 s1 =>
((r2 = 0 → (wp_X9_mean_J63 a1 a2 a4 a6 a8 K (wp_X9_mean_J64 a1 a2 a4 a6 a8 K) s1)) ∧ (¬ (r2 = 0) → ((((Op.cmpValue (FP.dcmp a2 FP.dconst0) .l) < 0 → (wp_X9_mean_J63 a1 a2 a4 a6 a8 K (wp_X9_mean_J64 a1 a2 a4 a6 a8 K) s1)) ∧ (¬ ((Op.cmpValue (FP.dcmp a2 FP.dconst0) .l) < 0) → (((0 ≤ (Op.cmpValue (FP.dcmp a2 a4) .g) → (wp_X9_mean_J63 a1 a2 a4 a6 a8 K (wp_X9_mean_J64 a1 a2 a4 a6 a8 K) s1)) ∧ (¬ (0 ≤ (Op.cmpValue (FP.dcmp a2 a4) .g)) → (((0 < (Op.cmpValue (FP.dcmp a4 4652007308841189376) .g) → (wp_X9_mean_J63 a1 a2 a4 a6 a8 K (wp_X9_mean_J64 a1 a2 a4 a6 a8 K) s1)) ∧ (¬ (0 < (Op.cmpValue (FP.dcmp a4 4652007308841189376) .g)) → ((((Op.cmpValue (FP.dcmp a6 FP.dconst0) .l) ≤ 0 → (wp_X9_mean_J63 a1 a2 a4 a6 a8 K (wp_X9_mean_J64 a1 a2 a4 a6 a8 K) s1)) ∧ (¬ ((Op.cmpValue (FP.dcmp a6 FP.dconst0) .l) ≤ 0) → (((0 < (Op.cmpValue (FP.dcmp a6 FP.dconst1) .g) → (wp_X9_mean_J63 a1 a2 a4 a6 a8 K (wp_X9_mean_J64 a1 a2 a4 a6 a8 K) s1)) ∧ (¬ (0 < (Op.cmpValue (FP.dcmp a6 FP.dconst1) .g)) → ((((Op.cmpValue (FP.dcmp a8 FP.dconst0) .l) ≤ 0 → (wp_X9_mean_J63 a1 a2 a4 a6 a8 K (wp_X9_mean_J64 a1 a2 a4 a6 a8 K) s1)) ∧ (¬ ((Op.cmpValue (FP.dcmp a8 FP.dconst0) .l) ≤ 0) → (((0 < (Op.cmpValue (FP.dcmp a8 FP.dconst1) .g) → (wp_X9_mean_J63 a1 a2 a4 a6 a8 K (wp_X9_mean_J64 a1 a2 a4 a6 a8 K) s1)) ∧ (¬ (0 < (Op.cmpValue (FP.dcmp a8 FP.dconst1) .g)) → (wp_X9_mean_J64 a1 a2 a4 a6 a8 K s1 1))))))))))))))))))))))))
)
set_option maxRecDepth 20000 in
theorem iX9_mean_9 : ∀ w ∈ wsX90, w ∈ wsX9_mean := by decide +kernel
set_option maxHeartbeats 8000000 in
set_option maxRecDepth 100000 in
theorem c_X9_mean (l : Launch) (dC : Nat → ClassId) (dI : Nat → Nat → Nat) (cA : Nat → ClassId) (ad : Nat → Nat → Nat) (σ : ST) (a1 : Int32) (a2 : UInt64) (a4 : UInt64) (a6 : UInt64) (a8 : UInt64) (sz : Nat) (K : ST → Prop) (hwp : wp_X9_mean σ a1 a2 a4 a6 a8 K) : Met l yX9_mean wsX9_mean ({ frames := 1, cells := 0, slots := 0, locals := 22 } : Room) (va_Pc [.ref (ad 9 0), .int a1, .double a2, .double a4, .double a6, .double a8] (preC dC dI cA (Wm cA ad σ) sz)) (va_Qv K (atC dC dI cA (Wm cA ad) (va_A (Wm cA ad σ) sz)) (va_A (Wm cA ad σ) sz)) 0 0 (va_A (Wm cA ad σ) sz) := by
  refine Met.ofW (cc := cX9_mean) (maxL := 11) (ret := none) (by decide) rfl ?_
  intro p e s m args below meth c s₁ B hml hv
  obtain ⟨rfl, hsz, hP, hK, hD0⟩ := hv
  have hx := B.exec
  have hb := B.bytes
  have hr := B.returns
  have hts := atoms_spec (ws := wsX9_mean) B.pre
  have hown : s.vm.findClass RX9 = some m.cls := findClass_of_methodNamed B.named
  have hlocks := B.notSynchronized
  subst hsz
  have hD := hD0.self (sz := s.heap.size)
  clear hD0
  generalize hAe : va_A (Wm cA ad σ) s.heap.size = A at hD ⊢
  have hA : ∀ q : Nat, s.heap.size ≤ q → A q := fun q h => by rw [← hAe]; exact Or.inr h
  have hS : va_S A s.heap s.heap [] := va_S.rf
  have hkc : 0 ≤ 0 := Nat.le_refl 0
  have hks : 0 ≤ 0 := Nat.le_refl 0
  have hl := lv_entry ([.ref (ad 9 0), .int a1, .double a2, .double a4, .double a6, .double a8]) (n := 11) (Nat.le_of_ble_eq_true rfl)
  rw [lg_entry_eq]
  generalize (lg_sl ([.ref (ad 9 0), .int a1, .double a2, .double a4, .double a6, .double a8]) ++ List.replicate (11 - (lg_sl ([.ref (ad 9 0), .int a1, .double a2, .double a4, .double a6, .double a8])).length) Slot.unset).toArray = ls at hl ⊢
  have hl : lv_has ls 11 [(0, .ref (ad 9 0)), (1, .int a1), (2, .double a2), (4, .double a4), (6, .double a6), (8, .double a8)] := hl
  unfold wp_X9_mean at hwp
  generalize hHe : s.heap = H at hP ⊢
  have hS : va_S A s.heap H [] := by rw [← hHe]; exact va_S.rf
  clear hHe
  refine lv_iload_n hx hb dX9_mean_0 rfl (lv_at hl 1 rfl) ?_
  refine lv_iconst (v := 0) hx hb dX9_mean_1 (by decide) ?_
  refine lv_iconst (v := 5) hx hb dX9_mean_2 (by decide) ?_
  have hF := fA hD hS hA
  refine va_calli (va_runS (As := [.int a1, .int 0, .int 5]) (rest := []) ⟨hx, hb, hml, hown, hts⟩ (c_X9_isIn l dC dI cA ad σ a1 0 5 H.size _ hwp) (cwS 3 hts gX9_mean_X9_isIn rfl rfl rfl (by decide +kernel) ⟨Nat.le_of_ble_eq_true rfl, Nat.le_of_ble_eq_true rfl⟩) ⟨fbC, fun U hU hW => ⟨rfl, by rw [hU], by rw [hU]; exact hP, va_K.moved hW.alike hK, hD.weaken (fun _ _ _ _ => trivial)⟩⟩ rfl rfl hl.1 rfl (lv_room (Nat.le_of_ble_eq_true rfl)) dX9_mean_3 ⟨hkc, hks⟩) hS (fun q _ h => hF q h) hF (fun r2 s1 t H1 locs ht hvm hwp hB hz1 hk1 hS => ?_)
  obtain ⟨hP1, hK1, hD1⟩ := hB
  rw [ht] at hP1
  have hD2 := hD1.weaken (fun _ q _ h => hF q.1 h)
  clear hP hD
  have hP := hP1
  have hD := hD2
  clear hP1 hD1 hD2 hK1 hk1 hz1 hF
  generalize H1 = H at hP hS ⊢
  have J64 : ∀ (z64 : ST) (y0_64 : Int32), wp_X9_mean_J64 a1 a2 a4 a6 a8 K z64 y0_64 → ∀ (H : Heap) (locs : List Loc) (ls : Array Slot), va_P (dC, dI) vwCl (Wm cA ad z64) H → va_D A (Wm cA ad z64) → va_S A s.heap H locs → lv_has ls 11 [(0, .ref (ad 9 0)), (1, .int a1), (2, .double a2), (4, .double a4), (6, .double a6), (8, .double a8)] → W p l e ({ frames := 1, cells := 0, slots := 0, locals := 22 } : Room) s m ([.ref (ad 9 0), .int a1, .double a2, .double a4, .double a6, .double a8] : List Value).toArray below meth c H locs 0 0 (MQ below (va_Qv K (atC dC dI cA (Wm cA ad) A) A) ([.ref (ad 9 0), .int a1, .double a2, .double a4, .double a6, .double a8] : List Value).toArray s 0 0 A) (F0 m 64 ls [.int y0_64]) := by
    intro z64 y0_64 hwp H locs ls hP hD hS hl
    refine lv_istore (lv' := [(10, .int y0_64), (0, .ref (ad 9 0)), (1, .int a1), (2, .double a2), (4, .double a4), (6, .double a6), (8, .double a8)]) hx hb dX9_mean_64 hl (by decide) rfl (fun ls hl => ?_)
    refine lv_aload_n hx hb dX9_mean_66 rfl (lv_at hl 1 rfl) ?_
    refine lv_iload hx hb dX9_mean_67 (lv_at hl 0 rfl) ?_
    have J77 : ∀ (z77 : ST) (y0_77 : Int32), wp_X9_mean_J77 a1 a2 a4 a6 a8 K z77 y0_77 → ∀ (H : Heap) (locs : List Loc) (ls : Array Slot), va_P (dC, dI) vwCl (Wm cA ad z77) H → va_D A (Wm cA ad z77) → va_S A s.heap H locs → lv_has ls 11 [(0, .ref (ad 9 0)), (1, .int a1), (2, .double a2), (4, .double a4), (6, .double a6), (8, .double a8)] → W p l e ({ frames := 1, cells := 0, slots := 0, locals := 22 } : Room) s m ([.ref (ad 9 0), .int a1, .double a2, .double a4, .double a6, .double a8] : List Value).toArray below meth c H locs 0 0 (MQ below (va_Qv K (atC dC dI cA (Wm cA ad) A) A) ([.ref (ad 9 0), .int a1, .double a2, .double a4, .double a6, .double a8] : List Value).toArray s 0 0 A) (F0 m 77 ls [.int y0_77, .ref (ad 9 0)]) := by
      intro z77 y0_77 hwp H locs ls hP hD hS hl
      have hF := fA hD hS hA
      refine va_calli (va_runV (As := [.int y0_77]) (rest := []) ⟨hx, hb, hml, hown, hts⟩ (c_X9_refused l dC dI cA ad z77 y0_77 H.size _ hwp) (cwV 1 hts gX9_mean_X9_refused rfl rfl rfl (by decide +kernel) ⟨Nat.le_of_ble_eq_true rfl, Nat.le_of_ble_eq_true rfl⟩) ⟨fbC, va_recv hK hP (ci := 9) (q0 := 0) rfl atModel, fun U hU hW => ⟨rfl, by rw [hU], by rw [hU]; exact hP, va_K.moved hW.alike hK, hD.weaken (fun _ _ _ _ => trivial)⟩⟩ rfl rfl hl.1 rfl (lv_room (Nat.le_of_ble_eq_true rfl)) dX9_mean_77 ⟨hkc, hks⟩) hS (fun q _ h => hF q h) hF (fun r4 s3 t H1 locs ht hvm hwp hB hz1 hk1 hS => ?_)
      obtain ⟨hP1, hK1, hD1⟩ := hB
      rw [ht] at hP1
      have hD2 := hD1.weaken (fun _ q _ h => hF q.1 h)
      clear hP hD
      have hP := hP1
      have hD := hD2
      clear hP1 hD1 hD2 hK1 hk1 hz1 hF
      generalize H1 = H at hP hS ⊢
      refine lv_if_eq (tgt := 84) hx hb dX9_mean_80 (by decide) (fun c_80 => ?_) (fun c_80 => ?_)
      · replace hwp := hwp.1 c_80
        refine lv_aload_n hx hb dX9_mean_84 rfl (lv_at hl 0 rfl) ?_
        refine va_get (D := (dC, dI)) (ci := 9) (v := .ref (ad 108 0)) (C := RX9) (T := TX9) (N := 43) hx hb hts iX9_mean_9 hown hK hP 0 atModel rfl 8 (by decide) (hts (.fieldLink RX9 27 "LinkQueuesModel" "low" "[D") (by decide +kernel)) (fun _ h9 => h9) rfl dX9_mean_85 ?_
        refine lv_iload_n hx hb dX9_mean_88 rfl (lv_at hl 1 rfl) ?_
        refine lv_dload_n hx hb dX9_mean_89 rfl (lv_at hl 2 rfl) ?_
        obtain ⟨hi_5, hwp⟩ := hwp
        obtain ⟨s6, e_s6⟩ : ∃ z, z = upD s3 1008 a1.toNatClampNeg a2 := ⟨_, rfl⟩
        refine va_dast (D := (dC, dI)) hx hb hK hP hD hS 3 0 atm8 rfl hi_5 dX9_mean_90 (fun H locs hP hD hS => ?_)
        rw [stm8, ← e_s6] at hP hD
        replace hwp := hwp s6 e_s6
        refine lv_aload_n hx hb dX9_mean_91 rfl (lv_at hl 0 rfl) ?_
        refine va_get (D := (dC, dI)) (ci := 9) (v := .ref (ad 109 0)) (C := RX9) (T := TX9) (N := 43) hx hb hts iX9_mean_9 hown hK hP 0 atModel rfl 9 (by decide) (hts (.fieldLink RX9 31 "LinkQueuesModel" "high" "[D") (by decide +kernel)) (fun _ h9 => h9) rfl dX9_mean_92 ?_
        refine lv_iload_n hx hb dX9_mean_95 rfl (lv_at hl 1 rfl) ?_
        refine lv_dload hx hb dX9_mean_96 (lv_at hl 3 rfl) ?_
        obtain ⟨hi_7, hwp⟩ := hwp
        obtain ⟨s8, e_s8⟩ : ∃ z, z = upD s6 1009 a1.toNatClampNeg a4 := ⟨_, rfl⟩
        refine va_dast (D := (dC, dI)) hx hb hK hP hD hS 4 0 atm9 rfl hi_7 dX9_mean_98 (fun H locs hP hD hS => ?_)
        rw [stm9, ← e_s8] at hP hD
        replace hwp := hwp s8 e_s8
        refine lv_aload_n hx hb dX9_mean_99 rfl (lv_at hl 0 rfl) ?_
        refine va_get (D := (dC, dI)) (ci := 9) (v := .ref (ad 110 0)) (C := RX9) (T := TX9) (N := 43) hx hb hts iX9_mean_9 hown hK hP 0 atModel rfl 10 (by decide) (hts (.fieldLink RX9 34 "LinkQueuesModel" "top" "[D") (by decide +kernel)) (fun _ h9 => h9) rfl dX9_mean_100 ?_
        refine lv_iload_n hx hb dX9_mean_103 rfl (lv_at hl 1 rfl) ?_
        refine lv_dload hx hb dX9_mean_104 (lv_at hl 4 rfl) ?_
        obtain ⟨hi_9, hwp⟩ := hwp
        obtain ⟨s10, e_s10⟩ : ∃ z, z = upD s8 1010 a1.toNatClampNeg a6 := ⟨_, rfl⟩
        refine va_dast (D := (dC, dI)) hx hb hK hP hD hS 5 0 atm10 rfl hi_9 dX9_mean_106 (fun H locs hP hD hS => ?_)
        rw [stm10, ← e_s10] at hP hD
        replace hwp := hwp s10 e_s10
        refine lv_aload_n hx hb dX9_mean_107 rfl (lv_at hl 0 rfl) ?_
        refine va_get (D := (dC, dI)) (ci := 9) (v := .ref (ad 111 0)) (C := RX9) (T := TX9) (N := 43) hx hb hts iX9_mean_9 hown hK hP 0 atModel rfl 11 (by decide) (hts (.fieldLink RX9 37 "LinkQueuesModel" "weight" "[D") (by decide +kernel)) (fun _ h9 => h9) rfl dX9_mean_108 ?_
        refine lv_iload_n hx hb dX9_mean_111 rfl (lv_at hl 1 rfl) ?_
        refine lv_dload hx hb dX9_mean_112 (lv_at hl 5 rfl) ?_
        obtain ⟨hi_11, hwp⟩ := hwp
        obtain ⟨s12, e_s12⟩ : ∃ z, z = upD s10 1011 a1.toNatClampNeg a8 := ⟨_, rfl⟩
        refine va_dast (D := (dC, dI)) hx hb hK hP hD hS 6 0 atm11 rfl hi_11 dX9_mean_114 (fun H locs hP hD hS => ?_)
        rw [stm11, ← e_s12] at hP hD
        replace hwp := hwp s12 e_s12
        exact W.vret hx hb hr (fun t ht hW => ⟨⟨s12, rfl, hwp, by rw [ht]; exact hP, va_K.moved hW.alike hK, hD⟩, hS.F ht⟩) hS.2.2 dX9_mean_115
      · replace hwp := hwp.2 c_80
        exact W.vret hx hb hr (fun t ht hW => ⟨⟨s3, rfl, hwp, by rw [ht]; exact hP, va_K.moved hW.alike hK, hD⟩, hS.F ht⟩) hS.2.2 dX9_mean_83
    refine lv_if_eq (tgt := 76) hx hb dX9_mean_69 (by decide) (fun c_69 => ?_) (fun c_69 => ?_)
    · replace hwp := hwp.1 c_69
      refine lv_iconst (v := 1) hx hb dX9_mean_76 (by decide) ?_
      exact J77 z64 1 hwp _ _ _ hP hD hS (lv_sub hl [1, 2, 3, 4, 5, 6] rfl)
    · replace hwp := hwp.2 c_69
      refine lv_iconst (v := 0) hx hb dX9_mean_72 (by decide) ?_
      refine lv_goto (tgt := 77) hx hb dX9_mean_73 (by decide) ?_
      exact J77 z64 0 hwp _ _ _ hP hD hS (lv_sub hl [1, 2, 3, 4, 5, 6] rfl)
  have J63 : ∀ (z63 : ST), wp_X9_mean_J63 a1 a2 a4 a6 a8 K (wp_X9_mean_J64 a1 a2 a4 a6 a8 K) z63 → ∀ (H : Heap) (locs : List Loc) (ls : Array Slot), va_P (dC, dI) vwCl (Wm cA ad z63) H → va_D A (Wm cA ad z63) → va_S A s.heap H locs → lv_has ls 11 [(0, .ref (ad 9 0)), (1, .int a1), (2, .double a2), (4, .double a4), (6, .double a6), (8, .double a8)] → W p l e ({ frames := 1, cells := 0, slots := 0, locals := 22 } : Room) s m ([.ref (ad 9 0), .int a1, .double a2, .double a4, .double a6, .double a8] : List Value).toArray below meth c H locs 0 0 (MQ below (va_Qv K (atC dC dI cA (Wm cA ad) A) A) ([.ref (ad 9 0), .int a1, .double a2, .double a4, .double a6, .double a8] : List Value).toArray s 0 0 A) (F0 m 63 ls []) := by
    intro z63 hwp H locs ls hP hD hS hl
    refine lv_iconst (v := 0) hx hb dX9_mean_63 (by decide) ?_
    exact J64 z63 0 hwp _ _ _ hP hD hS (lv_sub hl [0, 1, 2, 3, 4, 5] rfl)
  refine lv_if_eq (tgt := 63) hx hb dX9_mean_6 (by decide) (fun c_6 => ?_) (fun c_6 => ?_)
  · replace hwp := hwp.1 c_6
    exact J63 s1 hwp _ _ _ hP hD hS (lv_sub hl [0, 1, 2, 3, 4, 5] rfl)
  · replace hwp := hwp.2 c_6
    refine lv_dload_n hx hb dX9_mean_9 rfl (lv_at hl 2 rfl) ?_
    refine lv_dconst0 hx hb dX9_mean_10 ?_
    refine lv_dcmp hx hb dX9_mean_11 ?_
    refine lv_if_lt (tgt := 63) hx hb dX9_mean_12 (by decide) (fun c_12 => ?_) (fun c_12 => ?_)
    · replace hwp := hwp.1 c_12
      exact J63 s1 hwp _ _ _ hP hD hS (lv_sub hl [0, 1, 2, 3, 4, 5] rfl)
    · replace hwp := hwp.2 c_12
      refine lv_dload_n hx hb dX9_mean_15 rfl (lv_at hl 2 rfl) ?_
      refine lv_dload hx hb dX9_mean_16 (lv_at hl 3 rfl) ?_
      refine lv_dcmp hx hb dX9_mean_18 ?_
      refine lv_if_ge (tgt := 63) hx hb dX9_mean_19 (by decide) (fun c_19 => ?_) (fun c_19 => ?_)
      · replace hwp := hwp.1 c_19
        exact J63 s1 hwp _ _ _ hP hD hS (lv_sub hl [0, 1, 2, 3, 4, 5] rfl)
      · replace hwp := hwp.2 c_19
        refine lv_dload hx hb dX9_mean_22 (lv_at hl 3 rfl) ?_
        refine lv_ldc2d (v := 4652007308841189376) hx hb hown (hts (.constantDouble RX9 129 (4652007308841189376)) (by decide +kernel)) dX9_mean_24 ?_
        refine lv_dcmp hx hb dX9_mean_27 ?_
        refine lv_if_gt (tgt := 63) hx hb dX9_mean_28 (by decide) (fun c_28 => ?_) (fun c_28 => ?_)
        · replace hwp := hwp.1 c_28
          exact J63 s1 hwp _ _ _ hP hD hS (lv_sub hl [0, 1, 2, 3, 4, 5] rfl)
        · replace hwp := hwp.2 c_28
          refine lv_dload hx hb dX9_mean_31 (lv_at hl 4 rfl) ?_
          refine lv_dconst0 hx hb dX9_mean_33 ?_
          refine lv_dcmp hx hb dX9_mean_34 ?_
          refine lv_if_le (tgt := 63) hx hb dX9_mean_35 (by decide) (fun c_35 => ?_) (fun c_35 => ?_)
          · replace hwp := hwp.1 c_35
            exact J63 s1 hwp _ _ _ hP hD hS (lv_sub hl [0, 1, 2, 3, 4, 5] rfl)
          · replace hwp := hwp.2 c_35
            refine lv_dload hx hb dX9_mean_38 (lv_at hl 4 rfl) ?_
            refine lv_dconst1 hx hb dX9_mean_40 ?_
            refine lv_dcmp hx hb dX9_mean_41 ?_
            refine lv_if_gt (tgt := 63) hx hb dX9_mean_42 (by decide) (fun c_42 => ?_) (fun c_42 => ?_)
            · replace hwp := hwp.1 c_42
              exact J63 s1 hwp _ _ _ hP hD hS (lv_sub hl [0, 1, 2, 3, 4, 5] rfl)
            · replace hwp := hwp.2 c_42
              refine lv_dload hx hb dX9_mean_45 (lv_at hl 5 rfl) ?_
              refine lv_dconst0 hx hb dX9_mean_47 ?_
              refine lv_dcmp hx hb dX9_mean_48 ?_
              refine lv_if_le (tgt := 63) hx hb dX9_mean_49 (by decide) (fun c_49 => ?_) (fun c_49 => ?_)
              · replace hwp := hwp.1 c_49
                exact J63 s1 hwp _ _ _ hP hD hS (lv_sub hl [0, 1, 2, 3, 4, 5] rfl)
              · replace hwp := hwp.2 c_49
                refine lv_dload hx hb dX9_mean_52 (lv_at hl 5 rfl) ?_
                refine lv_dconst1 hx hb dX9_mean_54 ?_
                refine lv_dcmp hx hb dX9_mean_55 ?_
                refine lv_if_gt (tgt := 63) hx hb dX9_mean_56 (by decide) (fun c_56 => ?_) (fun c_56 => ?_)
                · replace hwp := hwp.1 c_56
                  exact J63 s1 hwp _ _ _ hP hD hS (lv_sub hl [0, 1, 2, 3, 4, 5] rfl)
                · replace hwp := hwp.2 c_56
                  refine lv_iconst (v := 1) hx hb dX9_mean_59 (by decide) ?_
                  refine lv_goto (tgt := 64) hx hb dX9_mean_60 (by decide) ?_
                  exact J64 s1 1 hwp _ _ _ hP hD hS (lv_sub hl [0, 1, 2, 3, 4, 5] rfl)
def wp_X9_delay_J49 (a1 : Int32) (a2 : UInt64) (a4 : UInt64) (K : ST → Prop) (z49 : ST) (y0_49 : Int32) : Prop := wp_X9_refused z49 y0_49 (fun r4 s3 =>
((r4 = 0 → (vp_in a1 6 ∧
∀ s6, s6 = upD s3 1015 a1.toNatClampNeg a2 →
vp_in a1 6 ∧
∀ s8, s8 = upD s6 1016 a1.toNatClampNeg a4 →
K s8)) ∧ (¬ (r4 = 0) → (K s3)))
)
def wp_X9_delay_J36 (a1 : Int32) (a2 : UInt64) (a4 : UInt64) (K : ST → Prop) (z36 : ST) (y0_36 : Int32) : Prop := ((y0_36 = 0 → (wp_X9_delay_J49 a1 a2 a4 K z36 1)) ∧ (¬ (y0_36 = 0) → (wp_X9_delay_J49 a1 a2 a4 K z36 0)))
def wp_X9_delay_J35 (a1 : Int32) (a2 : UInt64) (a4 : UInt64) (K : ST → Prop) (G36 : ST → Int32 → Prop) (z35 : ST) : Prop := G36 z35 0
def wp_X9_delay (σ : ST) (a1 : Int32) (a2 : UInt64) (a4 : UInt64) (K : ST → Prop) : Prop := wp_X9_isIn σ a1 0 5 (fun r2 s1 =>
((r2 = 0 → (wp_X9_delay_J35 a1 a2 a4 K (wp_X9_delay_J36 a1 a2 a4 K) s1)) ∧ (¬ (r2 = 0) → ((((Op.cmpValue (FP.dcmp a2 FP.dconst0) .l) ≤ 0 → (wp_X9_delay_J35 a1 a2 a4 K (wp_X9_delay_J36 a1 a2 a4 K) s1)) ∧ (¬ ((Op.cmpValue (FP.dcmp a2 FP.dconst0) .l) ≤ 0) → (((0 < (Op.cmpValue (FP.dcmp a2 a4) .g) → (wp_X9_delay_J35 a1 a2 a4 K (wp_X9_delay_J36 a1 a2 a4 K) s1)) ∧ (¬ (0 < (Op.cmpValue (FP.dcmp a2 a4) .g)) → (((0 < (Op.cmpValue (FP.dcmp a4 4666723172467343360) .g) → (wp_X9_delay_J35 a1 a2 a4 K (wp_X9_delay_J36 a1 a2 a4 K) s1)) ∧ (¬ (0 < (Op.cmpValue (FP.dcmp a4 4666723172467343360) .g)) → (wp_X9_delay_J36 a1 a2 a4 K s1 1))))))))))))
)
set_option maxRecDepth 20000 in
theorem iX9_delay_9 : ∀ w ∈ wsX90, w ∈ wsX9_delay := by decide +kernel
set_option maxHeartbeats 8000000 in
set_option maxRecDepth 100000 in
theorem c_X9_delay (l : Launch) (dC : Nat → ClassId) (dI : Nat → Nat → Nat) (cA : Nat → ClassId) (ad : Nat → Nat → Nat) (σ : ST) (a1 : Int32) (a2 : UInt64) (a4 : UInt64) (sz : Nat) (K : ST → Prop) (hwp : wp_X9_delay σ a1 a2 a4 K) : Met l yX9_delay wsX9_delay ({ frames := 1, cells := 0, slots := 0, locals := 22 } : Room) (va_Pc [.ref (ad 9 0), .int a1, .double a2, .double a4] (preC dC dI cA (Wm cA ad σ) sz)) (va_Qv K (atC dC dI cA (Wm cA ad) (va_A (Wm cA ad σ) sz)) (va_A (Wm cA ad σ) sz)) 0 0 (va_A (Wm cA ad σ) sz) := by
  refine Met.ofW (cc := cX9_delay) (maxL := 7) (ret := none) (by decide) rfl ?_
  intro p e s m args below meth c s₁ B hml hv
  obtain ⟨rfl, hsz, hP, hK, hD0⟩ := hv
  have hx := B.exec
  have hb := B.bytes
  have hr := B.returns
  have hts := atoms_spec (ws := wsX9_delay) B.pre
  have hown : s.vm.findClass RX9 = some m.cls := findClass_of_methodNamed B.named
  have hlocks := B.notSynchronized
  subst hsz
  have hD := hD0.self (sz := s.heap.size)
  clear hD0
  generalize hAe : va_A (Wm cA ad σ) s.heap.size = A at hD ⊢
  have hA : ∀ q : Nat, s.heap.size ≤ q → A q := fun q h => by rw [← hAe]; exact Or.inr h
  have hS : va_S A s.heap s.heap [] := va_S.rf
  have hkc : 0 ≤ 0 := Nat.le_refl 0
  have hks : 0 ≤ 0 := Nat.le_refl 0
  have hl := lv_entry ([.ref (ad 9 0), .int a1, .double a2, .double a4]) (n := 7) (Nat.le_of_ble_eq_true rfl)
  rw [lg_entry_eq]
  generalize (lg_sl ([.ref (ad 9 0), .int a1, .double a2, .double a4]) ++ List.replicate (7 - (lg_sl ([.ref (ad 9 0), .int a1, .double a2, .double a4])).length) Slot.unset).toArray = ls at hl ⊢
  have hl : lv_has ls 7 [(0, .ref (ad 9 0)), (1, .int a1), (2, .double a2), (4, .double a4)] := hl
  unfold wp_X9_delay at hwp
  generalize hHe : s.heap = H at hP ⊢
  have hS : va_S A s.heap H [] := by rw [← hHe]; exact va_S.rf
  clear hHe
  refine lv_iload_n hx hb dX9_delay_0 rfl (lv_at hl 1 rfl) ?_
  refine lv_iconst (v := 0) hx hb dX9_delay_1 (by decide) ?_
  refine lv_iconst (v := 5) hx hb dX9_delay_2 (by decide) ?_
  have hF := fA hD hS hA
  refine va_calli (va_runS (As := [.int a1, .int 0, .int 5]) (rest := []) ⟨hx, hb, hml, hown, hts⟩ (c_X9_isIn l dC dI cA ad σ a1 0 5 H.size _ hwp) (cwS 3 hts gX9_delay_X9_isIn rfl rfl rfl (by decide +kernel) ⟨Nat.le_of_ble_eq_true rfl, Nat.le_of_ble_eq_true rfl⟩) ⟨fbC, fun U hU hW => ⟨rfl, by rw [hU], by rw [hU]; exact hP, va_K.moved hW.alike hK, hD.weaken (fun _ _ _ _ => trivial)⟩⟩ rfl rfl hl.1 rfl (lv_room (Nat.le_of_ble_eq_true rfl)) dX9_delay_3 ⟨hkc, hks⟩) hS (fun q _ h => hF q h) hF (fun r2 s1 t H1 locs ht hvm hwp hB hz1 hk1 hS => ?_)
  obtain ⟨hP1, hK1, hD1⟩ := hB
  rw [ht] at hP1
  have hD2 := hD1.weaken (fun _ q _ h => hF q.1 h)
  clear hP hD
  have hP := hP1
  have hD := hD2
  clear hP1 hD1 hD2 hK1 hk1 hz1 hF
  generalize H1 = H at hP hS ⊢
  have J36 : ∀ (z36 : ST) (y0_36 : Int32), wp_X9_delay_J36 a1 a2 a4 K z36 y0_36 → ∀ (H : Heap) (locs : List Loc) (ls : Array Slot), va_P (dC, dI) vwCl (Wm cA ad z36) H → va_D A (Wm cA ad z36) → va_S A s.heap H locs → lv_has ls 7 [(0, .ref (ad 9 0)), (1, .int a1), (2, .double a2), (4, .double a4)] → W p l e ({ frames := 1, cells := 0, slots := 0, locals := 22 } : Room) s m ([.ref (ad 9 0), .int a1, .double a2, .double a4] : List Value).toArray below meth c H locs 0 0 (MQ below (va_Qv K (atC dC dI cA (Wm cA ad) A) A) ([.ref (ad 9 0), .int a1, .double a2, .double a4] : List Value).toArray s 0 0 A) (F0 m 36 ls [.int y0_36]) := by
    intro z36 y0_36 hwp H locs ls hP hD hS hl
    refine lv_istore (lv' := [(6, .int y0_36), (0, .ref (ad 9 0)), (1, .int a1), (2, .double a2), (4, .double a4)]) hx hb dX9_delay_36 hl (by decide) rfl (fun ls hl => ?_)
    refine lv_aload_n hx hb dX9_delay_38 rfl (lv_at hl 1 rfl) ?_
    refine lv_iload hx hb dX9_delay_39 (lv_at hl 0 rfl) ?_
    have J49 : ∀ (z49 : ST) (y0_49 : Int32), wp_X9_delay_J49 a1 a2 a4 K z49 y0_49 → ∀ (H : Heap) (locs : List Loc) (ls : Array Slot), va_P (dC, dI) vwCl (Wm cA ad z49) H → va_D A (Wm cA ad z49) → va_S A s.heap H locs → lv_has ls 7 [(0, .ref (ad 9 0)), (1, .int a1), (2, .double a2), (4, .double a4)] → W p l e ({ frames := 1, cells := 0, slots := 0, locals := 22 } : Room) s m ([.ref (ad 9 0), .int a1, .double a2, .double a4] : List Value).toArray below meth c H locs 0 0 (MQ below (va_Qv K (atC dC dI cA (Wm cA ad) A) A) ([.ref (ad 9 0), .int a1, .double a2, .double a4] : List Value).toArray s 0 0 A) (F0 m 49 ls [.int y0_49, .ref (ad 9 0)]) := by
      intro z49 y0_49 hwp H locs ls hP hD hS hl
      have hF := fA hD hS hA
      refine va_calli (va_runV (As := [.int y0_49]) (rest := []) ⟨hx, hb, hml, hown, hts⟩ (c_X9_refused l dC dI cA ad z49 y0_49 H.size _ hwp) (cwV 1 hts gX9_delay_X9_refused rfl rfl rfl (by decide +kernel) ⟨Nat.le_of_ble_eq_true rfl, Nat.le_of_ble_eq_true rfl⟩) ⟨fbC, va_recv hK hP (ci := 9) (q0 := 0) rfl atModel, fun U hU hW => ⟨rfl, by rw [hU], by rw [hU]; exact hP, va_K.moved hW.alike hK, hD.weaken (fun _ _ _ _ => trivial)⟩⟩ rfl rfl hl.1 rfl (lv_room (Nat.le_of_ble_eq_true rfl)) dX9_delay_49 ⟨hkc, hks⟩) hS (fun q _ h => hF q h) hF (fun r4 s3 t H1 locs ht hvm hwp hB hz1 hk1 hS => ?_)
      obtain ⟨hP1, hK1, hD1⟩ := hB
      rw [ht] at hP1
      have hD2 := hD1.weaken (fun _ q _ h => hF q.1 h)
      clear hP hD
      have hP := hP1
      have hD := hD2
      clear hP1 hD1 hD2 hK1 hk1 hz1 hF
      generalize H1 = H at hP hS ⊢
      refine lv_if_eq (tgt := 56) hx hb dX9_delay_52 (by decide) (fun c_52 => ?_) (fun c_52 => ?_)
      · replace hwp := hwp.1 c_52
        refine lv_aload_n hx hb dX9_delay_56 rfl (lv_at hl 0 rfl) ?_
        refine va_get (D := (dC, dI)) (ci := 9) (v := .ref (ad 115 0)) (C := RX9) (T := TX9) (N := 43) hx hb hts iX9_delay_9 hown hK hP 0 atModel rfl 15 (by decide) (hts (.fieldLink RX9 49 "LinkQueuesModel" "target" "[D") (by decide +kernel)) (fun _ h9 => h9) rfl dX9_delay_57 ?_
        refine lv_iload_n hx hb dX9_delay_60 rfl (lv_at hl 1 rfl) ?_
        refine lv_dload_n hx hb dX9_delay_61 rfl (lv_at hl 2 rfl) ?_
        obtain ⟨hi_5, hwp⟩ := hwp
        obtain ⟨s6, e_s6⟩ : ∃ z, z = upD s3 1015 a1.toNatClampNeg a2 := ⟨_, rfl⟩
        refine va_dast (D := (dC, dI)) hx hb hK hP hD hS 10 0 atm15 rfl hi_5 dX9_delay_62 (fun H locs hP hD hS => ?_)
        rw [stm15, ← e_s6] at hP hD
        replace hwp := hwp s6 e_s6
        refine lv_aload_n hx hb dX9_delay_63 rfl (lv_at hl 0 rfl) ?_
        refine va_get (D := (dC, dI)) (ci := 9) (v := .ref (ad 116 0)) (C := RX9) (T := TX9) (N := 43) hx hb hts iX9_delay_9 hown hK hP 0 atModel rfl 16 (by decide) (hts (.fieldLink RX9 52 "LinkQueuesModel" "interval" "[D") (by decide +kernel)) (fun _ h9 => h9) rfl dX9_delay_64 ?_
        refine lv_iload_n hx hb dX9_delay_67 rfl (lv_at hl 1 rfl) ?_
        refine lv_dload hx hb dX9_delay_68 (lv_at hl 3 rfl) ?_
        obtain ⟨hi_7, hwp⟩ := hwp
        obtain ⟨s8, e_s8⟩ : ∃ z, z = upD s6 1016 a1.toNatClampNeg a4 := ⟨_, rfl⟩
        refine va_dast (D := (dC, dI)) hx hb hK hP hD hS 11 0 atm16 rfl hi_7 dX9_delay_70 (fun H locs hP hD hS => ?_)
        rw [stm16, ← e_s8] at hP hD
        replace hwp := hwp s8 e_s8
        exact W.vret hx hb hr (fun t ht hW => ⟨⟨s8, rfl, hwp, by rw [ht]; exact hP, va_K.moved hW.alike hK, hD⟩, hS.F ht⟩) hS.2.2 dX9_delay_71
      · replace hwp := hwp.2 c_52
        exact W.vret hx hb hr (fun t ht hW => ⟨⟨s3, rfl, hwp, by rw [ht]; exact hP, va_K.moved hW.alike hK, hD⟩, hS.F ht⟩) hS.2.2 dX9_delay_55
    refine lv_if_eq (tgt := 48) hx hb dX9_delay_41 (by decide) (fun c_41 => ?_) (fun c_41 => ?_)
    · replace hwp := hwp.1 c_41
      refine lv_iconst (v := 1) hx hb dX9_delay_48 (by decide) ?_
      exact J49 z36 1 hwp _ _ _ hP hD hS (lv_sub hl [1, 2, 3, 4] rfl)
    · replace hwp := hwp.2 c_41
      refine lv_iconst (v := 0) hx hb dX9_delay_44 (by decide) ?_
      refine lv_goto (tgt := 49) hx hb dX9_delay_45 (by decide) ?_
      exact J49 z36 0 hwp _ _ _ hP hD hS (lv_sub hl [1, 2, 3, 4] rfl)
  have J35 : ∀ (z35 : ST), wp_X9_delay_J35 a1 a2 a4 K (wp_X9_delay_J36 a1 a2 a4 K) z35 → ∀ (H : Heap) (locs : List Loc) (ls : Array Slot), va_P (dC, dI) vwCl (Wm cA ad z35) H → va_D A (Wm cA ad z35) → va_S A s.heap H locs → lv_has ls 7 [(0, .ref (ad 9 0)), (1, .int a1), (2, .double a2), (4, .double a4)] → W p l e ({ frames := 1, cells := 0, slots := 0, locals := 22 } : Room) s m ([.ref (ad 9 0), .int a1, .double a2, .double a4] : List Value).toArray below meth c H locs 0 0 (MQ below (va_Qv K (atC dC dI cA (Wm cA ad) A) A) ([.ref (ad 9 0), .int a1, .double a2, .double a4] : List Value).toArray s 0 0 A) (F0 m 35 ls []) := by
    intro z35 hwp H locs ls hP hD hS hl
    refine lv_iconst (v := 0) hx hb dX9_delay_35 (by decide) ?_
    exact J36 z35 0 hwp _ _ _ hP hD hS (lv_sub hl [0, 1, 2, 3] rfl)
  refine lv_if_eq (tgt := 35) hx hb dX9_delay_6 (by decide) (fun c_6 => ?_) (fun c_6 => ?_)
  · replace hwp := hwp.1 c_6
    exact J35 s1 hwp _ _ _ hP hD hS (lv_sub hl [0, 1, 2, 3] rfl)
  · replace hwp := hwp.2 c_6
    refine lv_dload_n hx hb dX9_delay_9 rfl (lv_at hl 2 rfl) ?_
    refine lv_dconst0 hx hb dX9_delay_10 ?_
    refine lv_dcmp hx hb dX9_delay_11 ?_
    refine lv_if_le (tgt := 35) hx hb dX9_delay_12 (by decide) (fun c_12 => ?_) (fun c_12 => ?_)
    · replace hwp := hwp.1 c_12
      exact J35 s1 hwp _ _ _ hP hD hS (lv_sub hl [0, 1, 2, 3] rfl)
    · replace hwp := hwp.2 c_12
      refine lv_dload_n hx hb dX9_delay_15 rfl (lv_at hl 2 rfl) ?_
      refine lv_dload hx hb dX9_delay_16 (lv_at hl 3 rfl) ?_
      refine lv_dcmp hx hb dX9_delay_18 ?_
      refine lv_if_gt (tgt := 35) hx hb dX9_delay_19 (by decide) (fun c_19 => ?_) (fun c_19 => ?_)
      · replace hwp := hwp.1 c_19
        exact J35 s1 hwp _ _ _ hP hD hS (lv_sub hl [0, 1, 2, 3] rfl)
      · replace hwp := hwp.2 c_19
        refine lv_dload hx hb dX9_delay_22 (lv_at hl 3 rfl) ?_
        refine lv_ldc2d (v := 4666723172467343360) hx hb hown (hts (.constantDouble RX9 131 (4666723172467343360)) (by decide +kernel)) dX9_delay_24 ?_
        refine lv_dcmp hx hb dX9_delay_27 ?_
        refine lv_if_gt (tgt := 35) hx hb dX9_delay_28 (by decide) (fun c_28 => ?_) (fun c_28 => ?_)
        · replace hwp := hwp.1 c_28
          exact J35 s1 hwp _ _ _ hP hD hS (lv_sub hl [0, 1, 2, 3] rfl)
        · replace hwp := hwp.2 c_28
          refine lv_iconst (v := 1) hx hb dX9_delay_31 (by decide) ?_
          refine lv_goto (tgt := 36) hx hb dX9_delay_32 (by decide) ?_
          exact J36 s1 1 hwp _ _ _ hP hD hS (lv_sub hl [0, 1, 2, 3] rfl)
def wp_X9_link_J44 (a1 : UInt64) (a3 : Int32) (K : ST → Prop) (z44 : ST) (y0_44 : Int32) : Prop := wp_X9_refused z44 y0_44 (fun r2 s1 =>
((r2 = 0 → (∀ s3, s3 = upD s1 1003 0 a1 →
∀ s4, s4 = upI s3 1004 0 a3 →
K s4)) ∧ (¬ (r2 = 0) → (K s1)))
)
def wp_X9_link_J31 (a1 : UInt64) (a3 : Int32) (K : ST → Prop) (z31 : ST) (y0_31 : Int32) : Prop := ((y0_31 = 0 → (wp_X9_link_J44 a1 a3 K z31 1)) ∧ (¬ (y0_31 = 0) → (wp_X9_link_J44 a1 a3 K z31 0)))
def wp_X9_link_J30 (a1 : UInt64) (a3 : Int32) (K : ST → Prop) (G31 : ST → Int32 → Prop) (z30 : ST) : Prop := G31 z30 0
def wp_X9_link (σ : ST) (a1 : UInt64) (a3 : Int32) (K : ST → Prop) : Prop := (((Op.cmpValue (FP.dcmp a1 4593671619917905920) .l) < 0 → (wp_X9_link_J30 a1 a3 K (wp_X9_link_J31 a1 a3 K) σ)) ∧ (¬ ((Op.cmpValue (FP.dcmp a1 4593671619917905920) .l) < 0) → (((0 < (Op.cmpValue (FP.dcmp a1 4666723172467343360) .g) → (wp_X9_link_J30 a1 a3 K (wp_X9_link_J31 a1 a3 K) σ)) ∧ (¬ (0 < (Op.cmpValue (FP.dcmp a1 4666723172467343360) .g)) → (wp_X9_isIn σ a3 1 1000000 (fun r6 s5 =>
((r6 = 0 → (wp_X9_link_J30 a1 a3 K (wp_X9_link_J31 a1 a3 K) s5)) ∧ (¬ (r6 = 0) → (wp_X9_link_J31 a1 a3 K s5 1)))
)))))))
set_option maxRecDepth 20000 in
theorem iX9_link_9 : ∀ w ∈ wsX90, w ∈ wsX9_link := by decide +kernel
set_option maxHeartbeats 8000000 in
set_option maxRecDepth 100000 in
theorem c_X9_link (l : Launch) (dC : Nat → ClassId) (dI : Nat → Nat → Nat) (cA : Nat → ClassId) (ad : Nat → Nat → Nat) (σ : ST) (a1 : UInt64) (a3 : Int32) (sz : Nat) (K : ST → Prop) (hwp : wp_X9_link σ a1 a3 K) : Met l yX9_link wsX9_link ({ frames := 1, cells := 0, slots := 0, locals := 22 } : Room) (va_Pc [.ref (ad 9 0), .double a1, .int a3] (preC dC dI cA (Wm cA ad σ) sz)) (va_Qv K (atC dC dI cA (Wm cA ad) (va_A (Wm cA ad σ) sz)) (va_A (Wm cA ad σ) sz)) 0 0 (va_A (Wm cA ad σ) sz) := by
  refine Met.ofW (cc := cX9_link) (maxL := 5) (ret := none) (by decide) rfl ?_
  intro p e s m args below meth c s₁ B hml hv
  obtain ⟨rfl, hsz, hP, hK, hD0⟩ := hv
  have hx := B.exec
  have hb := B.bytes
  have hr := B.returns
  have hts := atoms_spec (ws := wsX9_link) B.pre
  have hown : s.vm.findClass RX9 = some m.cls := findClass_of_methodNamed B.named
  have hlocks := B.notSynchronized
  subst hsz
  have hD := hD0.self (sz := s.heap.size)
  clear hD0
  generalize hAe : va_A (Wm cA ad σ) s.heap.size = A at hD ⊢
  have hA : ∀ q : Nat, s.heap.size ≤ q → A q := fun q h => by rw [← hAe]; exact Or.inr h
  have hS : va_S A s.heap s.heap [] := va_S.rf
  have hkc : 0 ≤ 0 := Nat.le_refl 0
  have hks : 0 ≤ 0 := Nat.le_refl 0
  have hl := lv_entry ([.ref (ad 9 0), .double a1, .int a3]) (n := 5) (Nat.le_of_ble_eq_true rfl)
  rw [lg_entry_eq]
  generalize (lg_sl ([.ref (ad 9 0), .double a1, .int a3]) ++ List.replicate (5 - (lg_sl ([.ref (ad 9 0), .double a1, .int a3])).length) Slot.unset).toArray = ls at hl ⊢
  have hl : lv_has ls 5 [(0, .ref (ad 9 0)), (1, .double a1), (3, .int a3)] := hl
  unfold wp_X9_link at hwp
  generalize hHe : s.heap = H at hP ⊢
  have hS : va_S A s.heap H [] := by rw [← hHe]; exact va_S.rf
  clear hHe
  refine lv_dload_n hx hb dX9_link_0 rfl (lv_at hl 1 rfl) ?_
  refine lv_ldc2d (v := 4593671619917905920) hx hb hown (hts (.constantDouble RX9 133 (4593671619917905920)) (by decide +kernel)) dX9_link_1 ?_
  refine lv_dcmp hx hb dX9_link_4 ?_
  have J31 : ∀ (z31 : ST) (y0_31 : Int32), wp_X9_link_J31 a1 a3 K z31 y0_31 → ∀ (H : Heap) (locs : List Loc) (ls : Array Slot), va_P (dC, dI) vwCl (Wm cA ad z31) H → va_D A (Wm cA ad z31) → va_S A s.heap H locs → lv_has ls 5 [(0, .ref (ad 9 0)), (1, .double a1), (3, .int a3)] → W p l e ({ frames := 1, cells := 0, slots := 0, locals := 22 } : Room) s m ([.ref (ad 9 0), .double a1, .int a3] : List Value).toArray below meth c H locs 0 0 (MQ below (va_Qv K (atC dC dI cA (Wm cA ad) A) A) ([.ref (ad 9 0), .double a1, .int a3] : List Value).toArray s 0 0 A) (F0 m 31 ls [.int y0_31]) := by
    intro z31 y0_31 hwp H locs ls hP hD hS hl
    refine lv_istore (lv' := [(4, .int y0_31), (0, .ref (ad 9 0)), (1, .double a1), (3, .int a3)]) hx hb dX9_link_31 hl (by decide) rfl (fun ls hl => ?_)
    refine lv_aload_n hx hb dX9_link_33 rfl (lv_at hl 1 rfl) ?_
    refine lv_iload hx hb dX9_link_34 (lv_at hl 0 rfl) ?_
    have J44 : ∀ (z44 : ST) (y0_44 : Int32), wp_X9_link_J44 a1 a3 K z44 y0_44 → ∀ (H : Heap) (locs : List Loc) (ls : Array Slot), va_P (dC, dI) vwCl (Wm cA ad z44) H → va_D A (Wm cA ad z44) → va_S A s.heap H locs → lv_has ls 5 [(0, .ref (ad 9 0)), (1, .double a1), (3, .int a3)] → W p l e ({ frames := 1, cells := 0, slots := 0, locals := 22 } : Room) s m ([.ref (ad 9 0), .double a1, .int a3] : List Value).toArray below meth c H locs 0 0 (MQ below (va_Qv K (atC dC dI cA (Wm cA ad) A) A) ([.ref (ad 9 0), .double a1, .int a3] : List Value).toArray s 0 0 A) (F0 m 44 ls [.int y0_44, .ref (ad 9 0)]) := by
      intro z44 y0_44 hwp H locs ls hP hD hS hl
      have hF := fA hD hS hA
      refine va_calli (va_runV (As := [.int y0_44]) (rest := []) ⟨hx, hb, hml, hown, hts⟩ (c_X9_refused l dC dI cA ad z44 y0_44 H.size _ hwp) (cwV 1 hts gX9_link_X9_refused rfl rfl rfl (by decide +kernel) ⟨Nat.le_of_ble_eq_true rfl, Nat.le_of_ble_eq_true rfl⟩) ⟨fbC, va_recv hK hP (ci := 9) (q0 := 0) rfl atModel, fun U hU hW => ⟨rfl, by rw [hU], by rw [hU]; exact hP, va_K.moved hW.alike hK, hD.weaken (fun _ _ _ _ => trivial)⟩⟩ rfl rfl hl.1 rfl (lv_room (Nat.le_of_ble_eq_true rfl)) dX9_link_44 ⟨hkc, hks⟩) hS (fun q _ h => hF q h) hF (fun r2 s1 t H1 locs ht hvm hwp hB hz1 hk1 hS => ?_)
      obtain ⟨hP1, hK1, hD1⟩ := hB
      rw [ht] at hP1
      have hD2 := hD1.weaken (fun _ q _ h => hF q.1 h)
      clear hP hD
      have hP := hP1
      have hD := hD2
      clear hP1 hD1 hD2 hK1 hk1 hz1 hF
      generalize H1 = H at hP hS ⊢
      refine lv_if_eq (tgt := 51) hx hb dX9_link_47 (by decide) (fun c_47 => ?_) (fun c_47 => ?_)
      · replace hwp := hwp.1 c_47
        refine lv_aload_n hx hb dX9_link_51 rfl (lv_at hl 0 rfl) ?_
        refine lv_dload_n hx hb dX9_link_52 rfl (lv_at hl 1 rfl) ?_
        obtain ⟨s3, e_s3⟩ : ∃ z, z = upD s1 1003 0 a1 := ⟨_, rfl⟩
        refine st_put (D := (dC, dI)) (ci := 9) (v := .double a1) (ty := .double) (C := RX9) (T := TX9) (N := 43) (ws' := Wm cA ad s3) hx hb hts iX9_link_9 tyX9 tyX9_ok nmX9 hown hK hP hD hS 0 atModel rfl 3 (by decide) (hts (.fieldLink RX9 9 "LinkQueuesModel" "rate" "D") (by decide +kernel)) (fun _ h9 => h9) rfl (by decide +kernel) rfl rfl (Nat.le_of_ble_eq_true rfl) dX9_link_53 (by rw [e_s3]; exact stM_3 a1) (fun H locs hP hD hS => ?_)
        replace hwp := hwp s3 e_s3
        refine lv_aload_n hx hb dX9_link_56 rfl (lv_at hl 0 rfl) ?_
        refine lv_iload_n hx hb dX9_link_57 rfl (lv_at hl 2 rfl) ?_
        obtain ⟨s4, e_s4⟩ : ∃ z, z = upI s3 1004 0 a3 := ⟨_, rfl⟩
        refine st_put (D := (dC, dI)) (ci := 9) (v := .int a3) (ty := .int) (C := RX9) (T := TX9) (N := 43) (ws' := Wm cA ad s4) hx hb hts iX9_link_9 tyX9 tyX9_ok nmX9 hown hK hP hD hS 0 atModel rfl 4 (by decide) (hts (.fieldLink RX9 16 "LinkQueuesModel" "limit" "I") (by decide +kernel)) (fun _ h9 => h9) rfl (by decide +kernel) rfl rfl (Nat.le_of_ble_eq_true rfl) dX9_link_58 (by rw [e_s4]; exact stM_4 a3) (fun H locs hP hD hS => ?_)
        replace hwp := hwp s4 e_s4
        exact W.vret hx hb hr (fun t ht hW => ⟨⟨s4, rfl, hwp, by rw [ht]; exact hP, va_K.moved hW.alike hK, hD⟩, hS.F ht⟩) hS.2.2 dX9_link_61
      · replace hwp := hwp.2 c_47
        exact W.vret hx hb hr (fun t ht hW => ⟨⟨s1, rfl, hwp, by rw [ht]; exact hP, va_K.moved hW.alike hK, hD⟩, hS.F ht⟩) hS.2.2 dX9_link_50
    refine lv_if_eq (tgt := 43) hx hb dX9_link_36 (by decide) (fun c_36 => ?_) (fun c_36 => ?_)
    · replace hwp := hwp.1 c_36
      refine lv_iconst (v := 1) hx hb dX9_link_43 (by decide) ?_
      exact J44 z31 1 hwp _ _ _ hP hD hS (lv_sub hl [1, 2, 3] rfl)
    · replace hwp := hwp.2 c_36
      refine lv_iconst (v := 0) hx hb dX9_link_39 (by decide) ?_
      refine lv_goto (tgt := 44) hx hb dX9_link_40 (by decide) ?_
      exact J44 z31 0 hwp _ _ _ hP hD hS (lv_sub hl [1, 2, 3] rfl)
  have J30 : ∀ (z30 : ST), wp_X9_link_J30 a1 a3 K (wp_X9_link_J31 a1 a3 K) z30 → ∀ (H : Heap) (locs : List Loc) (ls : Array Slot), va_P (dC, dI) vwCl (Wm cA ad z30) H → va_D A (Wm cA ad z30) → va_S A s.heap H locs → lv_has ls 5 [(0, .ref (ad 9 0)), (1, .double a1), (3, .int a3)] → W p l e ({ frames := 1, cells := 0, slots := 0, locals := 22 } : Room) s m ([.ref (ad 9 0), .double a1, .int a3] : List Value).toArray below meth c H locs 0 0 (MQ below (va_Qv K (atC dC dI cA (Wm cA ad) A) A) ([.ref (ad 9 0), .double a1, .int a3] : List Value).toArray s 0 0 A) (F0 m 30 ls []) := by
    intro z30 hwp H locs ls hP hD hS hl
    refine lv_iconst (v := 0) hx hb dX9_link_30 (by decide) ?_
    exact J31 z30 0 hwp _ _ _ hP hD hS (lv_sub hl [0, 1, 2] rfl)
  refine lv_if_lt (tgt := 30) hx hb dX9_link_5 (by decide) (fun c_5 => ?_) (fun c_5 => ?_)
  · replace hwp := hwp.1 c_5
    exact J30 σ hwp _ _ _ hP hD hS (lv_sub hl [0, 1, 2] rfl)
  · replace hwp := hwp.2 c_5
    refine lv_dload_n hx hb dX9_link_8 rfl (lv_at hl 1 rfl) ?_
    refine lv_ldc2d (v := 4666723172467343360) hx hb hown (hts (.constantDouble RX9 131 (4666723172467343360)) (by decide +kernel)) dX9_link_9 ?_
    refine lv_dcmp hx hb dX9_link_12 ?_
    refine lv_if_gt (tgt := 30) hx hb dX9_link_13 (by decide) (fun c_13 => ?_) (fun c_13 => ?_)
    · replace hwp := hwp.1 c_13
      exact J30 σ hwp _ _ _ hP hD hS (lv_sub hl [0, 1, 2] rfl)
    · replace hwp := hwp.2 c_13
      refine lv_iload_n hx hb dX9_link_16 rfl (lv_at hl 2 rfl) ?_
      refine lv_iconst (v := 1) hx hb dX9_link_17 (by decide) ?_
      refine lv_ldc (v := 1000000) hx hb hown (hts (.constant RX9 15 (1000000)) (by decide +kernel)) dX9_link_18 ?_
      have hF := fA hD hS hA
      refine va_calli (va_runS (As := [.int a3, .int 1, .int 1000000]) (rest := []) ⟨hx, hb, hml, hown, hts⟩ (c_X9_isIn l dC dI cA ad σ a3 1 1000000 H.size _ hwp) (cwS 3 hts gX9_link_X9_isIn rfl rfl rfl (by decide +kernel) ⟨Nat.le_of_ble_eq_true rfl, Nat.le_of_ble_eq_true rfl⟩) ⟨fbC, fun U hU hW => ⟨rfl, by rw [hU], by rw [hU]; exact hP, va_K.moved hW.alike hK, hD.weaken (fun _ _ _ _ => trivial)⟩⟩ rfl rfl hl.1 rfl (lv_room (Nat.le_of_ble_eq_true rfl)) dX9_link_20 ⟨hkc, hks⟩) hS (fun q _ h => hF q h) hF (fun r6 s5 t H1 locs ht hvm hwp hB hz1 hk1 hS => ?_)
      obtain ⟨hP1, hK1, hD1⟩ := hB
      rw [ht] at hP1
      have hD2 := hD1.weaken (fun _ q _ h => hF q.1 h)
      clear hP hD
      have hP := hP1
      have hD := hD2
      clear hP1 hD1 hD2 hK1 hk1 hz1 hF
      generalize H1 = H at hP hS ⊢
      refine lv_if_eq (tgt := 30) hx hb dX9_link_23 (by decide) (fun c_23 => ?_) (fun c_23 => ?_)
      · replace hwp := hwp.1 c_23
        exact J30 s5 hwp _ _ _ hP hD hS (lv_sub hl [0, 1, 2] rfl)
      · replace hwp := hwp.2 c_23
        refine lv_iconst (v := 1) hx hb dX9_link_26 (by decide) ?_
        refine lv_goto (tgt := 31) hx hb dX9_link_27 (by decide) ?_
        exact J31 s5 1 hwp _ _ _ hP hD hS (lv_sub hl [0, 1, 2] rfl)
def wp_X9_coin_J31 (a1 : UInt64) (K : Int32 → ST → Prop) (z31 : ST) (y0_31 : Int32) : Prop := wp_X9_refused z31 y0_31 (fun r2 s1 =>
((r2 = 0 → (vp_in (sI s1 1034 0) 64 ∧
∀ s4, s4 = upD s1 1035 (sI s1 1034 0).toNatClampNeg a1 →
∀ s5, s5 = upI s4 1034 0 ((sI s4 1034 0) + 1) →
K (sI s5 1034 0) s5)) ∧ (¬ (r2 = 0) → (K 0 s1)))
)
def wp_X9_coin_J13 (a1 : UInt64) (K : Int32 → ST → Prop) (G31 : ST → Int32 → Prop) (z13 : ST) : Prop := G31 z13 1
def wp_X9_coin (σ : ST) (a1 : UInt64) (K : Int32 → ST → Prop) : Prop := (((Op.cmpValue (FP.dcmp a1 FP.dconst0) .l) < 0 → (wp_X9_coin_J13 a1 K (wp_X9_coin_J31 a1 K) σ)) ∧ (¬ ((Op.cmpValue (FP.dcmp a1 FP.dconst0) .l) < 0) → ((((Op.cmpValue (FP.dcmp a1 FP.dconst1) .g) < 0 → (((¬ (sI σ 1034 0) = 64 → (wp_X9_coin_J31 a1 K σ 0)) ∧ ((sI σ 1034 0) = 64 → (wp_X9_coin_J31 a1 K σ 2))))) ∧ (¬ ((Op.cmpValue (FP.dcmp a1 FP.dconst1) .g) < 0) → (wp_X9_coin_J13 a1 K (wp_X9_coin_J31 a1 K) σ))))))
set_option maxRecDepth 20000 in
theorem iX9_coin_9 : ∀ w ∈ wsX90, w ∈ wsX9_coin := by decide +kernel
set_option maxHeartbeats 8000000 in
set_option maxRecDepth 100000 in
theorem c_X9_coin (l : Launch) (dC : Nat → ClassId) (dI : Nat → Nat → Nat) (cA : Nat → ClassId) (ad : Nat → Nat → Nat) (σ : ST) (a1 : UInt64) (sz : Nat) (K : Int32 → ST → Prop) (hwp : wp_X9_coin σ a1 K) : Met l yX9_coin wsX9_coin ({ frames := 1, cells := 0, slots := 0, locals := 21 } : Room) (va_Pc [.ref (ad 9 0), .double a1] (preC dC dI cA (Wm cA ad σ) sz)) (va_Qi K (atC dC dI cA (Wm cA ad) (va_A (Wm cA ad σ) sz)) (va_A (Wm cA ad σ) sz)) 0 0 (va_A (Wm cA ad σ) sz) := by
  refine Met.ofW (cc := cX9_coin) (maxL := 3) (ret := (some .int)) (by decide) rfl ?_
  intro p e s m args below meth c s₁ B hml hv
  obtain ⟨rfl, hsz, hP, hK, hD0⟩ := hv
  have hx := B.exec
  have hb := B.bytes
  have hr := B.returns
  have hts := atoms_spec (ws := wsX9_coin) B.pre
  have hown : s.vm.findClass RX9 = some m.cls := findClass_of_methodNamed B.named
  have hlocks := B.notSynchronized
  subst hsz
  have hD := hD0.self (sz := s.heap.size)
  clear hD0
  generalize hAe : va_A (Wm cA ad σ) s.heap.size = A at hD ⊢
  have hA : ∀ q : Nat, s.heap.size ≤ q → A q := fun q h => by rw [← hAe]; exact Or.inr h
  have hS : va_S A s.heap s.heap [] := va_S.rf
  have hkc : 0 ≤ 0 := Nat.le_refl 0
  have hks : 0 ≤ 0 := Nat.le_refl 0
  have hl := lv_entry ([.ref (ad 9 0), .double a1]) (n := 3) (Nat.le_of_ble_eq_true rfl)
  rw [lg_entry_eq]
  generalize (lg_sl ([.ref (ad 9 0), .double a1]) ++ List.replicate (3 - (lg_sl ([.ref (ad 9 0), .double a1])).length) Slot.unset).toArray = ls at hl ⊢
  have hl : lv_has ls 3 [(0, .ref (ad 9 0)), (1, .double a1)] := hl
  unfold wp_X9_coin at hwp
  generalize hHe : s.heap = H at hP ⊢
  have hS : va_S A s.heap H [] := by rw [← hHe]; exact va_S.rf
  clear hHe
  refine lv_aload_n hx hb dX9_coin_0 rfl (lv_at hl 0 rfl) ?_
  refine lv_dload_n hx hb dX9_coin_1 rfl (lv_at hl 1 rfl) ?_
  refine lv_dconst0 hx hb dX9_coin_2 ?_
  refine lv_dcmp hx hb dX9_coin_3 ?_
  have J31 : ∀ (z31 : ST) (y0_31 : Int32), wp_X9_coin_J31 a1 K z31 y0_31 → ∀ (H : Heap) (locs : List Loc) (ls : Array Slot), va_P (dC, dI) vwCl (Wm cA ad z31) H → va_D A (Wm cA ad z31) → va_S A s.heap H locs → lv_has ls 3 [(0, .ref (ad 9 0)), (1, .double a1)] → W p l e ({ frames := 1, cells := 0, slots := 0, locals := 21 } : Room) s m ([.ref (ad 9 0), .double a1] : List Value).toArray below meth c H locs 0 0 (MQ below (va_Qi K (atC dC dI cA (Wm cA ad) A) A) ([.ref (ad 9 0), .double a1] : List Value).toArray s 0 0 A) (F0 m 31 ls [.int y0_31, .ref (ad 9 0)]) := by
    intro z31 y0_31 hwp H locs ls hP hD hS hl
    have hF := fA hD hS hA
    refine va_calli (va_runV (As := [.int y0_31]) (rest := []) ⟨hx, hb, hml, hown, hts⟩ (c_X9_refused l dC dI cA ad z31 y0_31 H.size _ hwp) (cwV 1 hts gX9_coin_X9_refused rfl rfl rfl (by decide +kernel) ⟨Nat.le_of_ble_eq_true rfl, Nat.le_of_ble_eq_true rfl⟩) ⟨fbC, va_recv hK hP (ci := 9) (q0 := 0) rfl atModel, fun U hU hW => ⟨rfl, by rw [hU], by rw [hU]; exact hP, va_K.moved hW.alike hK, hD.weaken (fun _ _ _ _ => trivial)⟩⟩ rfl rfl hl.1 rfl (lv_room (Nat.le_of_ble_eq_true rfl)) dX9_coin_31 ⟨hkc, hks⟩) hS (fun q _ h => hF q h) hF (fun r2 s1 t H1 locs ht hvm hwp hB hz1 hk1 hS => ?_)
    obtain ⟨hP1, hK1, hD1⟩ := hB
    rw [ht] at hP1
    have hD2 := hD1.weaken (fun _ q _ h => hF q.1 h)
    clear hP hD
    have hP := hP1
    have hD := hD2
    clear hP1 hD1 hD2 hK1 hk1 hz1 hF
    generalize H1 = H at hP hS ⊢
    refine lv_if_eq (tgt := 39) hx hb dX9_coin_34 (by decide) (fun c_34 => ?_) (fun c_34 => ?_)
    · replace hwp := hwp.1 c_34
      refine lv_aload_n hx hb dX9_coin_39 rfl (lv_at hl 0 rfl) ?_
      refine va_get (D := (dC, dI)) (ci := 9) (v := .ref (ad 135 0)) (C := RX9) (T := TX9) (N := 43) hx hb hts iX9_coin_9 hown hK hP 0 atModel rfl 35 (by decide) (hts (.fieldLink RX9 101 "LinkQueuesModel" "coinOf" "[D") (by decide +kernel)) (fun _ h9 => h9) rfl dX9_coin_40 ?_
      refine lv_aload_n hx hb dX9_coin_43 rfl (lv_at hl 0 rfl) ?_
      refine va_get (D := (dC, dI)) (ci := 9) (v := .int (sI s1 1034 0)) (C := RX9) (T := TX9) (N := 43) hx hb hts iX9_coin_9 hown hK hP 0 atModel rfl 34 (by decide) (hts (.fieldLink RX9 135 "LinkQueuesModel" "coins" "I") (by decide +kernel)) (fun _ h9 => h9) rfl dX9_coin_44 ?_
      refine lv_dload_n hx hb dX9_coin_47 rfl (lv_at hl 1 rfl) ?_
      obtain ⟨hi_3, hwp⟩ := hwp
      obtain ⟨s4, e_s4⟩ : ∃ z, z = upD s1 1035 (sI s1 1034 0).toNatClampNeg a1 := ⟨_, rfl⟩
      refine va_dast (D := (dC, dI)) hx hb hK hP hD hS 27 0 atm35 rfl hi_3 dX9_coin_48 (fun H locs hP hD hS => ?_)
      rw [stm35, ← e_s4] at hP hD
      replace hwp := hwp s4 e_s4
      refine lv_aload_n hx hb dX9_coin_49 rfl (lv_at hl 0 rfl) ?_
      refine lv_dup hx hb dX9_coin_50 rfl ?_
      refine va_get (D := (dC, dI)) (ci := 9) (v := .int (sI s4 1034 0)) (C := RX9) (T := TX9) (N := 43) hx hb hts iX9_coin_9 hown hK hP 0 atModel rfl 34 (by decide) (hts (.fieldLink RX9 135 "LinkQueuesModel" "coins" "I") (by decide +kernel)) (fun _ h9 => h9) rfl dX9_coin_51 ?_
      refine lv_iconst (v := 1) hx hb dX9_coin_54 (by decide) ?_
      refine lv_iadd hx hb dX9_coin_55 ?_
      obtain ⟨s5, e_s5⟩ : ∃ z, z = upI s4 1034 0 ((sI s4 1034 0) + 1) := ⟨_, rfl⟩
      refine st_put (D := (dC, dI)) (ci := 9) (v := .int ((sI s4 1034 0) + 1)) (ty := .int) (C := RX9) (T := TX9) (N := 43) (ws' := Wm cA ad s5) hx hb hts iX9_coin_9 tyX9 tyX9_ok nmX9 hown hK hP hD hS 0 atModel rfl 34 (by decide) (hts (.fieldLink RX9 135 "LinkQueuesModel" "coins" "I") (by decide +kernel)) (fun _ h9 => h9) rfl (by decide +kernel) rfl rfl (Nat.le_of_ble_eq_true rfl) dX9_coin_56 (by rw [e_s5]; exact stM_34 ((sI s4 1034 0) + 1)) (fun H locs hP hD hS => ?_)
      replace hwp := hwp s5 e_s5
      refine lv_aload_n hx hb dX9_coin_59 rfl (lv_at hl 0 rfl) ?_
      refine va_get (D := (dC, dI)) (ci := 9) (v := .int (sI s5 1034 0)) (C := RX9) (T := TX9) (N := 43) hx hb hts iX9_coin_9 hown hK hP 0 atModel rfl 34 (by decide) (hts (.fieldLink RX9 135 "LinkQueuesModel" "coins" "I") (by decide +kernel)) (fun _ h9 => h9) rfl dX9_coin_60 ?_
      exact W.iret (v := (sI s5 1034 0)) hx hb hr (fun t ht hW => ⟨⟨(sI s5 1034 0), s5, rfl, hwp, by rw [ht]; exact hP, va_K.moved hW.alike hK, hD⟩, hS.F ht⟩) hS.2.2 dX9_coin_63
    · replace hwp := hwp.2 c_34
      refine lv_iconst (v := 0) hx hb dX9_coin_37 (by decide) ?_
      exact W.iret (v := 0) hx hb hr (fun t ht hW => ⟨⟨0, s1, rfl, hwp, by rw [ht]; exact hP, va_K.moved hW.alike hK, hD⟩, hS.F ht⟩) hS.2.2 dX9_coin_38
  have J13 : ∀ (z13 : ST), wp_X9_coin_J13 a1 K (wp_X9_coin_J31 a1 K) z13 → ∀ (H : Heap) (locs : List Loc) (ls : Array Slot), va_P (dC, dI) vwCl (Wm cA ad z13) H → va_D A (Wm cA ad z13) → va_S A s.heap H locs → lv_has ls 3 [(0, .ref (ad 9 0)), (1, .double a1)] → W p l e ({ frames := 1, cells := 0, slots := 0, locals := 21 } : Room) s m ([.ref (ad 9 0), .double a1] : List Value).toArray below meth c H locs 0 0 (MQ below (va_Qi K (atC dC dI cA (Wm cA ad) A) A) ([.ref (ad 9 0), .double a1] : List Value).toArray s 0 0 A) (F0 m 13 ls [.ref (ad 9 0)]) := by
    intro z13 hwp H locs ls hP hD hS hl
    refine lv_iconst (v := 1) hx hb dX9_coin_13 (by decide) ?_
    refine lv_goto (tgt := 31) hx hb dX9_coin_14 (by decide) ?_
    exact J31 z13 1 hwp _ _ _ hP hD hS (lv_sub hl [0, 1] rfl)
  refine lv_if_lt (tgt := 13) hx hb dX9_coin_4 (by decide) (fun c_4 => ?_) (fun c_4 => ?_)
  · replace hwp := hwp.1 c_4
    exact J13 σ hwp _ _ _ hP hD hS (lv_sub hl [0, 1] rfl)
  · replace hwp := hwp.2 c_4
    refine lv_dload_n hx hb dX9_coin_7 rfl (lv_at hl 1 rfl) ?_
    refine lv_dconst1 hx hb dX9_coin_8 ?_
    refine lv_dcmp hx hb dX9_coin_9 ?_
    refine lv_if_lt (tgt := 17) hx hb dX9_coin_10 (by decide) (fun c_10 => ?_) (fun c_10 => ?_)
    · replace hwp := hwp.1 c_10
      refine lv_aload_n hx hb dX9_coin_17 rfl (lv_at hl 0 rfl) ?_
      refine va_get (D := (dC, dI)) (ci := 9) (v := .int (sI σ 1034 0)) (C := RX9) (T := TX9) (N := 43) hx hb hts iX9_coin_9 hown hK hP 0 atModel rfl 34 (by decide) (hts (.fieldLink RX9 135 "LinkQueuesModel" "coins" "I") (by decide +kernel)) (fun _ h9 => h9) rfl dX9_coin_18 ?_
      refine lv_bipush (v := 64) hx hb dX9_coin_21 (by decide) ?_
      refine lv_icmp_ne (tgt := 30) hx hb dX9_coin_23 (by decide) (fun c_23 => ?_) (fun c_23 => ?_)
      · replace hwp := hwp.1 c_23
        refine lv_iconst (v := 0) hx hb dX9_coin_30 (by decide) ?_
        exact J31 σ 0 hwp _ _ _ hP hD hS (lv_sub hl [0, 1] rfl)
      · replace hwp := hwp.2 c_23
        refine lv_iconst (v := 2) hx hb dX9_coin_26 (by decide) ?_
        refine lv_goto (tgt := 31) hx hb dX9_coin_27 (by decide) ?_
        exact J31 σ 2 hwp _ _ _ hP hD hS (lv_sub hl [0, 1] rfl)
    · replace hwp := hwp.2 c_10
      exact J13 σ hwp _ _ _ hP hD hS (lv_sub hl [0, 1] rfl)
def wp_X9_useCoin_L30 (σ : ST) (K : UInt64 → ST → Prop) : Nat → ST → Int32 → Prop
  | 0 => fun _ _ => False
  | fu30 + 1 => fun z30 x3_30 => (((sI z30 1034 0) ≤ x3_30 → (K (sD σ 1035 (0 : Int32).toNatClampNeg) z30)) ∧ (¬ ((sI z30 1034 0) ≤ x3_30) → (vp_in (x3_30 + 1) 64 ∧
vp_in x3_30 64 ∧
∀ s5, s5 = upD z30 1035 x3_30.toNatClampNeg (sD z30 1035 (x3_30 + 1).toNatClampNeg) →
wp_X9_useCoin_L30 σ K fu30 s5 (x3_30 + 1))))
def wp_X9_useCoin (σ : ST) (K : UInt64 → ST → Prop) : Prop := ((¬ (sI σ 1034 0) = 0 → (vp_in 0 64 ∧
∀ s2, s2 = upI σ 1034 0 ((sI σ 1034 0) - 1) →
∃ n30, wp_X9_useCoin_L30 σ K n30 s2 0)) ∧ ((sI σ 1034 0) = 0 → (K 4602678819172646912 σ)))
set_option maxRecDepth 20000 in
theorem iX9_useCoin_9 : ∀ w ∈ wsX90, w ∈ wsX9_useCoin := by decide +kernel
set_option maxHeartbeats 8000000 in
set_option maxRecDepth 100000 in
theorem c_X9_useCoin (l : Launch) (dC : Nat → ClassId) (dI : Nat → Nat → Nat) (cA : Nat → ClassId) (ad : Nat → Nat → Nat) (σ : ST) (sz : Nat) (K : UInt64 → ST → Prop) (hwp : wp_X9_useCoin σ K) : Met l yX9_useCoin wsX9_useCoin ({ frames := 0, cells := 0, slots := 0, locals := 0 } : Room) (va_Pc [.ref (ad 9 0)] (preC dC dI cA (Wm cA ad σ) sz)) (va_Qd K (atC dC dI cA (Wm cA ad) (va_A (Wm cA ad σ) sz)) (va_A (Wm cA ad σ) sz)) 0 0 (va_A (Wm cA ad σ) sz) := by
  refine Met.ofW (cc := cX9_useCoin) (maxL := 4) (ret := (some .double)) (by decide) rfl ?_
  intro p e s m args below meth c s₁ B hml hv
  obtain ⟨rfl, hsz, hP, hK, hD0⟩ := hv
  have hx := B.exec
  have hb := B.bytes
  have hr := B.returns
  have hts := atoms_spec (ws := wsX9_useCoin) B.pre
  have hown : s.vm.findClass RX9 = some m.cls := findClass_of_methodNamed B.named
  have hlocks := B.notSynchronized
  subst hsz
  have hD := hD0.self (sz := s.heap.size)
  clear hD0
  generalize hAe : va_A (Wm cA ad σ) s.heap.size = A at hD ⊢
  have hA : ∀ q : Nat, s.heap.size ≤ q → A q := fun q h => by rw [← hAe]; exact Or.inr h
  have hS : va_S A s.heap s.heap [] := va_S.rf
  have hkc : 0 ≤ 0 := Nat.le_refl 0
  have hks : 0 ≤ 0 := Nat.le_refl 0
  have hl := lv_entry ([.ref (ad 9 0)]) (n := 4) (Nat.le_of_ble_eq_true rfl)
  rw [lg_entry_eq]
  generalize (lg_sl ([.ref (ad 9 0)]) ++ List.replicate (4 - (lg_sl ([.ref (ad 9 0)])).length) Slot.unset).toArray = ls at hl ⊢
  have hl : lv_has ls 4 [(0, .ref (ad 9 0))] := hl
  unfold wp_X9_useCoin at hwp
  generalize hHe : s.heap = H at hP ⊢
  have hS : va_S A s.heap H [] := by rw [← hHe]; exact va_S.rf
  clear hHe
  refine lv_aload_n hx hb dX9_useCoin_0 rfl (lv_at hl 0 rfl) ?_
  refine va_get (D := (dC, dI)) (ci := 9) (v := .int (sI σ 1034 0)) (C := RX9) (T := TX9) (N := 43) hx hb hts iX9_useCoin_9 hown hK hP 0 atModel rfl 34 (by decide) (hts (.fieldLink RX9 135 "LinkQueuesModel" "coins" "I") (by decide +kernel)) (fun _ h9 => h9) rfl dX9_useCoin_1 ?_
  refine lv_if_ne (tgt := 11) hx hb dX9_useCoin_4 (by decide) (fun c_4 => ?_) (fun c_4 => ?_)
  · replace hwp := hwp.1 c_4
    refine lv_aload_n hx hb dX9_useCoin_11 rfl (lv_at hl 0 rfl) ?_
    refine va_get (D := (dC, dI)) (ci := 9) (v := .ref (ad 135 0)) (C := RX9) (T := TX9) (N := 43) hx hb hts iX9_useCoin_9 hown hK hP 0 atModel rfl 35 (by decide) (hts (.fieldLink RX9 101 "LinkQueuesModel" "coinOf" "[D") (by decide +kernel)) (fun _ h9 => h9) rfl dX9_useCoin_12 ?_
    refine lv_iconst (v := 0) hx hb dX9_useCoin_15 (by decide) ?_
    obtain ⟨hi_1, hwp⟩ := hwp
    refine va_dald (D := (dC, dI)) hx hb hK hP 27 0 atm35 rfl hi_1 dX9_useCoin_16 ?_
    refine lv_dstore_n (lv' := [(1, .double (sD σ 1035 (0 : Int32).toNatClampNeg)), (0, .ref (ad 9 0))]) hx hb dX9_useCoin_17 rfl hl (by decide) rfl (fun ls hl => ?_)
    refine lv_aload_n hx hb dX9_useCoin_18 rfl (lv_at hl 1 rfl) ?_
    refine lv_dup hx hb dX9_useCoin_19 rfl ?_
    refine va_get (D := (dC, dI)) (ci := 9) (v := .int (sI σ 1034 0)) (C := RX9) (T := TX9) (N := 43) hx hb hts iX9_useCoin_9 hown hK hP 0 atModel rfl 34 (by decide) (hts (.fieldLink RX9 135 "LinkQueuesModel" "coins" "I") (by decide +kernel)) (fun _ h9 => h9) rfl dX9_useCoin_20 ?_
    refine lv_iconst (v := 1) hx hb dX9_useCoin_23 (by decide) ?_
    refine lv_isub hx hb dX9_useCoin_24 ?_
    obtain ⟨s2, e_s2⟩ : ∃ z, z = upI σ 1034 0 ((sI σ 1034 0) - 1) := ⟨_, rfl⟩
    refine st_put (D := (dC, dI)) (ci := 9) (v := .int ((sI σ 1034 0) - 1)) (ty := .int) (C := RX9) (T := TX9) (N := 43) (ws' := Wm cA ad s2) hx hb hts iX9_useCoin_9 tyX9 tyX9_ok nmX9 hown hK hP hD hS 0 atModel rfl 34 (by decide) (hts (.fieldLink RX9 135 "LinkQueuesModel" "coins" "I") (by decide +kernel)) (fun _ h9 => h9) rfl (by decide +kernel) rfl rfl (Nat.le_of_ble_eq_true rfl) dX9_useCoin_25 (by rw [e_s2]; exact stM_34 ((sI σ 1034 0) - 1)) (fun H locs hP hD hS => ?_)
    replace hwp := hwp s2 e_s2
    refine lv_iconst (v := 0) hx hb dX9_useCoin_28 (by decide) ?_
    refine lv_istore_n (lv' := [(3, .int 0), (1, .double (sD σ 1035 (0 : Int32).toNatClampNeg)), (0, .ref (ad 9 0))]) hx hb dX9_useCoin_29 rfl hl (by decide) rfl (fun ls hl => ?_)
    obtain ⟨n30, hwp⟩ := hwp
    have L30 : ∀ (fu30 : Nat) (z30 : ST) (x3_30 : Int32), wp_X9_useCoin_L30 σ K fu30 z30 x3_30 → ∀ (H : Heap) (locs : List Loc) (ls : Array Slot), va_P (dC, dI) vwCl (Wm cA ad z30) H → va_D A (Wm cA ad z30) → va_S A s.heap H locs → lv_has ls 4 [(3, .int x3_30), (1, .double (sD σ 1035 (0 : Int32).toNatClampNeg)), (0, .ref (ad 9 0))] → W p l e ({ frames := 0, cells := 0, slots := 0, locals := 0 } : Room) s m ([.ref (ad 9 0)] : List Value).toArray below meth c H locs 0 0 (MQ below (va_Qd K (atC dC dI cA (Wm cA ad) A) A) ([.ref (ad 9 0)] : List Value).toArray s 0 0 A) (F0 m 30 ls []) := by
      intro fu30
      induction fu30 with
      | zero => intro z30 x3_30 h; exact h.elim
      | succ fu30 ih30 =>
        intro z30 x3_30 hwp H locs ls hP hD hS hl
        refine lv_iload_n hx hb dX9_useCoin_30 rfl (lv_at hl 0 rfl) ?_
        refine lv_aload_n hx hb dX9_useCoin_31 rfl (lv_at hl 2 rfl) ?_
        refine va_get (D := (dC, dI)) (ci := 9) (v := .int (sI z30 1034 0)) (C := RX9) (T := TX9) (N := 43) hx hb hts iX9_useCoin_9 hown hK hP 0 atModel rfl 34 (by decide) (hts (.fieldLink RX9 135 "LinkQueuesModel" "coins" "I") (by decide +kernel)) (fun _ h9 => h9) rfl dX9_useCoin_32 ?_
        refine lv_icmp_ge (tgt := 58) hx hb dX9_useCoin_35 (by decide) (fun c_35 => ?_) (fun c_35 => ?_)
        · replace hwp := hwp.1 c_35
          refine lv_dload_n hx hb dX9_useCoin_58 rfl (lv_at hl 1 rfl) ?_
          exact W.dret (v := (sD σ 1035 (0 : Int32).toNatClampNeg)) hx hb hr (fun t ht hW => ⟨⟨(sD σ 1035 (0 : Int32).toNatClampNeg), z30, rfl, hwp, by rw [ht]; exact hP, va_K.moved hW.alike hK, hD⟩, hS.F ht⟩) hS.2.2 dX9_useCoin_59
        · replace hwp := hwp.2 c_35
          refine lv_aload_n hx hb dX9_useCoin_38 rfl (lv_at hl 2 rfl) ?_
          refine va_get (D := (dC, dI)) (ci := 9) (v := .ref (ad 135 0)) (C := RX9) (T := TX9) (N := 43) hx hb hts iX9_useCoin_9 hown hK hP 0 atModel rfl 35 (by decide) (hts (.fieldLink RX9 101 "LinkQueuesModel" "coinOf" "[D") (by decide +kernel)) (fun _ h9 => h9) rfl dX9_useCoin_39 ?_
          refine lv_iload_n hx hb dX9_useCoin_42 rfl (lv_at hl 0 rfl) ?_
          refine lv_aload_n hx hb dX9_useCoin_43 rfl (lv_at hl 2 rfl) ?_
          refine va_get (D := (dC, dI)) (ci := 9) (v := .ref (ad 135 0)) (C := RX9) (T := TX9) (N := 43) hx hb hts iX9_useCoin_9 hown hK hP 0 atModel rfl 35 (by decide) (hts (.fieldLink RX9 101 "LinkQueuesModel" "coinOf" "[D") (by decide +kernel)) (fun _ h9 => h9) rfl dX9_useCoin_44 ?_
          refine lv_iload_n hx hb dX9_useCoin_47 rfl (lv_at hl 0 rfl) ?_
          refine lv_iconst (v := 1) hx hb dX9_useCoin_48 (by decide) ?_
          refine lv_iadd hx hb dX9_useCoin_49 ?_
          obtain ⟨hi_3, hwp⟩ := hwp
          refine va_dald (D := (dC, dI)) hx hb hK hP 27 0 atm35 rfl hi_3 dX9_useCoin_50 ?_
          obtain ⟨hi_4, hwp⟩ := hwp
          obtain ⟨s5, e_s5⟩ : ∃ z, z = upD z30 1035 x3_30.toNatClampNeg (sD z30 1035 (x3_30 + 1).toNatClampNeg) := ⟨_, rfl⟩
          refine va_dast (D := (dC, dI)) hx hb hK hP hD hS 27 0 atm35 rfl hi_4 dX9_useCoin_51 (fun H locs hP hD hS => ?_)
          rw [stm35, ← e_s5] at hP hD
          replace hwp := hwp s5 e_s5
          refine lv_iinc (v := (x3_30 + 1)) (lv' := [(3, .int (x3_30 + 1)), (1, .double (sD σ 1035 (0 : Int32).toNatClampNeg)), (0, .ref (ad 9 0))]) hx hb dX9_useCoin_52 hl (k := 0) rfl rfl (by decide) rfl (fun ls hl => ?_)
          refine lv_goto (tgt := 30) hx hb dX9_useCoin_55 (by decide) ?_
          exact ih30 s5 (x3_30 + 1) hwp _ _ _ hP hD hS (lv_sub hl [0, 1, 2] rfl)
    exact L30 n30 s2 0 hwp _ _ _ hP hD hS (lv_sub hl [0, 1, 2] rfl)
  · replace hwp := hwp.2 c_4
    refine lv_ldc2d (v := 4602678819172646912) hx hb hown (hts (.constantDouble RX9 138 (4602678819172646912)) (by decide +kernel)) dX9_useCoin_7 ?_
    exact W.dret (v := 4602678819172646912) hx hb hr (fun t ht hW => ⟨⟨4602678819172646912, σ, rfl, hwp, by rw [ht]; exact hP, va_K.moved hW.alike hK, hD⟩, hS.F ht⟩) hS.2.2 dX9_useCoin_10
def wp_X9_waiting_L4 (K : Int32 → ST → Prop) : Nat → ST → Int32 → Int32 → Prop
  | 0 => fun _ _ _ => False
  | fu4 + 1 => fun z4 x2_4 x1_4 => ((6 ≤ x2_4 → (K x1_4 z4)) ∧ (¬ (6 ≤ x2_4) → (vp_in x2_4 6 ∧
wp_X9_waiting_L4 K fu4 z4 (x2_4 + 1) (x1_4 + (sI z4 1023 x2_4.toNatClampNeg)))))
def wp_X9_waiting (σ : ST) (K : Int32 → ST → Prop) : Prop := ∃ n4, wp_X9_waiting_L4 K n4 σ 0 0
set_option maxRecDepth 20000 in
theorem iX9_waiting_9 : ∀ w ∈ wsX90, w ∈ wsX9_waiting := by decide +kernel
set_option maxHeartbeats 8000000 in
set_option maxRecDepth 100000 in
theorem c_X9_waiting (l : Launch) (dC : Nat → ClassId) (dI : Nat → Nat → Nat) (cA : Nat → ClassId) (ad : Nat → Nat → Nat) (σ : ST) (sz : Nat) (K : Int32 → ST → Prop) (hwp : wp_X9_waiting σ K) : Met l yX9_waiting wsX9_waiting ({ frames := 0, cells := 0, slots := 0, locals := 0 } : Room) (va_Pc [.ref (ad 9 0)] (preC dC dI cA (Wm cA ad σ) sz)) (va_Qi K (atC dC dI cA (Wm cA ad) (va_A (Wm cA ad σ) sz)) (va_A (Wm cA ad σ) sz)) 0 0 (va_A (Wm cA ad σ) sz) := by
  refine Met.ofW (cc := cX9_waiting) (maxL := 3) (ret := (some .int)) (by decide) rfl ?_
  intro p e s m args below meth c s₁ B hml hv
  obtain ⟨rfl, hsz, hP, hK, hD0⟩ := hv
  have hx := B.exec
  have hb := B.bytes
  have hr := B.returns
  have hts := atoms_spec (ws := wsX9_waiting) B.pre
  have hown : s.vm.findClass RX9 = some m.cls := findClass_of_methodNamed B.named
  have hlocks := B.notSynchronized
  subst hsz
  have hD := hD0.self (sz := s.heap.size)
  clear hD0
  generalize hAe : va_A (Wm cA ad σ) s.heap.size = A at hD ⊢
  have hA : ∀ q : Nat, s.heap.size ≤ q → A q := fun q h => by rw [← hAe]; exact Or.inr h
  have hS : va_S A s.heap s.heap [] := va_S.rf
  have hkc : 0 ≤ 0 := Nat.le_refl 0
  have hks : 0 ≤ 0 := Nat.le_refl 0
  have hl := lv_entry ([.ref (ad 9 0)]) (n := 3) (Nat.le_of_ble_eq_true rfl)
  rw [lg_entry_eq]
  generalize (lg_sl ([.ref (ad 9 0)]) ++ List.replicate (3 - (lg_sl ([.ref (ad 9 0)])).length) Slot.unset).toArray = ls at hl ⊢
  have hl : lv_has ls 3 [(0, .ref (ad 9 0))] := hl
  unfold wp_X9_waiting at hwp
  generalize hHe : s.heap = H at hP ⊢
  have hS : va_S A s.heap H [] := by rw [← hHe]; exact va_S.rf
  clear hHe
  refine lv_iconst (v := 0) hx hb dX9_waiting_0 (by decide) ?_
  refine lv_istore_n (lv' := [(1, .int 0), (0, .ref (ad 9 0))]) hx hb dX9_waiting_1 rfl hl (by decide) rfl (fun ls hl => ?_)
  refine lv_iconst (v := 0) hx hb dX9_waiting_2 (by decide) ?_
  refine lv_istore_n (lv' := [(2, .int 0), (1, .int 0), (0, .ref (ad 9 0))]) hx hb dX9_waiting_3 rfl hl (by decide) rfl (fun ls hl => ?_)
  obtain ⟨n4, hwp⟩ := hwp
  have L4 : ∀ (fu4 : Nat) (z4 : ST) (x2_4 : Int32) (x1_4 : Int32), wp_X9_waiting_L4 K fu4 z4 x2_4 x1_4 → ∀ (H : Heap) (locs : List Loc) (ls : Array Slot), va_P (dC, dI) vwCl (Wm cA ad z4) H → va_D A (Wm cA ad z4) → va_S A s.heap H locs → lv_has ls 3 [(2, .int x2_4), (1, .int x1_4), (0, .ref (ad 9 0))] → W p l e ({ frames := 0, cells := 0, slots := 0, locals := 0 } : Room) s m ([.ref (ad 9 0)] : List Value).toArray below meth c H locs 0 0 (MQ below (va_Qi K (atC dC dI cA (Wm cA ad) A) A) ([.ref (ad 9 0)] : List Value).toArray s 0 0 A) (F0 m 4 ls []) := by
    intro fu4
    induction fu4 with
    | zero => intro z4 x2_4 x1_4 h; exact h.elim
    | succ fu4 ih4 =>
      intro z4 x2_4 x1_4 hwp H locs ls hP hD hS hl
      refine lv_iload_n hx hb dX9_waiting_4 rfl (lv_at hl 0 rfl) ?_
      refine lv_bipush (v := 6) hx hb dX9_waiting_5 (by decide) ?_
      refine lv_icmp_ge (tgt := 25) hx hb dX9_waiting_7 (by decide) (fun c_7 => ?_) (fun c_7 => ?_)
      · replace hwp := hwp.1 c_7
        refine lv_iload_n hx hb dX9_waiting_25 rfl (lv_at hl 1 rfl) ?_
        exact W.iret (v := x1_4) hx hb hr (fun t ht hW => ⟨⟨x1_4, z4, rfl, hwp, by rw [ht]; exact hP, va_K.moved hW.alike hK, hD⟩, hS.F ht⟩) hS.2.2 dX9_waiting_26
      · replace hwp := hwp.2 c_7
        refine lv_iload_n hx hb dX9_waiting_10 rfl (lv_at hl 1 rfl) ?_
        refine lv_aload_n hx hb dX9_waiting_11 rfl (lv_at hl 2 rfl) ?_
        refine va_get (D := (dC, dI)) (ci := 9) (v := .ref (ad 123 0)) (C := RX9) (T := TX9) (N := 43) hx hb hts iX9_waiting_9 hown hK hP 0 atModel rfl 23 (by decide) (hts (.fieldLink RX9 74 "LinkQueuesModel" "sizes" "[I") (by decide +kernel)) (fun _ h9 => h9) rfl dX9_waiting_12 ?_
        refine lv_iload_n hx hb dX9_waiting_15 rfl (lv_at hl 0 rfl) ?_
        obtain ⟨hi_1, hwp⟩ := hwp
        refine va_iald (D := (dC, dI)) hx hb hK hP 18 1 atm23 rfl hi_1 dX9_waiting_16 ?_
        refine lv_iadd hx hb dX9_waiting_17 ?_
        refine lv_istore_n (lv' := [(1, .int (x1_4 + (sI z4 1023 x2_4.toNatClampNeg))), (2, .int x2_4), (0, .ref (ad 9 0))]) hx hb dX9_waiting_18 rfl hl (by decide) rfl (fun ls hl => ?_)
        refine lv_iinc (v := (x2_4 + 1)) (lv' := [(2, .int (x2_4 + 1)), (1, .int (x1_4 + (sI z4 1023 x2_4.toNatClampNeg))), (0, .ref (ad 9 0))]) hx hb dX9_waiting_19 hl (k := 1) rfl rfl (by decide) rfl (fun ls hl => ?_)
        refine lv_goto (tgt := 4) hx hb dX9_waiting_22 (by decide) ?_
        exact ih4 z4 (x2_4 + 1) (x1_4 + (sI z4 1023 x2_4.toNatClampNeg)) hwp _ _ _ hP hD hS (lv_sub hl [0, 1, 2] rfl)
  exact L4 n4 σ 0 0 hwp _ _ _ hP hD hS (lv_sub hl [0, 1, 2] rfl)
def wp_X9_bytesWaiting_L7 (a1 : Int32) (K : Int32 → ST → Prop) : Nat → ST → Int32 → Int32 → Prop
  | 0 => fun _ _ _ => False
  | fu7 + 1 => fun z7 x3_7 x2_7 => vp_in a1 6 ∧
((((100 * a1) + (sI z7 1023 a1.toNatClampNeg)) ≤ x3_7 → (K x2_7 z7)) ∧ (¬ (((100 * a1) + (sI z7 1023 a1.toNatClampNeg)) ≤ x3_7) → (vp_in x3_7 600 ∧
wp_X9_bytesWaiting_L7 a1 K fu7 z7 (x3_7 + 1) (x2_7 + (sI z7 1025 x3_7.toNatClampNeg)))))
def wp_X9_bytesWaiting (σ : ST) (a1 : Int32) (K : Int32 → ST → Prop) : Prop := ∃ n7, wp_X9_bytesWaiting_L7 a1 K n7 σ (100 * a1) 0
set_option maxRecDepth 20000 in
theorem iX9_bytesWaiting_9 : ∀ w ∈ wsX90, w ∈ wsX9_bytesWaiting := by decide +kernel
set_option maxHeartbeats 8000000 in
set_option maxRecDepth 100000 in
theorem c_X9_bytesWaiting (l : Launch) (dC : Nat → ClassId) (dI : Nat → Nat → Nat) (cA : Nat → ClassId) (ad : Nat → Nat → Nat) (σ : ST) (a1 : Int32) (sz : Nat) (K : Int32 → ST → Prop) (hwp : wp_X9_bytesWaiting σ a1 K) : Met l yX9_bytesWaiting wsX9_bytesWaiting ({ frames := 0, cells := 0, slots := 0, locals := 0 } : Room) (va_Pc [.ref (ad 9 0), .int a1] (preC dC dI cA (Wm cA ad σ) sz)) (va_Qi K (atC dC dI cA (Wm cA ad) (va_A (Wm cA ad σ) sz)) (va_A (Wm cA ad σ) sz)) 0 0 (va_A (Wm cA ad σ) sz) := by
  refine Met.ofW (cc := cX9_bytesWaiting) (maxL := 4) (ret := (some .int)) (by decide) rfl ?_
  intro p e s m args below meth c s₁ B hml hv
  obtain ⟨rfl, hsz, hP, hK, hD0⟩ := hv
  have hx := B.exec
  have hb := B.bytes
  have hr := B.returns
  have hts := atoms_spec (ws := wsX9_bytesWaiting) B.pre
  have hown : s.vm.findClass RX9 = some m.cls := findClass_of_methodNamed B.named
  have hlocks := B.notSynchronized
  subst hsz
  have hD := hD0.self (sz := s.heap.size)
  clear hD0
  generalize hAe : va_A (Wm cA ad σ) s.heap.size = A at hD ⊢
  have hA : ∀ q : Nat, s.heap.size ≤ q → A q := fun q h => by rw [← hAe]; exact Or.inr h
  have hS : va_S A s.heap s.heap [] := va_S.rf
  have hkc : 0 ≤ 0 := Nat.le_refl 0
  have hks : 0 ≤ 0 := Nat.le_refl 0
  have hl := lv_entry ([.ref (ad 9 0), .int a1]) (n := 4) (Nat.le_of_ble_eq_true rfl)
  rw [lg_entry_eq]
  generalize (lg_sl ([.ref (ad 9 0), .int a1]) ++ List.replicate (4 - (lg_sl ([.ref (ad 9 0), .int a1])).length) Slot.unset).toArray = ls at hl ⊢
  have hl : lv_has ls 4 [(0, .ref (ad 9 0)), (1, .int a1)] := hl
  unfold wp_X9_bytesWaiting at hwp
  generalize hHe : s.heap = H at hP ⊢
  have hS : va_S A s.heap H [] := by rw [← hHe]; exact va_S.rf
  clear hHe
  refine lv_iconst (v := 0) hx hb dX9_bytesWaiting_0 (by decide) ?_
  refine lv_istore_n (lv' := [(2, .int 0), (0, .ref (ad 9 0)), (1, .int a1)]) hx hb dX9_bytesWaiting_1 rfl hl (by decide) rfl (fun ls hl => ?_)
  refine lv_bipush (v := 100) hx hb dX9_bytesWaiting_2 (by decide) ?_
  refine lv_iload_n hx hb dX9_bytesWaiting_4 rfl (lv_at hl 2 rfl) ?_
  refine lv_imul hx hb dX9_bytesWaiting_5 ?_
  refine lv_istore_n (lv' := [(3, .int (100 * a1)), (2, .int 0), (0, .ref (ad 9 0)), (1, .int a1)]) hx hb dX9_bytesWaiting_6 rfl hl (by decide) rfl (fun ls hl => ?_)
  obtain ⟨n7, hwp⟩ := hwp
  have L7 : ∀ (fu7 : Nat) (z7 : ST) (x3_7 : Int32) (x2_7 : Int32), wp_X9_bytesWaiting_L7 a1 K fu7 z7 x3_7 x2_7 → ∀ (H : Heap) (locs : List Loc) (ls : Array Slot), va_P (dC, dI) vwCl (Wm cA ad z7) H → va_D A (Wm cA ad z7) → va_S A s.heap H locs → lv_has ls 4 [(3, .int x3_7), (2, .int x2_7), (0, .ref (ad 9 0)), (1, .int a1)] → W p l e ({ frames := 0, cells := 0, slots := 0, locals := 0 } : Room) s m ([.ref (ad 9 0), .int a1] : List Value).toArray below meth c H locs 0 0 (MQ below (va_Qi K (atC dC dI cA (Wm cA ad) A) A) ([.ref (ad 9 0), .int a1] : List Value).toArray s 0 0 A) (F0 m 7 ls []) := by
    intro fu7
    induction fu7 with
    | zero => intro z7 x3_7 x2_7 h; exact h.elim
    | succ fu7 ih7 =>
      intro z7 x3_7 x2_7 hwp H locs ls hP hD hS hl
      refine lv_iload_n hx hb dX9_bytesWaiting_7 rfl (lv_at hl 0 rfl) ?_
      refine lv_bipush (v := 100) hx hb dX9_bytesWaiting_8 (by decide) ?_
      refine lv_iload_n hx hb dX9_bytesWaiting_10 rfl (lv_at hl 3 rfl) ?_
      refine lv_imul hx hb dX9_bytesWaiting_11 ?_
      refine lv_aload_n hx hb dX9_bytesWaiting_12 rfl (lv_at hl 2 rfl) ?_
      refine va_get (D := (dC, dI)) (ci := 9) (v := .ref (ad 123 0)) (C := RX9) (T := TX9) (N := 43) hx hb hts iX9_bytesWaiting_9 hown hK hP 0 atModel rfl 23 (by decide) (hts (.fieldLink RX9 74 "LinkQueuesModel" "sizes" "[I") (by decide +kernel)) (fun _ h9 => h9) rfl dX9_bytesWaiting_13 ?_
      refine lv_iload_n hx hb dX9_bytesWaiting_16 rfl (lv_at hl 3 rfl) ?_
      obtain ⟨hi_1, hwp⟩ := hwp
      refine va_iald (D := (dC, dI)) hx hb hK hP 18 1 atm23 rfl hi_1 dX9_bytesWaiting_17 ?_
      refine lv_iadd hx hb dX9_bytesWaiting_18 ?_
      refine lv_icmp_ge (tgt := 37) hx hb dX9_bytesWaiting_19 (by decide) (fun c_19 => ?_) (fun c_19 => ?_)
      · replace hwp := hwp.1 c_19
        refine lv_iload_n hx hb dX9_bytesWaiting_37 rfl (lv_at hl 1 rfl) ?_
        exact W.iret (v := x2_7) hx hb hr (fun t ht hW => ⟨⟨x2_7, z7, rfl, hwp, by rw [ht]; exact hP, va_K.moved hW.alike hK, hD⟩, hS.F ht⟩) hS.2.2 dX9_bytesWaiting_38
      · replace hwp := hwp.2 c_19
        refine lv_iload_n hx hb dX9_bytesWaiting_22 rfl (lv_at hl 1 rfl) ?_
        refine lv_aload_n hx hb dX9_bytesWaiting_23 rfl (lv_at hl 2 rfl) ?_
        refine va_get (D := (dC, dI)) (ci := 9) (v := .ref (ad 125 0)) (C := RX9) (T := TX9) (N := 43) hx hb hts iX9_bytesWaiting_9 hown hK hP 0 atModel rfl 25 (by decide) (hts (.fieldLink RX9 80 "LinkQueuesModel" "bytesOf" "[I") (by decide +kernel)) (fun _ h9 => h9) rfl dX9_bytesWaiting_24 ?_
        refine lv_iload_n hx hb dX9_bytesWaiting_27 rfl (lv_at hl 0 rfl) ?_
        obtain ⟨hi_2, hwp⟩ := hwp
        refine va_iald (D := (dC, dI)) hx hb hK hP 20 1 atm25 rfl hi_2 dX9_bytesWaiting_28 ?_
        refine lv_iadd hx hb dX9_bytesWaiting_29 ?_
        refine lv_istore_n (lv' := [(2, .int (x2_7 + (sI z7 1025 x3_7.toNatClampNeg))), (3, .int x3_7), (0, .ref (ad 9 0)), (1, .int a1)]) hx hb dX9_bytesWaiting_30 rfl hl (by decide) rfl (fun ls hl => ?_)
        refine lv_iinc (v := (x3_7 + 1)) (lv' := [(3, .int (x3_7 + 1)), (2, .int (x2_7 + (sI z7 1025 x3_7.toNatClampNeg))), (0, .ref (ad 9 0)), (1, .int a1)]) hx hb dX9_bytesWaiting_31 hl (k := 1) rfl rfl (by decide) rfl (fun ls hl => ?_)
        refine lv_goto (tgt := 7) hx hb dX9_bytesWaiting_34 (by decide) ?_
        exact ih7 z7 (x3_7 + 1) (x2_7 + (sI z7 1025 x3_7.toNatClampNeg)) hwp _ _ _ hP hD hS (lv_sub hl [0, 1, 2, 3] rfl)
  exact L7 n7 σ (100 * a1) 0 hwp _ _ _ hP hD hS (lv_sub hl [0, 1, 2, 3] rfl)
