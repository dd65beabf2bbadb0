def wp_X9_choose_J219 (y0_135 : Int32) (z0 : ST) (K : Int32 → ST → Prop) (J0 : ST → Prop) (z219 : ST) : Prop := ((¬ y0_135 = 0 → (J0 z219)) ∧ (y0_135 = 0 → (K (sI z0 1031 (0 : Int32).toNatClampNeg) z219)))
def wp_X9_choose_J206 (y0_135 : Int32) (z0 : ST) (K : Int32 → ST → Prop) (J0 : ST → Prop) (z206 : ST) : Prop := vp_in (sI z0 1031 (0 : Int32).toNatClampNeg) 6 ∧
((¬ (sI z206 1023 (sI z0 1031 (0 : Int32).toNatClampNeg).toNatClampNeg) = 0 → (wp_X9_choose_J219 y0_135 z0 K (J0) z206)) ∧ ((sI z206 1023 (sI z0 1031 (0 : Int32).toNatClampNeg).toNatClampNeg) = 0 → (wp_X9_leaveRound z206 (fun s7 =>
wp_X9_choose_J219 y0_135 z0 K (J0) s7
))))
def wp_X9_choose_J135 (y0_118 : Int32) (z0 : ST) (K : Int32 → ST → Prop) (J0 : ST → Prop) (z135 : ST) (y0_135 : Int32) : Prop := ((y0_135 = 0 → (vp_in (sI z0 1031 (0 : Int32).toNatClampNeg) 6 ∧
vp_in (sI z0 1031 (0 : Int32).toNatClampNeg) 6 ∧
∀ s10, s10 = upI z135 1032 (sI z0 1031 (0 : Int32).toNatClampNeg).toNatClampNeg ((sI z135 1032 (sI z0 1031 (0 : Int32).toNatClampNeg).toNatClampNeg) - (sI z135 1039 0)) →
((y0_118 = 0 → (wp_X9_choose_J206 y0_135 z0 K (J0) s10)) ∧ (¬ (y0_118 = 0) → (((¬ (sI s10 1042 0) = 0 → (wp_X9_choose_J206 y0_135 z0 K (J0) s10)) ∧ ((sI s10 1042 0) = 0 → (vp_in ((10 * (sI z0 1031 (0 : Int32).toNatClampNeg)) + 5) 60 ∧
vp_in ((10 * (sI z0 1031 (0 : Int32).toNatClampNeg)) + 5) 60 ∧
∀ s13, s13 = upI s10 1029 ((10 * (sI z0 1031 (0 : Int32).toNatClampNeg)) + 5).toNatClampNeg ((sI s10 1029 ((10 * (sI z0 1031 (0 : Int32).toNatClampNeg)) + 5).toNatClampNeg) + 1) →
∀ s14, s14 = upI s13 1042 0 1 →
wp_X9_choose_J206 y0_135 z0 K (J0) s14)))))))) ∧ (¬ (y0_135 = 0) → (vp_in ((10 * (sI z0 1031 (0 : Int32).toNatClampNeg)) + 4) 60 ∧
vp_in ((10 * (sI z0 1031 (0 : Int32).toNatClampNeg)) + 4) 60 ∧
∀ s17, s17 = upI z135 1029 ((10 * (sI z0 1031 (0 : Int32).toNatClampNeg)) + 4).toNatClampNeg ((sI z135 1029 ((10 * (sI z0 1031 (0 : Int32).toNatClampNeg)) + 4).toNatClampNeg) + 1) →
wp_X9_choose_J206 y0_135 z0 K (J0) s17)))
def wp_X9_choose_J134 (y0_118 : Int32) (z0 : ST) (K : Int32 → ST → Prop) (J0 : ST → Prop) (G135 : ST → Int32 → Prop) (z134 : ST) : Prop := G135 z134 0
def wp_X9_choose_J118 (z0 : ST) (K : Int32 → ST → Prop) (J0 : ST → Prop) (z118 : ST) (y0_118 : Int32) : Prop := ((y0_118 = 0 → (wp_X9_choose_J134 y0_118 z0 K (J0) (wp_X9_choose_J135 y0_118 z0 K (J0)) z118)) ∧ (¬ (y0_118 = 0) → (((¬ (sI z118 1041 0) = 0 → (wp_X9_choose_J134 y0_118 z0 K (J0) (wp_X9_choose_J135 y0_118 z0 K (J0)) z118)) ∧ ((sI z118 1041 0) = 0 → (wp_X9_choose_J135 y0_118 z0 K (J0) z118 1))))))
def wp_X9_choose_J117 (z0 : ST) (K : Int32 → ST → Prop) (J0 : ST → Prop) (G118 : ST → Int32 → Prop) (z117 : ST) : Prop := G118 z117 0
def wp_X9_choose_J45 (z0 : ST) (K : Int32 → ST → Prop) (J0 : ST → Prop) (z45 : ST) : Prop := vp_in (100 * (sI z0 1031 (0 : Int32).toNatClampNeg)) 600 ∧
vp_in (sI z0 1031 (0 : Int32).toNatClampNeg) 6 ∧
(((sI z45 1025 (100 * (sI z0 1031 (0 : Int32).toNatClampNeg)).toNatClampNeg) ≤ (sI z45 1032 (sI z0 1031 (0 : Int32).toNatClampNeg).toNatClampNeg) → (wp_X9_takeOut z45 (sI z0 1031 (0 : Int32).toNatClampNeg) (fun s4 =>
vp_in (sI z0 1031 (0 : Int32).toNatClampNeg) 6 ∧
((¬ (sI s4 1006 (sI z0 1031 (0 : Int32).toNatClampNeg).toNatClampNeg) = 2 → (wp_X9_choose_J117 z0 K (J0) (wp_X9_choose_J118 z0 K (J0)) s4)) ∧ ((sI s4 1006 (sI z0 1031 (0 : Int32).toNatClampNeg).toNatClampNeg) = 2 → (wp_X9_isHit s4 (sI z0 1031 (0 : Int32).toNatClampNeg) (fun r19 s18 =>
((r19 = 0 → (wp_X9_choose_J117 z0 K (J0) (wp_X9_choose_J118 z0 K (J0)) s18)) ∧ (¬ (r19 = 0) → (wp_X9_choose_J118 z0 K (J0) s18 1)))
))))
))) ∧ (¬ ((sI z45 1025 (100 * (sI z0 1031 (0 : Int32).toNatClampNeg)).toNatClampNeg) ≤ (sI z45 1032 (sI z0 1031 (0 : Int32).toNatClampNeg).toNatClampNeg)) → (wp_X9_leaveRound z45 (fun s20 =>
vp_in (sI s20 1030 0) 6 ∧
∀ s22, s22 = upI s20 1031 (sI s20 1030 0).toNatClampNeg (sI z0 1031 (0 : Int32).toNatClampNeg) →
∀ s23, s23 = upI s22 1030 0 ((sI s22 1030 0) + 1) →
J0 s23
))))
def wp_X9_choose_L0 (K : Int32 → ST → Prop) : Nat → ST → Prop
  | 0 => fun _ => False
  | fu0 + 1 => fun z0 => (((sI z0 1030 0) ≤ 0 → (K (-1) z0)) ∧ (¬ ((sI z0 1030 0) ≤ 0) → (vp_in 0 6 ∧
((¬ (sI z0 1033 0) = 0 → (wp_X9_choose_J45 z0 K (wp_X9_choose_L0 K fu0) z0)) ∧ ((sI z0 1033 0) = 0 → (∀ s24, s24 = upI z0 1033 0 1 →
vp_in (sI z0 1031 (0 : Int32).toNatClampNeg) 6 ∧
vp_in (sI z0 1031 (0 : Int32).toNatClampNeg) 6 ∧
vp_in (sI z0 1031 (0 : Int32).toNatClampNeg) 6 ∧
∀ s28, s28 = upI s24 1032 (sI z0 1031 (0 : Int32).toNatClampNeg).toNatClampNeg ((sI s24 1032 (sI z0 1031 (0 : Int32).toNatClampNeg).toNatClampNeg) + (sI s24 1007 (sI z0 1031 (0 : Int32).toNatClampNeg).toNatClampNeg)) →
wp_X9_choose_J45 z0 K (wp_X9_choose_L0 K fu0) s28))))))
def wp_X9_choose (σ : ST) (K : Int32 → ST → Prop) : Prop := ∃ n0, wp_X9_choose_L0 K n0 σ
set_option maxRecDepth 20000 in
theorem iX9_choose_9 : ∀ w ∈ wsX90, w ∈ wsX9_choose := by decide +kernel
set_option maxHeartbeats 8000000 in
set_option maxRecDepth 100000 in
theorem c_X9_choose (l : Launch) (dC : Nat → ClassId) (dI : Nat → Nat → Nat) (cA : Nat → ClassId) (ad : Nat → Nat → Nat) (σ : ST) (sz : Nat) (K : Int32 → ST → Prop) (hwp : wp_X9_choose σ K) : Met l yX9_choose wsX9_choose ({ frames := 2, cells := 0, slots := 0, locals := 48 } : Room) (va_Pc [.ref (ad 9 0)] (preC dC dI cA (Wm cA ad σ) sz)) (va_Qi K (atC dC dI cA (Wm cA ad) (va_A (Wm cA ad σ) sz)) (va_A (Wm cA ad σ) sz)) 0 0 (va_A (Wm cA ad σ) sz) := by
  refine Met.ofW (cc := cX9_choose) (maxL := 4) (ret := (some .int)) (by decide) rfl ?_
  intro p e s m args below meth c s₁ B hml hv
  obtain ⟨rfl, hsz, hP, hK, hD0⟩ := hv
  have hx := B.exec
  have hb := B.bytes
  have hr := B.returns
  have hts := atoms_spec (ws := wsX9_choose) B.pre
  have hown : s.vm.findClass RX9 = some m.cls := findClass_of_methodNamed B.named
  have hlocks := B.notSynchronized
  subst hsz
  have hD := hD0.self (sz := s.heap.size)
  clear hD0
  generalize hAe : va_A (Wm cA ad σ) s.heap.size = A at hD ⊢
  have hA : ∀ q : Nat, s.heap.size ≤ q → A q := fun q h => by rw [← hAe]; exact Or.inr h
  have hS : va_S A s.heap s.heap [] := va_S.rf
  have hkc : 0 ≤ 0 := Nat.le_refl 0
  have hks : 0 ≤ 0 := Nat.le_refl 0
  have hl := lv_entry ([.ref (ad 9 0)]) (n := 4) (Nat.le_of_ble_eq_true rfl)
  rw [lg_entry_eq]
  generalize (lg_sl ([.ref (ad 9 0)]) ++ List.replicate (4 - (lg_sl ([.ref (ad 9 0)])).length) Slot.unset).toArray = ls at hl ⊢
  have hl : lv_has ls 4 [(0, .ref (ad 9 0))] := hl
  unfold wp_X9_choose at hwp
  generalize hHe : s.heap = H at hP ⊢
  have hS : va_S A s.heap H [] := by rw [← hHe]; exact va_S.rf
  clear hHe
  obtain ⟨n0, hwp⟩ := hwp
  have L0 : ∀ (fu0 : Nat) (z0 : ST), wp_X9_choose_L0 K fu0 z0 → ∀ (H : Heap) (locs : List Loc) (ls : Array Slot), va_P (dC, dI) vwCl (Wm cA ad z0) H → va_D A (Wm cA ad z0) → va_S A s.heap H locs → lv_has ls 4 [(0, .ref (ad 9 0))] → W p l e ({ frames := 2, cells := 0, slots := 0, locals := 48 } : Room) s m ([.ref (ad 9 0)] : List Value).toArray below meth c H locs 0 0 (MQ below (va_Qi K (atC dC dI cA (Wm cA ad) A) A) ([.ref (ad 9 0)] : List Value).toArray s 0 0 A) (F0 m 0 ls []) := by
    intro fu0
    induction fu0 with
    | zero => intro z0 h; exact h.elim
    | succ fu0 ih0 =>
      intro z0 hwp H locs ls hP hD hS hl
      refine lv_aload_n hx hb dX9_choose_0 rfl (lv_at hl 0 rfl) ?_
      refine va_get (D := (dC, dI)) (ci := 9) (v := .int (sI z0 1030 0)) (C := RX9) (T := TX9) (N := 43) hx hb hts iX9_choose_9 hown hK hP 0 atModel rfl 30 (by decide) (hts (.fieldLink RX9 158 "LinkQueuesModel" "roundSize" "I") (by decide +kernel)) (fun _ h9 => h9) rfl dX9_choose_1 ?_
      refine lv_if_le (tgt := 228) hx hb dX9_choose_4 (by decide) (fun c_4 => ?_) (fun c_4 => ?_)
      · replace hwp := hwp.1 c_4
        refine lv_iconst (v := (-1)) hx hb dX9_choose_228 (by decide) ?_
        exact W.iret (v := (-1)) hx hb hr (fun t ht hW => ⟨⟨(-1), z0, rfl, hwp, by rw [ht]; exact hP, va_K.moved hW.alike hK, hD⟩, hS.F ht⟩) hS.2.2 dX9_choose_229
      · replace hwp := hwp.2 c_4
        refine lv_aload_n hx hb dX9_choose_7 rfl (lv_at hl 0 rfl) ?_
        refine va_get (D := (dC, dI)) (ci := 9) (v := .ref (ad 131 0)) (C := RX9) (T := TX9) (N := 43) hx hb hts iX9_choose_9 hown hK hP 0 atModel rfl 31 (by decide) (hts (.fieldLink RX9 95 "LinkQueuesModel" "round" "[I") (by decide +kernel)) (fun _ h9 => h9) rfl dX9_choose_8 ?_
        refine lv_iconst (v := 0) hx hb dX9_choose_11 (by decide) ?_
        obtain ⟨hi_1, hwp⟩ := hwp
        refine va_iald (D := (dC, dI)) hx hb hK hP 25 1 atm31 rfl hi_1 dX9_choose_12 ?_
        refine lv_istore_n (lv' := [(1, .int (sI z0 1031 (0 : Int32).toNatClampNeg)), (0, .ref (ad 9 0))]) hx hb dX9_choose_13 rfl hl (by decide) rfl (fun ls hl => ?_)
        refine lv_aload_n hx hb dX9_choose_14 rfl (lv_at hl 1 rfl) ?_
        refine va_get (D := (dC, dI)) (ci := 9) (v := .int (sI z0 1033 0)) (C := RX9) (T := TX9) (N := 43) hx hb hts iX9_choose_9 hown hK hP 0 atModel rfl 33 (by decide) (hts (.fieldLink RX9 185 "LinkQueuesModel" "isTurn" "Z") (by decide +kernel)) (fun _ h9 => h9) rfl dX9_choose_15 ?_
        have J45 : ∀ (z45 : ST), wp_X9_choose_J45 z0 K (wp_X9_choose_L0 K fu0) z45 → ∀ (H : Heap) (locs : List Loc) (ls : Array Slot), va_P (dC, dI) vwCl (Wm cA ad z45) H → va_D A (Wm cA ad z45) → va_S A s.heap H locs → lv_has ls 4 [(1, .int (sI z0 1031 (0 : Int32).toNatClampNeg)), (0, .ref (ad 9 0))] → W p l e ({ frames := 2, cells := 0, slots := 0, locals := 48 } : Room) s m ([.ref (ad 9 0)] : List Value).toArray below meth c H locs 0 0 (MQ below (va_Qi K (atC dC dI cA (Wm cA ad) A) A) ([.ref (ad 9 0)] : List Value).toArray s 0 0 A) (F0 m 45 ls []) := by
          intro z45 hwp H locs ls hP hD hS hl
          refine lv_aload_n hx hb dX9_choose_45 rfl (lv_at hl 1 rfl) ?_
          refine va_get (D := (dC, dI)) (ci := 9) (v := .ref (ad 125 0)) (C := RX9) (T := TX9) (N := 43) hx hb hts iX9_choose_9 hown hK hP 0 atModel rfl 25 (by decide) (hts (.fieldLink RX9 80 "LinkQueuesModel" "bytesOf" "[I") (by decide +kernel)) (fun _ h9 => h9) rfl dX9_choose_46 ?_
          refine lv_bipush (v := 100) hx hb dX9_choose_49 (by decide) ?_
          refine lv_iload_n hx hb dX9_choose_51 rfl (lv_at hl 0 rfl) ?_
          refine lv_imul hx hb dX9_choose_52 ?_
          obtain ⟨hi_2, hwp⟩ := hwp
          refine va_iald (D := (dC, dI)) hx hb hK hP 20 1 atm25 rfl hi_2 dX9_choose_53 ?_
          refine lv_aload_n hx hb dX9_choose_54 rfl (lv_at hl 1 rfl) ?_
          refine va_get (D := (dC, dI)) (ci := 9) (v := .ref (ad 132 0)) (C := RX9) (T := TX9) (N := 43) hx hb hts iX9_choose_9 hown hK hP 0 atModel rfl 32 (by decide) (hts (.fieldLink RX9 98 "LinkQueuesModel" "deficits" "[I") (by decide +kernel)) (fun _ h9 => h9) rfl dX9_choose_55 ?_
          refine lv_iload_n hx hb dX9_choose_58 rfl (lv_at hl 0 rfl) ?_
          obtain ⟨hi_3, hwp⟩ := hwp
          refine va_iald (D := (dC, dI)) hx hb hK hP 26 1 atm32 rfl hi_3 dX9_choose_59 ?_
          refine lv_icmp_le (tgt := 90) hx hb dX9_choose_60 (by decide) (fun c_60 => ?_) (fun c_60 => ?_)
          · replace hwp := hwp.1 c_60
            refine lv_aload_n hx hb dX9_choose_90 rfl (lv_at hl 1 rfl) ?_
            refine lv_iload_n hx hb dX9_choose_91 rfl (lv_at hl 0 rfl) ?_
            have hF := fA hD hS hA
            refine va_callv (va_runV (As := [.int (sI z0 1031 (0 : Int32).toNatClampNeg)]) (rest := []) ⟨hx, hb, hml, hown, hts⟩ (c_X9_takeOut l dC dI cA ad z45 (sI z0 1031 (0 : Int32).toNatClampNeg) H.size _ hwp) (cwV 1 hts gX9_choose_X9_takeOut rfl rfl rfl (by decide +kernel) ⟨Nat.le_of_ble_eq_true rfl, Nat.le_of_ble_eq_true rfl⟩) ⟨fbC, va_recv hK hP (ci := 9) (q0 := 0) rfl atModel, fun U hU hW => ⟨rfl, by rw [hU], by rw [hU]; exact hP, va_K.moved hW.alike hK, hD.weaken (fun _ _ _ _ => trivial)⟩⟩ rfl rfl hl.1 rfl (lv_room (Nat.le_of_ble_eq_true rfl)) dX9_choose_92 ⟨hkc, hks⟩) hS (fun q _ h => hF q h) hF (fun s4 t H1 locs ht hvm hwp hB hz1 hk1 hS => ?_)
            obtain ⟨hP1, hK1, hD1⟩ := hB
            rw [ht] at hP1
            have hD2 := hD1.weaken (fun _ q _ h => hF q.1 h)
            clear hP hD
            have hP := hP1
            have hD := hD2
            clear hP1 hD1 hD2 hK1 hk1 hz1 hF
            generalize H1 = H at hP hS ⊢
            refine lv_aload_n hx hb dX9_choose_95 rfl (lv_at hl 1 rfl) ?_
            refine va_get (D := (dC, dI)) (ci := 9) (v := .ref (ad 106 0)) (C := RX9) (T := TX9) (N := 43) hx hb hts iX9_choose_9 hown hK hP 0 atModel rfl 6 (by decide) (hts (.fieldLink RX9 20 "LinkQueuesModel" "kinds" "[I") (by decide +kernel)) (fun _ h9 => h9) rfl dX9_choose_96 ?_
            refine lv_iload_n hx hb dX9_choose_99 rfl (lv_at hl 0 rfl) ?_
            obtain ⟨hi_5, hwp⟩ := hwp
            refine va_iald (D := (dC, dI)) hx hb hK hP 1 1 atm6 rfl hi_5 dX9_choose_100 ?_
            refine lv_iconst (v := 2) hx hb dX9_choose_101 (by decide) ?_
            have J118 : ∀ (z118 : ST) (y0_118 : Int32), wp_X9_choose_J118 z0 K (wp_X9_choose_L0 K fu0) z118 y0_118 → ∀ (H : Heap) (locs : List Loc) (ls : Array Slot), va_P (dC, dI) vwCl (Wm cA ad z118) H → va_D A (Wm cA ad z118) → va_S A s.heap H locs → lv_has ls 4 [(1, .int (sI z0 1031 (0 : Int32).toNatClampNeg)), (0, .ref (ad 9 0))] → W p l e ({ frames := 2, cells := 0, slots := 0, locals := 48 } : Room) s m ([.ref (ad 9 0)] : List Value).toArray below meth c H locs 0 0 (MQ below (va_Qi K (atC dC dI cA (Wm cA ad) A) A) ([.ref (ad 9 0)] : List Value).toArray s 0 0 A) (F0 m 118 ls [.int y0_118]) := by
              intro z118 y0_118 hwp H locs ls hP hD hS hl
              refine lv_istore_n (lv' := [(2, .int y0_118), (1, .int (sI z0 1031 (0 : Int32).toNatClampNeg)), (0, .ref (ad 9 0))]) hx hb dX9_choose_118 rfl hl (by decide) rfl (fun ls hl => ?_)
              refine lv_iload_n hx hb dX9_choose_119 rfl (lv_at hl 0 rfl) ?_
              have J135 : ∀ (z135 : ST) (y0_135 : Int32), wp_X9_choose_J135 y0_118 z0 K (wp_X9_choose_L0 K fu0) z135 y0_135 → ∀ (H : Heap) (locs : List Loc) (ls : Array Slot), va_P (dC, dI) vwCl (Wm cA ad z135) H → va_D A (Wm cA ad z135) → va_S A s.heap H locs → lv_has ls 4 [(2, .int y0_118), (1, .int (sI z0 1031 (0 : Int32).toNatClampNeg)), (0, .ref (ad 9 0))] → W p l e ({ frames := 2, cells := 0, slots := 0, locals := 48 } : Room) s m ([.ref (ad 9 0)] : List Value).toArray below meth c H locs 0 0 (MQ below (va_Qi K (atC dC dI cA (Wm cA ad) A) A) ([.ref (ad 9 0)] : List Value).toArray s 0 0 A) (F0 m 135 ls [.int y0_135]) := by
                intro z135 y0_135 hwp H locs ls hP hD hS hl
                refine lv_istore_n (lv' := [(3, .int y0_135), (2, .int y0_118), (1, .int (sI z0 1031 (0 : Int32).toNatClampNeg)), (0, .ref (ad 9 0))]) hx hb dX9_choose_135 rfl hl (by decide) rfl (fun ls hl => ?_)
                refine lv_iload_n hx hb dX9_choose_136 rfl (lv_at hl 0 rfl) ?_
                have J206 : ∀ (z206 : ST), wp_X9_choose_J206 y0_135 z0 K (wp_X9_choose_L0 K fu0) z206 → ∀ (H : Heap) (locs : List Loc) (ls : Array Slot), va_P (dC, dI) vwCl (Wm cA ad z206) H → va_D A (Wm cA ad z206) → va_S A s.heap H locs → lv_has ls 4 [(3, .int y0_135), (1, .int (sI z0 1031 (0 : Int32).toNatClampNeg)), (0, .ref (ad 9 0))] → W p l e ({ frames := 2, cells := 0, slots := 0, locals := 48 } : Room) s m ([.ref (ad 9 0)] : List Value).toArray below meth c H locs 0 0 (MQ below (va_Qi K (atC dC dI cA (Wm cA ad) A) A) ([.ref (ad 9 0)] : List Value).toArray s 0 0 A) (F0 m 206 ls []) := by
                  intro z206 hwp H locs ls hP hD hS hl
                  refine lv_aload_n hx hb dX9_choose_206 rfl (lv_at hl 2 rfl) ?_
                  refine va_get (D := (dC, dI)) (ci := 9) (v := .ref (ad 123 0)) (C := RX9) (T := TX9) (N := 43) hx hb hts iX9_choose_9 hown hK hP 0 atModel rfl 23 (by decide) (hts (.fieldLink RX9 74 "LinkQueuesModel" "sizes" "[I") (by decide +kernel)) (fun _ h9 => h9) rfl dX9_choose_207 ?_
                  refine lv_iload_n hx hb dX9_choose_210 rfl (lv_at hl 1 rfl) ?_
                  obtain ⟨hi_6, hwp⟩ := hwp
                  refine va_iald (D := (dC, dI)) hx hb hK hP 18 1 atm23 rfl hi_6 dX9_choose_211 ?_
                  have J219 : ∀ (z219 : ST), wp_X9_choose_J219 y0_135 z0 K (wp_X9_choose_L0 K fu0) z219 → ∀ (H : Heap) (locs : List Loc) (ls : Array Slot), va_P (dC, dI) vwCl (Wm cA ad z219) H → va_D A (Wm cA ad z219) → va_S A s.heap H locs → lv_has ls 4 [(3, .int y0_135), (1, .int (sI z0 1031 (0 : Int32).toNatClampNeg)), (0, .ref (ad 9 0))] → W p l e ({ frames := 2, cells := 0, slots := 0, locals := 48 } : Room) s m ([.ref (ad 9 0)] : List Value).toArray below meth c H locs 0 0 (MQ below (va_Qi K (atC dC dI cA (Wm cA ad) A) A) ([.ref (ad 9 0)] : List Value).toArray s 0 0 A) (F0 m 219 ls []) := by
                    intro z219 hwp H locs ls hP hD hS hl
                    refine lv_iload_n hx hb dX9_choose_219 rfl (lv_at hl 0 rfl) ?_
                    refine lv_if_ne (tgt := 225) hx hb dX9_choose_220 (by decide) (fun c_220 => ?_) (fun c_220 => ?_)
                    · replace hwp := hwp.1 c_220
                      refine lv_goto (tgt := 0) hx hb dX9_choose_225 (by decide) ?_
                      exact ih0 z219 hwp _ _ _ hP hD hS (lv_sub hl [2] rfl)
                    · replace hwp := hwp.2 c_220
                      refine lv_iload_n hx hb dX9_choose_223 rfl (lv_at hl 1 rfl) ?_
                      exact W.iret (v := (sI z0 1031 (0 : Int32).toNatClampNeg)) hx hb hr (fun t ht hW => ⟨⟨(sI z0 1031 (0 : Int32).toNatClampNeg), z219, rfl, hwp, by rw [ht]; exact hP, va_K.moved hW.alike hK, hD⟩, hS.F ht⟩) hS.2.2 dX9_choose_224
                  refine lv_if_ne (tgt := 219) hx hb dX9_choose_212 (by decide) (fun c_212 => ?_) (fun c_212 => ?_)
                  · replace hwp := hwp.1 c_212
                    exact J219 z206 hwp _ _ _ hP hD hS (lv_sub hl [0, 1, 2] rfl)
                  · replace hwp := hwp.2 c_212
                    refine lv_aload_n hx hb dX9_choose_215 rfl (lv_at hl 2 rfl) ?_
                    have hF := fA hD hS hA
                    refine va_callv (va_runV (As := []) (rest := []) ⟨hx, hb, hml, hown, hts⟩ (c_X9_leaveRound l dC dI cA ad z206 H.size _ hwp) (cwV 0 hts gX9_choose_X9_leaveRound rfl rfl rfl (by decide +kernel) ⟨Nat.le_of_ble_eq_true rfl, Nat.le_of_ble_eq_true rfl⟩) ⟨fbC, va_recv hK hP (ci := 9) (q0 := 0) rfl atModel, fun U hU hW => ⟨rfl, by rw [hU], by rw [hU]; exact hP, va_K.moved hW.alike hK, hD.weaken (fun _ _ _ _ => trivial)⟩⟩ rfl rfl hl.1 rfl (lv_room (Nat.le_of_ble_eq_true rfl)) dX9_choose_216 ⟨hkc, hks⟩) hS (fun q _ h => hF q h) hF (fun s7 t H1 locs ht hvm hwp hB hz1 hk1 hS => ?_)
                    obtain ⟨hP1, hK1, hD1⟩ := hB
                    rw [ht] at hP1
                    have hD2 := hD1.weaken (fun _ q _ h => hF q.1 h)
                    clear hP hD
                    have hP := hP1
                    have hD := hD2
                    clear hP1 hD1 hD2 hK1 hk1 hz1 hF
                    generalize H1 = H at hP hS ⊢
                    exact J219 s7 hwp _ _ _ hP hD hS (lv_sub hl [0, 1, 2] rfl)
                refine lv_if_eq (tgt := 158) hx hb dX9_choose_137 (by decide) (fun c_137 => ?_) (fun c_137 => ?_)
                · replace hwp := hwp.1 c_137
                  refine lv_aload_n hx hb dX9_choose_158 rfl (lv_at hl 3 rfl) ?_
                  refine va_get (D := (dC, dI)) (ci := 9) (v := .ref (ad 132 0)) (C := RX9) (T := TX9) (N := 43) hx hb hts iX9_choose_9 hown hK hP 0 atModel rfl 32 (by decide) (hts (.fieldLink RX9 98 "LinkQueuesModel" "deficits" "[I") (by decide +kernel)) (fun _ h9 => h9) rfl dX9_choose_159 ?_
                  refine lv_iload_n hx hb dX9_choose_162 rfl (lv_at hl 2 rfl) ?_
                  refine lv_aload_n hx hb dX9_choose_163 rfl (lv_at hl 3 rfl) ?_
                  refine va_get (D := (dC, dI)) (ci := 9) (v := .ref (ad 132 0)) (C := RX9) (T := TX9) (N := 43) hx hb hts iX9_choose_9 hown hK hP 0 atModel rfl 32 (by decide) (hts (.fieldLink RX9 98 "LinkQueuesModel" "deficits" "[I") (by decide +kernel)) (fun _ h9 => h9) rfl dX9_choose_164 ?_
                  refine lv_iload_n hx hb dX9_choose_167 rfl (lv_at hl 2 rfl) ?_
                  obtain ⟨hi_8, hwp⟩ := hwp
                  refine va_iald (D := (dC, dI)) hx hb hK hP 26 1 atm32 rfl hi_8 dX9_choose_168 ?_
                  refine lv_aload_n hx hb dX9_choose_169 rfl (lv_at hl 3 rfl) ?_
                  refine va_get (D := (dC, dI)) (ci := 9) (v := .int (sI z135 1039 0)) (C := RX9) (T := TX9) (N := 43) hx hb hts iX9_choose_9 hown hK hP 0 atModel rfl 39 (by decide) (hts (.fieldLink RX9 164 "LinkQueuesModel" "outBytes" "I") (by decide +kernel)) (fun _ h9 => h9) rfl dX9_choose_170 ?_
                  refine lv_isub hx hb dX9_choose_173 ?_
                  obtain ⟨hi_9, hwp⟩ := hwp
                  obtain ⟨s10, e_s10⟩ : ∃ z, z = upI z135 1032 (sI z0 1031 (0 : Int32).toNatClampNeg).toNatClampNeg ((sI z135 1032 (sI z0 1031 (0 : Int32).toNatClampNeg).toNatClampNeg) - (sI z135 1039 0)) := ⟨_, rfl⟩
                  refine va_iast (D := (dC, dI)) hx hb hK hP hD hS 26 1 atm32 rfl hi_9 dX9_choose_174 (fun H locs hP hD hS => ?_)
                  rw [stm32, ← e_s10] at hP hD
                  replace hwp := hwp s10 e_s10
                  refine lv_iload_n hx hb dX9_choose_175 rfl (lv_at hl 1 rfl) ?_
                  refine lv_if_eq (tgt := 206) hx hb dX9_choose_176 (by decide) (fun c_176 => ?_) (fun c_176 => ?_)
                  · replace hwp := hwp.1 c_176
                    exact J206 s10 hwp _ _ _ hP hD hS (lv_sub hl [0, 2, 3] rfl)
                  · replace hwp := hwp.2 c_176
                    refine lv_aload_n hx hb dX9_choose_179 rfl (lv_at hl 3 rfl) ?_
                    refine va_get (D := (dC, dI)) (ci := 9) (v := .int (sI s10 1042 0)) (C := RX9) (T := TX9) (N := 43) hx hb hts iX9_choose_9 hown hK hP 0 atModel rfl 42 (by decide) (hts (.fieldLink RX9 174 "LinkQueuesModel" "outMarked" "Z") (by decide +kernel)) (fun _ h9 => h9) rfl dX9_choose_180 ?_
                    refine lv_if_ne (tgt := 206) hx hb dX9_choose_183 (by decide) (fun c_183 => ?_) (fun c_183 => ?_)
                    · replace hwp := hwp.1 c_183
                      exact J206 s10 hwp _ _ _ hP hD hS (lv_sub hl [0, 2, 3] rfl)
                    · replace hwp := hwp.2 c_183
                      refine lv_aload_n hx hb dX9_choose_186 rfl (lv_at hl 3 rfl) ?_
                      refine va_get (D := (dC, dI)) (ci := 9) (v := .ref (ad 129 0)) (C := RX9) (T := TX9) (N := 43) hx hb hts iX9_choose_9 hown hK hP 0 atModel rfl 29 (by decide) (hts (.fieldLink RX9 92 "LinkQueuesModel" "counts" "[I") (by decide +kernel)) (fun _ h9 => h9) rfl dX9_choose_187 ?_
                      refine lv_bipush (v := 10) hx hb dX9_choose_190 (by decide) ?_
                      refine lv_iload_n hx hb dX9_choose_192 rfl (lv_at hl 2 rfl) ?_
                      refine lv_imul hx hb dX9_choose_193 ?_
                      refine lv_iconst (v := 5) hx hb dX9_choose_194 (by decide) ?_
                      refine lv_iadd hx hb dX9_choose_195 ?_
                      refine lv_dup2_11 hx hb dX9_choose_196 rfl rfl ?_
                      obtain ⟨hi_11, hwp⟩ := hwp
                      refine va_iald (D := (dC, dI)) hx hb hK hP 24 1 atm29 rfl hi_11 dX9_choose_197 ?_
                      refine lv_iconst (v := 1) hx hb dX9_choose_198 (by decide) ?_
                      refine lv_iadd hx hb dX9_choose_199 ?_
                      obtain ⟨hi_12, hwp⟩ := hwp
                      obtain ⟨s13, e_s13⟩ : ∃ z, z = upI s10 1029 ((10 * (sI z0 1031 (0 : Int32).toNatClampNeg)) + 5).toNatClampNeg ((sI s10 1029 ((10 * (sI z0 1031 (0 : Int32).toNatClampNeg)) + 5).toNatClampNeg) + 1) := ⟨_, rfl⟩
                      refine va_iast (D := (dC, dI)) hx hb hK hP hD hS 24 1 atm29 rfl hi_12 dX9_choose_200 (fun H locs hP hD hS => ?_)
                      rw [stm29, ← e_s13] at hP hD
                      replace hwp := hwp s13 e_s13
                      refine lv_aload_n hx hb dX9_choose_201 rfl (lv_at hl 3 rfl) ?_
                      refine lv_iconst (v := 1) hx hb dX9_choose_202 (by decide) ?_
                      obtain ⟨s14, e_s14⟩ : ∃ z, z = upI s13 1042 0 1 := ⟨_, rfl⟩
                      refine st_put (D := (dC, dI)) (ci := 9) (v := .int 1) (ty := .boolean) (C := RX9) (T := TX9) (N := 43) (ws' := Wm cA ad s14) hx hb hts iX9_choose_9 tyX9 tyX9_ok nmX9 hown hK hP hD hS 0 atModel rfl 42 (by decide) (hts (.fieldLink RX9 174 "LinkQueuesModel" "outMarked" "Z") (by decide +kernel)) (fun _ h9 => h9) rfl (by decide +kernel) rfl rfl (Nat.le_of_ble_eq_true rfl) dX9_choose_203 (by rw [e_s14]; exact stM_42 1) (fun H locs hP hD hS => ?_)
                      replace hwp := hwp s14 e_s14
                      exact J206 s14 hwp _ _ _ hP hD hS (lv_sub hl [0, 2, 3] rfl)
                · replace hwp := hwp.2 c_137
                  refine lv_aload_n hx hb dX9_choose_140 rfl (lv_at hl 3 rfl) ?_
                  refine va_get (D := (dC, dI)) (ci := 9) (v := .ref (ad 129 0)) (C := RX9) (T := TX9) (N := 43) hx hb hts iX9_choose_9 hown hK hP 0 atModel rfl 29 (by decide) (hts (.fieldLink RX9 92 "LinkQueuesModel" "counts" "[I") (by decide +kernel)) (fun _ h9 => h9) rfl dX9_choose_141 ?_
                  refine lv_bipush (v := 10) hx hb dX9_choose_144 (by decide) ?_
                  refine lv_iload_n hx hb dX9_choose_146 rfl (lv_at hl 2 rfl) ?_
                  refine lv_imul hx hb dX9_choose_147 ?_
                  refine lv_iconst (v := 4) hx hb dX9_choose_148 (by decide) ?_
                  refine lv_iadd hx hb dX9_choose_149 ?_
                  refine lv_dup2_11 hx hb dX9_choose_150 rfl rfl ?_
                  obtain ⟨hi_15, hwp⟩ := hwp
                  refine va_iald (D := (dC, dI)) hx hb hK hP 24 1 atm29 rfl hi_15 dX9_choose_151 ?_
                  refine lv_iconst (v := 1) hx hb dX9_choose_152 (by decide) ?_
                  refine lv_iadd hx hb dX9_choose_153 ?_
                  obtain ⟨hi_16, hwp⟩ := hwp
                  obtain ⟨s17, e_s17⟩ : ∃ z, z = upI z135 1029 ((10 * (sI z0 1031 (0 : Int32).toNatClampNeg)) + 4).toNatClampNeg ((sI z135 1029 ((10 * (sI z0 1031 (0 : Int32).toNatClampNeg)) + 4).toNatClampNeg) + 1) := ⟨_, rfl⟩
                  refine va_iast (D := (dC, dI)) hx hb hK hP hD hS 24 1 atm29 rfl hi_16 dX9_choose_154 (fun H locs hP hD hS => ?_)
                  rw [stm29, ← e_s17] at hP hD
                  replace hwp := hwp s17 e_s17
                  refine lv_goto (tgt := 206) hx hb dX9_choose_155 (by decide) ?_
                  exact J206 s17 hwp _ _ _ hP hD hS (lv_sub hl [0, 2, 3] rfl)
              have J134 : ∀ (z134 : ST), wp_X9_choose_J134 y0_118 z0 K (wp_X9_choose_L0 K fu0) (wp_X9_choose_J135 y0_118 z0 K (wp_X9_choose_L0 K fu0)) z134 → ∀ (H : Heap) (locs : List Loc) (ls : Array Slot), va_P (dC, dI) vwCl (Wm cA ad z134) H → va_D A (Wm cA ad z134) → va_S A s.heap H locs → lv_has ls 4 [(2, .int y0_118), (1, .int (sI z0 1031 (0 : Int32).toNatClampNeg)), (0, .ref (ad 9 0))] → W p l e ({ frames := 2, cells := 0, slots := 0, locals := 48 } : Room) s m ([.ref (ad 9 0)] : List Value).toArray below meth c H locs 0 0 (MQ below (va_Qi K (atC dC dI cA (Wm cA ad) A) A) ([.ref (ad 9 0)] : List Value).toArray s 0 0 A) (F0 m 134 ls []) := by
                intro z134 hwp H locs ls hP hD hS hl
                refine lv_iconst (v := 0) hx hb dX9_choose_134 (by decide) ?_
                exact J135 z134 0 hwp _ _ _ hP hD hS (lv_sub hl [0, 1, 2] rfl)
              refine lv_if_eq (tgt := 134) hx hb dX9_choose_120 (by decide) (fun c_120 => ?_) (fun c_120 => ?_)
              · replace hwp := hwp.1 c_120
                exact J134 z118 hwp _ _ _ hP hD hS (lv_sub hl [0, 1, 2] rfl)
              · replace hwp := hwp.2 c_120
                refine lv_aload_n hx hb dX9_choose_123 rfl (lv_at hl 2 rfl) ?_
                refine va_get (D := (dC, dI)) (ci := 9) (v := .int (sI z118 1041 0)) (C := RX9) (T := TX9) (N := 43) hx hb hts iX9_choose_9 hown hK hP 0 atModel rfl 41 (by decide) (hts (.fieldLink RX9 170 "LinkQueuesModel" "outMarkable" "Z") (by decide +kernel)) (fun _ h9 => h9) rfl dX9_choose_124 ?_
                refine lv_if_ne (tgt := 134) hx hb dX9_choose_127 (by decide) (fun c_127 => ?_) (fun c_127 => ?_)
                · replace hwp := hwp.1 c_127
                  exact J134 z118 hwp _ _ _ hP hD hS (lv_sub hl [0, 1, 2] rfl)
                · replace hwp := hwp.2 c_127
                  refine lv_iconst (v := 1) hx hb dX9_choose_130 (by decide) ?_
                  refine lv_goto (tgt := 135) hx hb dX9_choose_131 (by decide) ?_
                  exact J135 z118 1 hwp _ _ _ hP hD hS (lv_sub hl [0, 1, 2] rfl)
            have J117 : ∀ (z117 : ST), wp_X9_choose_J117 z0 K (wp_X9_choose_L0 K fu0) (wp_X9_choose_J118 z0 K (wp_X9_choose_L0 K fu0)) z117 → ∀ (H : Heap) (locs : List Loc) (ls : Array Slot), va_P (dC, dI) vwCl (Wm cA ad z117) H → va_D A (Wm cA ad z117) → va_S A s.heap H locs → lv_has ls 4 [(1, .int (sI z0 1031 (0 : Int32).toNatClampNeg)), (0, .ref (ad 9 0))] → W p l e ({ frames := 2, cells := 0, slots := 0, locals := 48 } : Room) s m ([.ref (ad 9 0)] : List Value).toArray below meth c H locs 0 0 (MQ below (va_Qi K (atC dC dI cA (Wm cA ad) A) A) ([.ref (ad 9 0)] : List Value).toArray s 0 0 A) (F0 m 117 ls []) := by
              intro z117 hwp H locs ls hP hD hS hl
              refine lv_iconst (v := 0) hx hb dX9_choose_117 (by decide) ?_
              exact J118 z117 0 hwp _ _ _ hP hD hS (lv_sub hl [0, 1] rfl)
            refine lv_icmp_ne (tgt := 117) hx hb dX9_choose_102 (by decide) (fun c_102 => ?_) (fun c_102 => ?_)
            · replace hwp := hwp.1 c_102
              exact J117 s4 hwp _ _ _ hP hD hS (lv_sub hl [0, 1] rfl)
            · replace hwp := hwp.2 c_102
              refine lv_aload_n hx hb dX9_choose_105 rfl (lv_at hl 1 rfl) ?_
              refine lv_iload_n hx hb dX9_choose_106 rfl (lv_at hl 0 rfl) ?_
              have hF := fA hD hS hA
              refine va_calli (va_runV (As := [.int (sI z0 1031 (0 : Int32).toNatClampNeg)]) (rest := []) ⟨hx, hb, hml, hown, hts⟩ (c_X9_isHit l dC dI cA ad s4 (sI z0 1031 (0 : Int32).toNatClampNeg) H.size _ hwp) (cwV 1 hts gX9_choose_X9_isHit rfl rfl rfl (by decide +kernel) ⟨Nat.le_of_ble_eq_true rfl, Nat.le_of_ble_eq_true rfl⟩) ⟨fbC, va_recv hK hP (ci := 9) (q0 := 0) rfl atModel, fun U hU hW => ⟨rfl, by rw [hU], by rw [hU]; exact hP, va_K.moved hW.alike hK, hD.weaken (fun _ _ _ _ => trivial)⟩⟩ rfl rfl hl.1 rfl (lv_room (Nat.le_of_ble_eq_true rfl)) dX9_choose_107 ⟨hkc, hks⟩) hS (fun q _ h => hF q h) hF (fun r19 s18 t H1 locs ht hvm hwp hB hz1 hk1 hS => ?_)
              obtain ⟨hP1, hK1, hD1⟩ := hB
              rw [ht] at hP1
              have hD2 := hD1.weaken (fun _ q _ h => hF q.1 h)
              clear hP hD
              have hP := hP1
              have hD := hD2
              clear hP1 hD1 hD2 hK1 hk1 hz1 hF
              generalize H1 = H at hP hS ⊢
              refine lv_if_eq (tgt := 117) hx hb dX9_choose_110 (by decide) (fun c_110 => ?_) (fun c_110 => ?_)
              · replace hwp := hwp.1 c_110
                exact J117 s18 hwp _ _ _ hP hD hS (lv_sub hl [0, 1] rfl)
              · replace hwp := hwp.2 c_110
                refine lv_iconst (v := 1) hx hb dX9_choose_113 (by decide) ?_
                refine lv_goto (tgt := 118) hx hb dX9_choose_114 (by decide) ?_
                exact J118 s18 1 hwp _ _ _ hP hD hS (lv_sub hl [0, 1] rfl)
          · replace hwp := hwp.2 c_60
            refine lv_aload_n hx hb dX9_choose_63 rfl (lv_at hl 1 rfl) ?_
            have hF := fA hD hS hA
            refine va_callv (va_runV (As := []) (rest := []) ⟨hx, hb, hml, hown, hts⟩ (c_X9_leaveRound l dC dI cA ad z45 H.size _ hwp) (cwV 0 hts gX9_choose_X9_leaveRound rfl rfl rfl (by decide +kernel) ⟨Nat.le_of_ble_eq_true rfl, Nat.le_of_ble_eq_true rfl⟩) ⟨fbC, va_recv hK hP (ci := 9) (q0 := 0) rfl atModel, fun U hU hW => ⟨rfl, by rw [hU], by rw [hU]; exact hP, va_K.moved hW.alike hK, hD.weaken (fun _ _ _ _ => trivial)⟩⟩ rfl rfl hl.1 rfl (lv_room (Nat.le_of_ble_eq_true rfl)) dX9_choose_64 ⟨hkc, hks⟩) hS (fun q _ h => hF q h) hF (fun s20 t H1 locs ht hvm hwp hB hz1 hk1 hS => ?_)
            obtain ⟨hP1, hK1, hD1⟩ := hB
            rw [ht] at hP1
            have hD2 := hD1.weaken (fun _ q _ h => hF q.1 h)
            clear hP hD
            have hP := hP1
            have hD := hD2
            clear hP1 hD1 hD2 hK1 hk1 hz1 hF
            generalize H1 = H at hP hS ⊢
            refine lv_aload_n hx hb dX9_choose_67 rfl (lv_at hl 1 rfl) ?_
            refine va_get (D := (dC, dI)) (ci := 9) (v := .ref (ad 131 0)) (C := RX9) (T := TX9) (N := 43) hx hb hts iX9_choose_9 hown hK hP 0 atModel rfl 31 (by decide) (hts (.fieldLink RX9 95 "LinkQueuesModel" "round" "[I") (by decide +kernel)) (fun _ h9 => h9) rfl dX9_choose_68 ?_
            refine lv_aload_n hx hb dX9_choose_71 rfl (lv_at hl 1 rfl) ?_
            refine va_get (D := (dC, dI)) (ci := 9) (v := .int (sI s20 1030 0)) (C := RX9) (T := TX9) (N := 43) hx hb hts iX9_choose_9 hown hK hP 0 atModel rfl 30 (by decide) (hts (.fieldLink RX9 158 "LinkQueuesModel" "roundSize" "I") (by decide +kernel)) (fun _ h9 => h9) rfl dX9_choose_72 ?_
            refine lv_iload_n hx hb dX9_choose_75 rfl (lv_at hl 0 rfl) ?_
            obtain ⟨hi_21, hwp⟩ := hwp
            obtain ⟨s22, e_s22⟩ : ∃ z, z = upI s20 1031 (sI s20 1030 0).toNatClampNeg (sI z0 1031 (0 : Int32).toNatClampNeg) := ⟨_, rfl⟩
            refine va_iast (D := (dC, dI)) hx hb hK hP hD hS 25 1 atm31 rfl hi_21 dX9_choose_76 (fun H locs hP hD hS => ?_)
            rw [stm31, ← e_s22] at hP hD
            replace hwp := hwp s22 e_s22
            refine lv_aload_n hx hb dX9_choose_77 rfl (lv_at hl 1 rfl) ?_
            refine lv_dup hx hb dX9_choose_78 rfl ?_
            refine va_get (D := (dC, dI)) (ci := 9) (v := .int (sI s22 1030 0)) (C := RX9) (T := TX9) (N := 43) hx hb hts iX9_choose_9 hown hK hP 0 atModel rfl 30 (by decide) (hts (.fieldLink RX9 158 "LinkQueuesModel" "roundSize" "I") (by decide +kernel)) (fun _ h9 => h9) rfl dX9_choose_79 ?_
            refine lv_iconst (v := 1) hx hb dX9_choose_82 (by decide) ?_
            refine lv_iadd hx hb dX9_choose_83 ?_
            obtain ⟨s23, e_s23⟩ : ∃ z, z = upI s22 1030 0 ((sI s22 1030 0) + 1) := ⟨_, rfl⟩
            refine st_put (D := (dC, dI)) (ci := 9) (v := .int ((sI s22 1030 0) + 1)) (ty := .int) (C := RX9) (T := TX9) (N := 43) (ws' := Wm cA ad s23) hx hb hts iX9_choose_9 tyX9 tyX9_ok nmX9 hown hK hP hD hS 0 atModel rfl 30 (by decide) (hts (.fieldLink RX9 158 "LinkQueuesModel" "roundSize" "I") (by decide +kernel)) (fun _ h9 => h9) rfl (by decide +kernel) rfl rfl (Nat.le_of_ble_eq_true rfl) dX9_choose_84 (by rw [e_s23]; exact stM_30 ((sI s22 1030 0) + 1)) (fun H locs hP hD hS => ?_)
            replace hwp := hwp s23 e_s23
            refine lv_goto (tgt := 225) hx hb dX9_choose_87 (by decide) ?_
            refine lv_goto (tgt := 0) hx hb dX9_choose_225 (by decide) ?_
            exact ih0 s23 hwp _ _ _ hP hD hS (lv_sub hl [1] rfl)
        refine lv_if_ne (tgt := 45) hx hb dX9_choose_18 (by decide) (fun c_18 => ?_) (fun c_18 => ?_)
        · replace hwp := hwp.1 c_18
          exact J45 z0 hwp _ _ _ hP hD hS (lv_sub hl [0, 1] rfl)
        · replace hwp := hwp.2 c_18
          refine lv_aload_n hx hb dX9_choose_21 rfl (lv_at hl 1 rfl) ?_
          refine lv_iconst (v := 1) hx hb dX9_choose_22 (by decide) ?_
          obtain ⟨s24, e_s24⟩ : ∃ z, z = upI z0 1033 0 1 := ⟨_, rfl⟩
          refine st_put (D := (dC, dI)) (ci := 9) (v := .int 1) (ty := .boolean) (C := RX9) (T := TX9) (N := 43) (ws' := Wm cA ad s24) hx hb hts iX9_choose_9 tyX9 tyX9_ok nmX9 hown hK hP hD hS 0 atModel rfl 33 (by decide) (hts (.fieldLink RX9 185 "LinkQueuesModel" "isTurn" "Z") (by decide +kernel)) (fun _ h9 => h9) rfl (by decide +kernel) rfl rfl (Nat.le_of_ble_eq_true rfl) dX9_choose_23 (by rw [e_s24]; exact stM_33 1) (fun H locs hP hD hS => ?_)
          replace hwp := hwp s24 e_s24
          refine lv_aload_n hx hb dX9_choose_26 rfl (lv_at hl 1 rfl) ?_
          refine va_get (D := (dC, dI)) (ci := 9) (v := .ref (ad 132 0)) (C := RX9) (T := TX9) (N := 43) hx hb hts iX9_choose_9 hown hK hP 0 atModel rfl 32 (by decide) (hts (.fieldLink RX9 98 "LinkQueuesModel" "deficits" "[I") (by decide +kernel)) (fun _ h9 => h9) rfl dX9_choose_27 ?_
          refine lv_iload_n hx hb dX9_choose_30 rfl (lv_at hl 0 rfl) ?_
          refine lv_aload_n hx hb dX9_choose_31 rfl (lv_at hl 1 rfl) ?_
          refine va_get (D := (dC, dI)) (ci := 9) (v := .ref (ad 132 0)) (C := RX9) (T := TX9) (N := 43) hx hb hts iX9_choose_9 hown hK hP 0 atModel rfl 32 (by decide) (hts (.fieldLink RX9 98 "LinkQueuesModel" "deficits" "[I") (by decide +kernel)) (fun _ h9 => h9) rfl dX9_choose_32 ?_
          refine lv_iload_n hx hb dX9_choose_35 rfl (lv_at hl 0 rfl) ?_
          obtain ⟨hi_25, hwp⟩ := hwp
          refine va_iald (D := (dC, dI)) hx hb hK hP 26 1 atm32 rfl hi_25 dX9_choose_36 ?_
          refine lv_aload_n hx hb dX9_choose_37 rfl (lv_at hl 1 rfl) ?_
          refine va_get (D := (dC, dI)) (ci := 9) (v := .ref (ad 107 0)) (C := RX9) (T := TX9) (N := 43) hx hb hts iX9_choose_9 hown hK hP 0 atModel rfl 7 (by decide) (hts (.fieldLink RX9 24 "LinkQueuesModel" "quanta" "[I") (by decide +kernel)) (fun _ h9 => h9) rfl dX9_choose_38 ?_
          refine lv_iload_n hx hb dX9_choose_41 rfl (lv_at hl 0 rfl) ?_
          obtain ⟨hi_26, hwp⟩ := hwp
          refine va_iald (D := (dC, dI)) hx hb hK hP 2 1 atm7 rfl hi_26 dX9_choose_42 ?_
          refine lv_iadd hx hb dX9_choose_43 ?_
          obtain ⟨hi_27, hwp⟩ := hwp
          obtain ⟨s28, e_s28⟩ : ∃ z, z = upI s24 1032 (sI z0 1031 (0 : Int32).toNatClampNeg).toNatClampNeg ((sI s24 1032 (sI z0 1031 (0 : Int32).toNatClampNeg).toNatClampNeg) + (sI s24 1007 (sI z0 1031 (0 : Int32).toNatClampNeg).toNatClampNeg)) := ⟨_, rfl⟩
          refine va_iast (D := (dC, dI)) hx hb hK hP hD hS 26 1 atm32 rfl hi_27 dX9_choose_44 (fun H locs hP hD hS => ?_)
          rw [stm32, ← e_s28] at hP hD
          replace hwp := hwp s28 e_s28
          exact J45 s28 hwp _ _ _ hP hD hS (lv_sub hl [0, 1] rfl)
  exact L0 n0 σ hwp _ _ _ hP hD hS (lv_sub hl [0] rfl)
def wp_X9_send_L67 (a1 : Int32) (K : ST → Prop) : Nat → ST → Int32 → Prop
  | 0 => fun _ _ => False
  | fu67 + 1 => fun z67 x2_67 => ((x2_67 < 5 → (vp_in 0 160 ∧
∀ s9, s9 = upI z67 1037 (0 : Int32).toNatClampNeg (sI z67 1038 0) →
vp_in 1 160 ∧
∀ s11, s11 = upI s9 1037 (1 : Int32).toNatClampNeg a1 →
vp_in 2 160 ∧
∀ s13, s13 = upI s11 1037 (2 : Int32).toNatClampNeg (sI s11 1039 0) →
vp_in 3 160 ∧
∀ s15, s15 = upI s13 1037 (3 : Int32).toNatClampNeg ((sI s13 1001 0) - (sI s13 1040 0)) →
(((sI s15 1042 0) = 0 → (vp_in 4 160 ∧
∀ s17, s17 = upI s15 1037 (4 : Int32).toNatClampNeg 0 →
((32 ≤ (sI s17 1036 0) → (∀ s18, s18 = upI s17 1036 0 32 →
K s18)) ∧ (¬ (32 ≤ (sI s17 1036 0)) → (∀ s19, s19 = upI s17 1036 0 ((sI s17 1036 0) + 1) →
K s19))))) ∧ (¬ ((sI s15 1042 0) = 0) → (vp_in 4 160 ∧
∀ s21, s21 = upI s15 1037 (4 : Int32).toNatClampNeg 1 →
((32 ≤ (sI s21 1036 0) → (∀ s22, s22 = upI s21 1036 0 32 →
K s22)) ∧ (¬ (32 ≤ (sI s21 1036 0)) → (∀ s23, s23 = upI s21 1036 0 ((sI s21 1036 0) + 1) →
K s23)))))))) ∧ (¬ (x2_67 < 5) → (vp_in (x2_67 - 5) 160 ∧
vp_in x2_67 160 ∧
∀ s26, s26 = upI z67 1037 x2_67.toNatClampNeg (sI z67 1037 (x2_67 - 5).toNatClampNeg) →
wp_X9_send_L67 a1 K fu67 s26 (x2_67 + (-1)))))
def wp_X9_send (σ : ST) (a1 : Int32) (K : ST → Prop) : Prop := vp_in ((10 * a1) + 1) 60 ∧
vp_in ((10 * a1) + 1) 60 ∧
∀ s3, s3 = upI σ 1029 ((10 * a1) + 1).toNatClampNeg ((sI σ 1029 ((10 * a1) + 1).toNatClampNeg) + 1) →
vp_in ((10 * a1) + 8) 60 ∧
vp_in ((10 * a1) + 8) 60 ∧
∀ s6, s6 = upI s3 1029 ((10 * a1) + 8).toNatClampNeg ((sI s3 1029 ((10 * a1) + 8).toNatClampNeg) + (sI s3 1039 0)) →
vf_n64 (FP.ddiv (FP.i2d (sI s6 1039 0)) (sD s6 1003 0)) ∧
vf_n64 (FP.dadd (sD s6 1005 0) (FP.ddiv (FP.i2d (sI s6 1039 0)) (sD s6 1003 0))) ∧
∀ s7, s7 = upD s6 1005 0 (FP.dadd (sD s6 1005 0) (FP.ddiv (FP.i2d (sI s6 1039 0)) (sD s6 1003 0))) →
∃ n67, wp_X9_send_L67 a1 K n67 s7 159
set_option maxRecDepth 20000 in
theorem iX9_send_9 : ∀ w ∈ wsX90, w ∈ wsX9_send := by decide +kernel
set_option maxHeartbeats 8000000 in
set_option maxRecDepth 100000 in
theorem c_X9_send (l : Launch) (dC : Nat → ClassId) (dI : Nat → Nat → Nat) (cA : Nat → ClassId) (ad : Nat → Nat → Nat) (σ : ST) (a1 : Int32) (sz : Nat) (K : ST → Prop) (hwp : wp_X9_send σ a1 K) : Met l yX9_send wsX9_send ({ frames := 0, cells := 0, slots := 0, locals := 0 } : Room) (va_Pc [.ref (ad 9 0), .int a1] (preC dC dI cA (Wm cA ad σ) sz)) (va_Qv K (atC dC dI cA (Wm cA ad) (va_A (Wm cA ad σ) sz)) (va_A (Wm cA ad σ) sz)) 0 0 (va_A (Wm cA ad σ) sz) := by
  refine Met.ofW (cc := cX9_send) (maxL := 3) (ret := none) (by decide) rfl ?_
  intro p e s m args below meth c s₁ B hml hv
  obtain ⟨rfl, hsz, hP, hK, hD0⟩ := hv
  have hx := B.exec
  have hb := B.bytes
  have hr := B.returns
  have hts := atoms_spec (ws := wsX9_send) B.pre
  have hown : s.vm.findClass RX9 = some m.cls := findClass_of_methodNamed B.named
  have hlocks := B.notSynchronized
  subst hsz
  have hD := hD0.self (sz := s.heap.size)
  clear hD0
  generalize hAe : va_A (Wm cA ad σ) s.heap.size = A at hD ⊢
  have hA : ∀ q : Nat, s.heap.size ≤ q → A q := fun q h => by rw [← hAe]; exact Or.inr h
  have hS : va_S A s.heap s.heap [] := va_S.rf
  have hkc : 0 ≤ 0 := Nat.le_refl 0
  have hks : 0 ≤ 0 := Nat.le_refl 0
  have hl := lv_entry ([.ref (ad 9 0), .int a1]) (n := 3) (Nat.le_of_ble_eq_true rfl)
  rw [lg_entry_eq]
  generalize (lg_sl ([.ref (ad 9 0), .int a1]) ++ List.replicate (3 - (lg_sl ([.ref (ad 9 0), .int a1])).length) Slot.unset).toArray = ls at hl ⊢
  have hl : lv_has ls 3 [(0, .ref (ad 9 0)), (1, .int a1)] := hl
  unfold wp_X9_send at hwp
  generalize hHe : s.heap = H at hP ⊢
  have hS : va_S A s.heap H [] := by rw [← hHe]; exact va_S.rf
  clear hHe
  refine lv_aload_n hx hb dX9_send_0 rfl (lv_at hl 0 rfl) ?_
  refine va_get (D := (dC, dI)) (ci := 9) (v := .ref (ad 129 0)) (C := RX9) (T := TX9) (N := 43) hx hb hts iX9_send_9 hown hK hP 0 atModel rfl 29 (by decide) (hts (.fieldLink RX9 92 "LinkQueuesModel" "counts" "[I") (by decide +kernel)) (fun _ h9 => h9) rfl dX9_send_1 ?_
  refine lv_bipush (v := 10) hx hb dX9_send_4 (by decide) ?_
  refine lv_iload_n hx hb dX9_send_6 rfl (lv_at hl 1 rfl) ?_
  refine lv_imul hx hb dX9_send_7 ?_
  refine lv_iconst (v := 1) hx hb dX9_send_8 (by decide) ?_
  refine lv_iadd hx hb dX9_send_9 ?_
  refine lv_dup2_11 hx hb dX9_send_10 rfl rfl ?_
  obtain ⟨hi_1, hwp⟩ := hwp
  refine va_iald (D := (dC, dI)) hx hb hK hP 24 1 atm29 rfl hi_1 dX9_send_11 ?_
  refine lv_iconst (v := 1) hx hb dX9_send_12 (by decide) ?_
  refine lv_iadd hx hb dX9_send_13 ?_
  obtain ⟨hi_2, hwp⟩ := hwp
  obtain ⟨s3, e_s3⟩ : ∃ z, z = upI σ 1029 ((10 * a1) + 1).toNatClampNeg ((sI σ 1029 ((10 * a1) + 1).toNatClampNeg) + 1) := ⟨_, rfl⟩
  refine va_iast (D := (dC, dI)) hx hb hK hP hD hS 24 1 atm29 rfl hi_2 dX9_send_14 (fun H locs hP hD hS => ?_)
  rw [stm29, ← e_s3] at hP hD
  replace hwp := hwp s3 e_s3
  refine lv_aload_n hx hb dX9_send_15 rfl (lv_at hl 0 rfl) ?_
  refine va_get (D := (dC, dI)) (ci := 9) (v := .ref (ad 129 0)) (C := RX9) (T := TX9) (N := 43) hx hb hts iX9_send_9 hown hK hP 0 atModel rfl 29 (by decide) (hts (.fieldLink RX9 92 "LinkQueuesModel" "counts" "[I") (by decide +kernel)) (fun _ h9 => h9) rfl dX9_send_16 ?_
  refine lv_bipush (v := 10) hx hb dX9_send_19 (by decide) ?_
  refine lv_iload_n hx hb dX9_send_21 rfl (lv_at hl 1 rfl) ?_
  refine lv_imul hx hb dX9_send_22 ?_
  refine lv_bipush (v := 8) hx hb dX9_send_23 (by decide) ?_
  refine lv_iadd hx hb dX9_send_25 ?_
  refine lv_aload_n hx hb dX9_send_26 rfl (lv_at hl 0 rfl) ?_
  refine va_get (D := (dC, dI)) (ci := 9) (v := .ref (ad 129 0)) (C := RX9) (T := TX9) (N := 43) hx hb hts iX9_send_9 hown hK hP 0 atModel rfl 29 (by decide) (hts (.fieldLink RX9 92 "LinkQueuesModel" "counts" "[I") (by decide +kernel)) (fun _ h9 => h9) rfl dX9_send_27 ?_
  refine lv_bipush (v := 10) hx hb dX9_send_30 (by decide) ?_
  refine lv_iload_n hx hb dX9_send_32 rfl (lv_at hl 1 rfl) ?_
  refine lv_imul hx hb dX9_send_33 ?_
  refine lv_bipush (v := 8) hx hb dX9_send_34 (by decide) ?_
  refine lv_iadd hx hb dX9_send_36 ?_
  obtain ⟨hi_4, hwp⟩ := hwp
  refine va_iald (D := (dC, dI)) hx hb hK hP 24 1 atm29 rfl hi_4 dX9_send_37 ?_
  refine lv_aload_n hx hb dX9_send_38 rfl (lv_at hl 0 rfl) ?_
  refine va_get (D := (dC, dI)) (ci := 9) (v := .int (sI s3 1039 0)) (C := RX9) (T := TX9) (N := 43) hx hb hts iX9_send_9 hown hK hP 0 atModel rfl 39 (by decide) (hts (.fieldLink RX9 164 "LinkQueuesModel" "outBytes" "I") (by decide +kernel)) (fun _ h9 => h9) rfl dX9_send_39 ?_
  refine lv_iadd hx hb dX9_send_42 ?_
  obtain ⟨hi_5, hwp⟩ := hwp
  obtain ⟨s6, e_s6⟩ : ∃ z, z = upI s3 1029 ((10 * a1) + 8).toNatClampNeg ((sI s3 1029 ((10 * a1) + 8).toNatClampNeg) + (sI s3 1039 0)) := ⟨_, rfl⟩
  refine va_iast (D := (dC, dI)) hx hb hK hP hD hS 24 1 atm29 rfl hi_5 dX9_send_43 (fun H locs hP hD hS => ?_)
  rw [stm29, ← e_s6] at hP hD
  replace hwp := hwp s6 e_s6
  refine lv_aload_n hx hb dX9_send_44 rfl (lv_at hl 0 rfl) ?_
  refine lv_aload_n hx hb dX9_send_45 rfl (lv_at hl 0 rfl) ?_
  refine va_get (D := (dC, dI)) (ci := 9) (v := .double (sD s6 1005 0)) (C := RX9) (T := TX9) (N := 43) hx hb hts iX9_send_9 hown hK hP 0 atModel rfl 5 (by decide) (hts (.fieldLink RX9 198 "LinkQueuesModel" "free" "D") (by decide +kernel)) (fun _ h9 => h9) rfl dX9_send_46 ?_
  refine lv_aload_n hx hb dX9_send_49 rfl (lv_at hl 0 rfl) ?_
  refine va_get (D := (dC, dI)) (ci := 9) (v := .int (sI s6 1039 0)) (C := RX9) (T := TX9) (N := 43) hx hb hts iX9_send_9 hown hK hP 0 atModel rfl 39 (by decide) (hts (.fieldLink RX9 164 "LinkQueuesModel" "outBytes" "I") (by decide +kernel)) (fun _ h9 => h9) rfl dX9_send_50 ?_
  refine lv_i2d hx hb dX9_send_53 ?_
  refine lv_aload_n hx hb dX9_send_54 rfl (lv_at hl 0 rfl) ?_
  refine va_get (D := (dC, dI)) (ci := 9) (v := .double (sD s6 1003 0)) (C := RX9) (T := TX9) (N := 43) hx hb hts iX9_send_9 hown hK hP 0 atModel rfl 3 (by decide) (hts (.fieldLink RX9 9 "LinkQueuesModel" "rate" "D") (by decide +kernel)) (fun _ h9 => h9) rfl dX9_send_55 ?_
  refine lv_ddiv hx hb dX9_send_58 hwp.1 ?_
  replace hwp := hwp.2
  refine lv_dadd hx hb dX9_send_59 hwp.1 ?_
  replace hwp := hwp.2
  obtain ⟨s7, e_s7⟩ : ∃ z, z = upD s6 1005 0 (FP.dadd (sD s6 1005 0) (FP.ddiv (FP.i2d (sI s6 1039 0)) (sD s6 1003 0))) := ⟨_, rfl⟩
  refine st_put (D := (dC, dI)) (ci := 9) (v := .double (FP.dadd (sD s6 1005 0) (FP.ddiv (FP.i2d (sI s6 1039 0)) (sD s6 1003 0)))) (ty := .double) (C := RX9) (T := TX9) (N := 43) (ws' := Wm cA ad s7) hx hb hts iX9_send_9 tyX9 tyX9_ok nmX9 hown hK hP hD hS 0 atModel rfl 5 (by decide) (hts (.fieldLink RX9 198 "LinkQueuesModel" "free" "D") (by decide +kernel)) (fun _ h9 => h9) rfl (by decide +kernel) rfl rfl (Nat.le_of_ble_eq_true rfl) dX9_send_60 (by rw [e_s7]; exact stM_5 (FP.dadd (sD s6 1005 0) (FP.ddiv (FP.i2d (sI s6 1039 0)) (sD s6 1003 0)))) (fun H locs hP hD hS => ?_)
  replace hwp := hwp s7 e_s7
  refine lv_sipush (v := 159) hx hb dX9_send_63 (by decide) ?_
  refine lv_istore_n (lv' := [(2, .int 159), (0, .ref (ad 9 0)), (1, .int a1)]) hx hb dX9_send_66 rfl hl (by decide) rfl (fun ls hl => ?_)
  obtain ⟨n67, hwp⟩ := hwp
  have L67 : ∀ (fu67 : Nat) (z67 : ST) (x2_67 : Int32), wp_X9_send_L67 a1 K fu67 z67 x2_67 → ∀ (H : Heap) (locs : List Loc) (ls : Array Slot), va_P (dC, dI) vwCl (Wm cA ad z67) H → va_D A (Wm cA ad z67) → va_S A s.heap H locs → lv_has ls 3 [(2, .int x2_67), (0, .ref (ad 9 0)), (1, .int a1)] → W p l e ({ frames := 0, cells := 0, slots := 0, locals := 0 } : Room) s m ([.ref (ad 9 0), .int a1] : List Value).toArray below meth c H locs 0 0 (MQ below (va_Qv K (atC dC dI cA (Wm cA ad) A) A) ([.ref (ad 9 0), .int a1] : List Value).toArray s 0 0 A) (F0 m 67 ls []) := by
    intro fu67
    induction fu67 with
    | zero => intro z67 x2_67 h; exact h.elim
    | succ fu67 ih67 =>
      intro z67 x2_67 hwp H locs ls hP hD hS hl
      refine lv_iload_n hx hb dX9_send_67 rfl (lv_at hl 0 rfl) ?_
      refine lv_iconst (v := 5) hx hb dX9_send_68 (by decide) ?_
      refine lv_icmp_lt (tgt := 92) hx hb dX9_send_69 (by decide) (fun c_69 => ?_) (fun c_69 => ?_)
      · replace hwp := hwp.1 c_69
        refine lv_aload_n hx hb dX9_send_92 rfl (lv_at hl 1 rfl) ?_
        refine va_get (D := (dC, dI)) (ci := 9) (v := .ref (ad 137 0)) (C := RX9) (T := TX9) (N := 43) hx hb hts iX9_send_9 hown hK hP 0 atModel rfl 37 (by decide) (hts (.fieldLink RX9 104 "LinkQueuesModel" "sentOf" "[I") (by decide +kernel)) (fun _ h9 => h9) rfl dX9_send_93 ?_
        refine lv_iconst (v := 0) hx hb dX9_send_96 (by decide) ?_
        refine lv_aload_n hx hb dX9_send_97 rfl (lv_at hl 1 rfl) ?_
        refine va_get (D := (dC, dI)) (ci := 9) (v := .int (sI z67 1038 0)) (C := RX9) (T := TX9) (N := 43) hx hb hts iX9_send_9 hown hK hP 0 atModel rfl 38 (by decide) (hts (.fieldLink RX9 161 "LinkQueuesModel" "outNumber" "I") (by decide +kernel)) (fun _ h9 => h9) rfl dX9_send_98 ?_
        obtain ⟨hi_8, hwp⟩ := hwp
        obtain ⟨s9, e_s9⟩ : ∃ z, z = upI z67 1037 (0 : Int32).toNatClampNeg (sI z67 1038 0) := ⟨_, rfl⟩
        refine va_iast (D := (dC, dI)) hx hb hK hP hD hS 28 1 atm37 rfl hi_8 dX9_send_101 (fun H locs hP hD hS => ?_)
        rw [stm37, ← e_s9] at hP hD
        replace hwp := hwp s9 e_s9
        refine lv_aload_n hx hb dX9_send_102 rfl (lv_at hl 1 rfl) ?_
        refine va_get (D := (dC, dI)) (ci := 9) (v := .ref (ad 137 0)) (C := RX9) (T := TX9) (N := 43) hx hb hts iX9_send_9 hown hK hP 0 atModel rfl 37 (by decide) (hts (.fieldLink RX9 104 "LinkQueuesModel" "sentOf" "[I") (by decide +kernel)) (fun _ h9 => h9) rfl dX9_send_103 ?_
        refine lv_iconst (v := 1) hx hb dX9_send_106 (by decide) ?_
        refine lv_iload_n hx hb dX9_send_107 rfl (lv_at hl 2 rfl) ?_
        obtain ⟨hi_10, hwp⟩ := hwp
        obtain ⟨s11, e_s11⟩ : ∃ z, z = upI s9 1037 (1 : Int32).toNatClampNeg a1 := ⟨_, rfl⟩
        refine va_iast (D := (dC, dI)) hx hb hK hP hD hS 28 1 atm37 rfl hi_10 dX9_send_108 (fun H locs hP hD hS => ?_)
        rw [stm37, ← e_s11] at hP hD
        replace hwp := hwp s11 e_s11
        refine lv_aload_n hx hb dX9_send_109 rfl (lv_at hl 1 rfl) ?_
        refine va_get (D := (dC, dI)) (ci := 9) (v := .ref (ad 137 0)) (C := RX9) (T := TX9) (N := 43) hx hb hts iX9_send_9 hown hK hP 0 atModel rfl 37 (by decide) (hts (.fieldLink RX9 104 "LinkQueuesModel" "sentOf" "[I") (by decide +kernel)) (fun _ h9 => h9) rfl dX9_send_110 ?_
        refine lv_iconst (v := 2) hx hb dX9_send_113 (by decide) ?_
        refine lv_aload_n hx hb dX9_send_114 rfl (lv_at hl 1 rfl) ?_
        refine va_get (D := (dC, dI)) (ci := 9) (v := .int (sI s11 1039 0)) (C := RX9) (T := TX9) (N := 43) hx hb hts iX9_send_9 hown hK hP 0 atModel rfl 39 (by decide) (hts (.fieldLink RX9 164 "LinkQueuesModel" "outBytes" "I") (by decide +kernel)) (fun _ h9 => h9) rfl dX9_send_115 ?_
        obtain ⟨hi_12, hwp⟩ := hwp
        obtain ⟨s13, e_s13⟩ : ∃ z, z = upI s11 1037 (2 : Int32).toNatClampNeg (sI s11 1039 0) := ⟨_, rfl⟩
        refine va_iast (D := (dC, dI)) hx hb hK hP hD hS 28 1 atm37 rfl hi_12 dX9_send_118 (fun H locs hP hD hS => ?_)
        rw [stm37, ← e_s13] at hP hD
        replace hwp := hwp s13 e_s13
        refine lv_aload_n hx hb dX9_send_119 rfl (lv_at hl 1 rfl) ?_
        refine va_get (D := (dC, dI)) (ci := 9) (v := .ref (ad 137 0)) (C := RX9) (T := TX9) (N := 43) hx hb hts iX9_send_9 hown hK hP 0 atModel rfl 37 (by decide) (hts (.fieldLink RX9 104 "LinkQueuesModel" "sentOf" "[I") (by decide +kernel)) (fun _ h9 => h9) rfl dX9_send_120 ?_
        refine lv_iconst (v := 3) hx hb dX9_send_123 (by decide) ?_
        refine lv_aload_n hx hb dX9_send_124 rfl (lv_at hl 1 rfl) ?_
        refine va_get (D := (dC, dI)) (ci := 9) (v := .int (sI s13 1001 0)) (C := RX9) (T := TX9) (N := 43) hx hb hts iX9_send_9 hown hK hP 0 atModel rfl 1 (by decide) (hts (.fieldLink RX9 126 "LinkQueuesModel" "now" "I") (by decide +kernel)) (fun _ h9 => h9) rfl dX9_send_125 ?_
        refine lv_aload_n hx hb dX9_send_128 rfl (lv_at hl 1 rfl) ?_
        refine va_get (D := (dC, dI)) (ci := 9) (v := .int (sI s13 1040 0)) (C := RX9) (T := TX9) (N := 43) hx hb hts iX9_send_9 hown hK hP 0 atModel rfl 40 (by decide) (hts (.fieldLink RX9 167 "LinkQueuesModel" "outTime" "I") (by decide +kernel)) (fun _ h9 => h9) rfl dX9_send_129 ?_
        refine lv_isub hx hb dX9_send_132 ?_
        obtain ⟨hi_14, hwp⟩ := hwp
        obtain ⟨s15, e_s15⟩ : ∃ z, z = upI s13 1037 (3 : Int32).toNatClampNeg ((sI s13 1001 0) - (sI s13 1040 0)) := ⟨_, rfl⟩
        refine va_iast (D := (dC, dI)) hx hb hK hP hD hS 28 1 atm37 rfl hi_14 dX9_send_133 (fun H locs hP hD hS => ?_)
        rw [stm37, ← e_s15] at hP hD
        replace hwp := hwp s15 e_s15
        refine lv_aload_n hx hb dX9_send_134 rfl (lv_at hl 1 rfl) ?_
        refine va_get (D := (dC, dI)) (ci := 9) (v := .ref (ad 137 0)) (C := RX9) (T := TX9) (N := 43) hx hb hts iX9_send_9 hown hK hP 0 atModel rfl 37 (by decide) (hts (.fieldLink RX9 104 "LinkQueuesModel" "sentOf" "[I") (by decide +kernel)) (fun _ h9 => h9) rfl dX9_send_135 ?_
        refine lv_iconst (v := 4) hx hb dX9_send_138 (by decide) ?_
        refine lv_aload_n hx hb dX9_send_139 rfl (lv_at hl 1 rfl) ?_
        refine va_get (D := (dC, dI)) (ci := 9) (v := .int (sI s15 1042 0)) (C := RX9) (T := TX9) (N := 43) hx hb hts iX9_send_9 hown hK hP 0 atModel rfl 42 (by decide) (hts (.fieldLink RX9 174 "LinkQueuesModel" "outMarked" "Z") (by decide +kernel)) (fun _ h9 => h9) rfl dX9_send_140 ?_
        refine lv_if_eq (tgt := 150) hx hb dX9_send_143 (by decide) (fun c_143 => ?_) (fun c_143 => ?_)
        · replace hwp := hwp.1 c_143
          refine lv_iconst (v := 0) hx hb dX9_send_150 (by decide) ?_
          obtain ⟨hi_16, hwp⟩ := hwp
          obtain ⟨s17, e_s17⟩ : ∃ z, z = upI s15 1037 (4 : Int32).toNatClampNeg 0 := ⟨_, rfl⟩
          refine va_iast (D := (dC, dI)) hx hb hK hP hD hS 28 1 atm37 rfl hi_16 dX9_send_151 (fun H locs hP hD hS => ?_)
          rw [stm37, ← e_s17] at hP hD
          replace hwp := hwp s17 e_s17
          refine lv_aload_n hx hb dX9_send_152 rfl (lv_at hl 1 rfl) ?_
          refine lv_aload_n hx hb dX9_send_153 rfl (lv_at hl 1 rfl) ?_
          refine va_get (D := (dC, dI)) (ci := 9) (v := .int (sI s17 1036 0)) (C := RX9) (T := TX9) (N := 43) hx hb hts iX9_send_9 hown hK hP 0 atModel rfl 36 (by decide) (hts (.fieldLink RX9 201 "LinkQueuesModel" "sentSize" "I") (by decide +kernel)) (fun _ h9 => h9) rfl dX9_send_154 ?_
          refine lv_bipush (v := 32) hx hb dX9_send_157 (by decide) ?_
          refine lv_icmp_ge (tgt := 171) hx hb dX9_send_159 (by decide) (fun c_159 => ?_) (fun c_159 => ?_)
          · replace hwp := hwp.1 c_159
            refine lv_bipush (v := 32) hx hb dX9_send_171 (by decide) ?_
            obtain ⟨s18, e_s18⟩ : ∃ z, z = upI s17 1036 0 32 := ⟨_, rfl⟩
            refine st_put (D := (dC, dI)) (ci := 9) (v := .int 32) (ty := .int) (C := RX9) (T := TX9) (N := 43) (ws' := Wm cA ad s18) hx hb hts iX9_send_9 tyX9 tyX9_ok nmX9 hown hK hP hD hS 0 atModel rfl 36 (by decide) (hts (.fieldLink RX9 201 "LinkQueuesModel" "sentSize" "I") (by decide +kernel)) (fun _ h9 => h9) rfl (by decide +kernel) rfl rfl (Nat.le_of_ble_eq_true rfl) dX9_send_173 (by rw [e_s18]; exact stM_36 32) (fun H locs hP hD hS => ?_)
            replace hwp := hwp s18 e_s18
            exact W.vret hx hb hr (fun t ht hW => ⟨⟨s18, rfl, hwp, by rw [ht]; exact hP, va_K.moved hW.alike hK, hD⟩, hS.F ht⟩) hS.2.2 dX9_send_176
          · replace hwp := hwp.2 c_159
            refine lv_aload_n hx hb dX9_send_162 rfl (lv_at hl 1 rfl) ?_
            refine va_get (D := (dC, dI)) (ci := 9) (v := .int (sI s17 1036 0)) (C := RX9) (T := TX9) (N := 43) hx hb hts iX9_send_9 hown hK hP 0 atModel rfl 36 (by decide) (hts (.fieldLink RX9 201 "LinkQueuesModel" "sentSize" "I") (by decide +kernel)) (fun _ h9 => h9) rfl dX9_send_163 ?_
            refine lv_iconst (v := 1) hx hb dX9_send_166 (by decide) ?_
            refine lv_iadd hx hb dX9_send_167 ?_
            refine lv_goto (tgt := 173) hx hb dX9_send_168 (by decide) ?_
            obtain ⟨s19, e_s19⟩ : ∃ z, z = upI s17 1036 0 ((sI s17 1036 0) + 1) := ⟨_, rfl⟩
            refine st_put (D := (dC, dI)) (ci := 9) (v := .int ((sI s17 1036 0) + 1)) (ty := .int) (C := RX9) (T := TX9) (N := 43) (ws' := Wm cA ad s19) hx hb hts iX9_send_9 tyX9 tyX9_ok nmX9 hown hK hP hD hS 0 atModel rfl 36 (by decide) (hts (.fieldLink RX9 201 "LinkQueuesModel" "sentSize" "I") (by decide +kernel)) (fun _ h9 => h9) rfl (by decide +kernel) rfl rfl (Nat.le_of_ble_eq_true rfl) dX9_send_173 (by rw [e_s19]; exact stM_36 ((sI s17 1036 0) + 1)) (fun H locs hP hD hS => ?_)
            replace hwp := hwp s19 e_s19
            exact W.vret hx hb hr (fun t ht hW => ⟨⟨s19, rfl, hwp, by rw [ht]; exact hP, va_K.moved hW.alike hK, hD⟩, hS.F ht⟩) hS.2.2 dX9_send_176
        · replace hwp := hwp.2 c_143
          refine lv_iconst (v := 1) hx hb dX9_send_146 (by decide) ?_
          refine lv_goto (tgt := 151) hx hb dX9_send_147 (by decide) ?_
          obtain ⟨hi_20, hwp⟩ := hwp
          obtain ⟨s21, e_s21⟩ : ∃ z, z = upI s15 1037 (4 : Int32).toNatClampNeg 1 := ⟨_, rfl⟩
          refine va_iast (D := (dC, dI)) hx hb hK hP hD hS 28 1 atm37 rfl hi_20 dX9_send_151 (fun H locs hP hD hS => ?_)
          rw [stm37, ← e_s21] at hP hD
          replace hwp := hwp s21 e_s21
          refine lv_aload_n hx hb dX9_send_152 rfl (lv_at hl 1 rfl) ?_
          refine lv_aload_n hx hb dX9_send_153 rfl (lv_at hl 1 rfl) ?_
          refine va_get (D := (dC, dI)) (ci := 9) (v := .int (sI s21 1036 0)) (C := RX9) (T := TX9) (N := 43) hx hb hts iX9_send_9 hown hK hP 0 atModel rfl 36 (by decide) (hts (.fieldLink RX9 201 "LinkQueuesModel" "sentSize" "I") (by decide +kernel)) (fun _ h9 => h9) rfl dX9_send_154 ?_
          refine lv_bipush (v := 32) hx hb dX9_send_157 (by decide) ?_
          refine lv_icmp_ge (tgt := 171) hx hb dX9_send_159 (by decide) (fun c_159 => ?_) (fun c_159 => ?_)
          · replace hwp := hwp.1 c_159
            refine lv_bipush (v := 32) hx hb dX9_send_171 (by decide) ?_
            obtain ⟨s22, e_s22⟩ : ∃ z, z = upI s21 1036 0 32 := ⟨_, rfl⟩
            refine st_put (D := (dC, dI)) (ci := 9) (v := .int 32) (ty := .int) (C := RX9) (T := TX9) (N := 43) (ws' := Wm cA ad s22) hx hb hts iX9_send_9 tyX9 tyX9_ok nmX9 hown hK hP hD hS 0 atModel rfl 36 (by decide) (hts (.fieldLink RX9 201 "LinkQueuesModel" "sentSize" "I") (by decide +kernel)) (fun _ h9 => h9) rfl (by decide +kernel) rfl rfl (Nat.le_of_ble_eq_true rfl) dX9_send_173 (by rw [e_s22]; exact stM_36 32) (fun H locs hP hD hS => ?_)
            replace hwp := hwp s22 e_s22
            exact W.vret hx hb hr (fun t ht hW => ⟨⟨s22, rfl, hwp, by rw [ht]; exact hP, va_K.moved hW.alike hK, hD⟩, hS.F ht⟩) hS.2.2 dX9_send_176
          · replace hwp := hwp.2 c_159
            refine lv_aload_n hx hb dX9_send_162 rfl (lv_at hl 1 rfl) ?_
            refine va_get (D := (dC, dI)) (ci := 9) (v := .int (sI s21 1036 0)) (C := RX9) (T := TX9) (N := 43) hx hb hts iX9_send_9 hown hK hP 0 atModel rfl 36 (by decide) (hts (.fieldLink RX9 201 "LinkQueuesModel" "sentSize" "I") (by decide +kernel)) (fun _ h9 => h9) rfl dX9_send_163 ?_
            refine lv_iconst (v := 1) hx hb dX9_send_166 (by decide) ?_
            refine lv_iadd hx hb dX9_send_167 ?_
            refine lv_goto (tgt := 173) hx hb dX9_send_168 (by decide) ?_
            obtain ⟨s23, e_s23⟩ : ∃ z, z = upI s21 1036 0 ((sI s21 1036 0) + 1) := ⟨_, rfl⟩
            refine st_put (D := (dC, dI)) (ci := 9) (v := .int ((sI s21 1036 0) + 1)) (ty := .int) (C := RX9) (T := TX9) (N := 43) (ws' := Wm cA ad s23) hx hb hts iX9_send_9 tyX9 tyX9_ok nmX9 hown hK hP hD hS 0 atModel rfl 36 (by decide) (hts (.fieldLink RX9 201 "LinkQueuesModel" "sentSize" "I") (by decide +kernel)) (fun _ h9 => h9) rfl (by decide +kernel) rfl rfl (Nat.le_of_ble_eq_true rfl) dX9_send_173 (by rw [e_s23]; exact stM_36 ((sI s21 1036 0) + 1)) (fun H locs hP hD hS => ?_)
            replace hwp := hwp s23 e_s23
            exact W.vret hx hb hr (fun t ht hW => ⟨⟨s23, rfl, hwp, by rw [ht]; exact hP, va_K.moved hW.alike hK, hD⟩, hS.F ht⟩) hS.2.2 dX9_send_176
      · replace hwp := hwp.2 c_69
        refine lv_aload_n hx hb dX9_send_72 rfl (lv_at hl 1 rfl) ?_
        refine va_get (D := (dC, dI)) (ci := 9) (v := .ref (ad 137 0)) (C := RX9) (T := TX9) (N := 43) hx hb hts iX9_send_9 hown hK hP 0 atModel rfl 37 (by decide) (hts (.fieldLink RX9 104 "LinkQueuesModel" "sentOf" "[I") (by decide +kernel)) (fun _ h9 => h9) rfl dX9_send_73 ?_
        refine lv_iload_n hx hb dX9_send_76 rfl (lv_at hl 0 rfl) ?_
        refine lv_aload_n hx hb dX9_send_77 rfl (lv_at hl 1 rfl) ?_
        refine va_get (D := (dC, dI)) (ci := 9) (v := .ref (ad 137 0)) (C := RX9) (T := TX9) (N := 43) hx hb hts iX9_send_9 hown hK hP 0 atModel rfl 37 (by decide) (hts (.fieldLink RX9 104 "LinkQueuesModel" "sentOf" "[I") (by decide +kernel)) (fun _ h9 => h9) rfl dX9_send_78 ?_
        refine lv_iload_n hx hb dX9_send_81 rfl (lv_at hl 0 rfl) ?_
        refine lv_iconst (v := 5) hx hb dX9_send_82 (by decide) ?_
        refine lv_isub hx hb dX9_send_83 ?_
        obtain ⟨hi_24, hwp⟩ := hwp
        refine va_iald (D := (dC, dI)) hx hb hK hP 28 1 atm37 rfl hi_24 dX9_send_84 ?_
        obtain ⟨hi_25, hwp⟩ := hwp
        obtain ⟨s26, e_s26⟩ : ∃ z, z = upI z67 1037 x2_67.toNatClampNeg (sI z67 1037 (x2_67 - 5).toNatClampNeg) := ⟨_, rfl⟩
        refine va_iast (D := (dC, dI)) hx hb hK hP hD hS 28 1 atm37 rfl hi_25 dX9_send_85 (fun H locs hP hD hS => ?_)
        rw [stm37, ← e_s26] at hP hD
        replace hwp := hwp s26 e_s26
        refine lv_iinc (v := (x2_67 + (-1))) (lv' := [(2, .int (x2_67 + (-1))), (0, .ref (ad 9 0)), (1, .int a1)]) hx hb dX9_send_86 hl (k := 0) rfl rfl (by decide) rfl (fun ls hl => ?_)
        refine lv_goto (tgt := 67) hx hb dX9_send_89 (by decide) ?_
        exact ih67 s26 (x2_67 + (-1)) hwp _ _ _ hP hD hS (lv_sub hl [0, 1, 2] rfl)
  exact L67 n67 s7 159 hwp _ _ _ hP hD hS (lv_sub hl [0, 1, 2] rfl)
def wp_X9_tick_J122 (a1 : Int32) (x2_64 : Int32) (x3_29 : Int32) (K : Int32 → ST → Prop) (J29 : ST → Int32 → Int32 → Prop) (J64 : ST → Int32 → Int32 → Prop) (z122 : ST) (y0_122 : Int32) : Prop := J64 z122 y0_122 (x2_64 + 1)
def wp_X9_tick_L64 (a1 : Int32) (x3_29 : Int32) (K : Int32 → ST → Prop) (J29 : ST → Int32 → Int32 → Prop) : Nat → ST → Int32 → Int32 → Prop
  | 0 => fun _ _ _ => False
  | fu64 + 1 => fun z64 x4_64 x2_64 => ((x4_64 = 0 → (J29 z64 (x3_29 + 1) x2_64)) ∧ (¬ (x4_64 = 0) → (wp_X9_choose z64 (fun r7 s6 =>
((0 ≤ r7 → (wp_X9_send s6 r7 (fun s8 =>
((0 < (Op.cmpValue (FP.dcmp (sD s8 1005 0) (FP.i2d (sI s8 1001 0))) .g) → (wp_X9_tick_J122 a1 x2_64 x3_29 K (J29) (wp_X9_tick_L64 a1 x3_29 K J29 fu64) s8 0)) ∧ (¬ (0 < (Op.cmpValue (FP.dcmp (sD s8 1005 0) (FP.i2d (sI s8 1001 0))) .g)) → (wp_X9_tick_J122 a1 x2_64 x3_29 K (J29) (wp_X9_tick_L64 a1 x3_29 K J29 fu64) s8 1)))
))) ∧ (¬ (0 ≤ r7) → (∀ s9, s9 = upD s6 1005 0 (FP.i2d (sI s6 1001 0)) →
wp_X9_tick_L64 a1 x3_29 K J29 fu64 s9 0 x2_64)))
))))
def wp_X9_tick_J62 (a1 : Int32) (x3_29 : Int32) (x2_29 : Int32) (K : Int32 → ST → Prop) (J29 : ST → Int32 → Int32 → Prop) (z62 : ST) (y0_62 : Int32) : Prop := ∃ n64, wp_X9_tick_L64 a1 x3_29 K (J29) n64 z62 y0_62 x2_29
def wp_X9_tick_L29 (a1 : Int32) (K : Int32 → ST → Prop) : Nat → ST → Int32 → Int32 → Prop
  | 0 => fun _ _ _ => False
  | fu29 + 1 => fun z29 x3_29 x2_29 => ((a1 ≤ x3_29 → (K x2_29 z29)) ∧ (¬ (a1 ≤ x3_29) → (∀ s5, s5 = upI z29 1001 0 ((sI z29 1001 0) + 1) →
((0 < (Op.cmpValue (FP.dcmp (sD s5 1005 0) (FP.i2d (sI s5 1001 0))) .g) → (wp_X9_tick_J62 a1 x3_29 x2_29 K (wp_X9_tick_L29 a1 K fu29) s5 0)) ∧ (¬ (0 < (Op.cmpValue (FP.dcmp (sD s5 1005 0) (FP.i2d (sI s5 1001 0))) .g)) → (wp_X9_tick_J62 a1 x3_29 x2_29 K (wp_X9_tick_L29 a1 K fu29) s5 1))))))
def wp_X9_tick_J17 (a1 : Int32) (K : Int32 → ST → Prop) (z17 : ST) (y0_17 : Int32) : Prop := wp_X9_refused z17 y0_17 (fun r4 s3 =>
((r4 = 0 → (∃ n29, wp_X9_tick_L29 a1 K n29 s3 0 0)) ∧ (¬ (r4 = 0) → (K 0 s3)))
)
def wp_X9_tick (σ : ST) (a1 : Int32) (K : Int32 → ST → Prop) : Prop := wp_X9_isIn σ a1 1 1000 (fun r2 s1 =>
((r2 = 0 → (wp_X9_tick_J17 a1 K s1 1)) ∧ (¬ (r2 = 0) → (wp_X9_tick_J17 a1 K s1 0)))
)
set_option maxRecDepth 20000 in
theorem iX9_tick_9 : ∀ w ∈ wsX90, w ∈ wsX9_tick := by decide +kernel
set_option maxHeartbeats 8000000 in
set_option maxRecDepth 100000 in
theorem c_X9_tick (l : Launch) (dC : Nat → ClassId) (dI : Nat → Nat → Nat) (cA : Nat → ClassId) (ad : Nat → Nat → Nat) (σ : ST) (a1 : Int32) (sz : Nat) (K : Int32 → ST → Prop) (hwp : wp_X9_tick σ a1 K) : Met l yX9_tick wsX9_tick ({ frames := 3, cells := 0, slots := 0, locals := 71 } : Room) (va_Pc [.ref (ad 9 0), .int a1] (preC dC dI cA (Wm cA ad σ) sz)) (va_Qi K (atC dC dI cA (Wm cA ad) (va_A (Wm cA ad σ) sz)) (va_A (Wm cA ad σ) sz)) 0 0 (va_A (Wm cA ad σ) sz) := by
  refine Met.ofW (cc := cX9_tick) (maxL := 6) (ret := (some .int)) (by decide) rfl ?_
  intro p e s m args below meth c s₁ B hml hv
  obtain ⟨rfl, hsz, hP, hK, hD0⟩ := hv
  have hx := B.exec
  have hb := B.bytes
  have hr := B.returns
  have hts := atoms_spec (ws := wsX9_tick) B.pre
  have hown : s.vm.findClass RX9 = some m.cls := findClass_of_methodNamed B.named
  have hlocks := B.notSynchronized
  subst hsz
  have hD := hD0.self (sz := s.heap.size)
  clear hD0
  generalize hAe : va_A (Wm cA ad σ) s.heap.size = A at hD ⊢
  have hA : ∀ q : Nat, s.heap.size ≤ q → A q := fun q h => by rw [← hAe]; exact Or.inr h
  have hS : va_S A s.heap s.heap [] := va_S.rf
  have hkc : 0 ≤ 0 := Nat.le_refl 0
  have hks : 0 ≤ 0 := Nat.le_refl 0
  have hl := lv_entry ([.ref (ad 9 0), .int a1]) (n := 6) (Nat.le_of_ble_eq_true rfl)
  rw [lg_entry_eq]
  generalize (lg_sl ([.ref (ad 9 0), .int a1]) ++ List.replicate (6 - (lg_sl ([.ref (ad 9 0), .int a1])).length) Slot.unset).toArray = ls at hl ⊢
  have hl : lv_has ls 6 [(0, .ref (ad 9 0)), (1, .int a1)] := hl
  unfold wp_X9_tick at hwp
  generalize hHe : s.heap = H at hP ⊢
  have hS : va_S A s.heap H [] := by rw [← hHe]; exact va_S.rf
  clear hHe
  refine lv_aload_n hx hb dX9_tick_0 rfl (lv_at hl 0 rfl) ?_
  refine lv_iload_n hx hb dX9_tick_1 rfl (lv_at hl 1 rfl) ?_
  refine lv_iconst (v := 1) hx hb dX9_tick_2 (by decide) ?_
  refine lv_sipush (v := 1000) hx hb dX9_tick_3 (by decide) ?_
  have hF := fA hD hS hA
  refine va_calli (va_runS (As := [.int a1, .int 1, .int 1000]) (rest := [.ref (ad 9 0)]) ⟨hx, hb, hml, hown, hts⟩ (c_X9_isIn l dC dI cA ad σ a1 1 1000 H.size _ hwp) (cwS 3 hts gX9_tick_X9_isIn rfl rfl rfl (by decide +kernel) ⟨Nat.le_of_ble_eq_true rfl, Nat.le_of_ble_eq_true rfl⟩) ⟨fbC, fun U hU hW => ⟨rfl, by rw [hU], by rw [hU]; exact hP, va_K.moved hW.alike hK, hD.weaken (fun _ _ _ _ => trivial)⟩⟩ rfl rfl hl.1 rfl (lv_room (Nat.le_of_ble_eq_true rfl)) dX9_tick_6 ⟨hkc, hks⟩) hS (fun q _ h => hF q h) hF (fun r2 s1 t H1 locs ht hvm hwp hB hz1 hk1 hS => ?_)
  obtain ⟨hP1, hK1, hD1⟩ := hB
  rw [ht] at hP1
  have hD2 := hD1.weaken (fun _ q _ h => hF q.1 h)
  clear hP hD
  have hP := hP1
  have hD := hD2
  clear hP1 hD1 hD2 hK1 hk1 hz1 hF
  generalize H1 = H at hP hS ⊢
  have J17 : ∀ (z17 : ST) (y0_17 : Int32), wp_X9_tick_J17 a1 K z17 y0_17 → ∀ (H : Heap) (locs : List Loc) (ls : Array Slot), va_P (dC, dI) vwCl (Wm cA ad z17) H → va_D A (Wm cA ad z17) → va_S A s.heap H locs → lv_has ls 6 [(0, .ref (ad 9 0)), (1, .int a1)] → W p l e ({ frames := 3, cells := 0, slots := 0, locals := 71 } : Room) s m ([.ref (ad 9 0), .int a1] : List Value).toArray below meth c H locs 0 0 (MQ below (va_Qi K (atC dC dI cA (Wm cA ad) A) A) ([.ref (ad 9 0), .int a1] : List Value).toArray s 0 0 A) (F0 m 17 ls [.int y0_17, .ref (ad 9 0)]) := by
    intro z17 y0_17 hwp H locs ls hP hD hS hl
    have hF := fA hD hS hA
    refine va_calli (va_runV (As := [.int y0_17]) (rest := []) ⟨hx, hb, hml, hown, hts⟩ (c_X9_refused l dC dI cA ad z17 y0_17 H.size _ hwp) (cwV 1 hts gX9_tick_X9_refused rfl rfl rfl (by decide +kernel) ⟨Nat.le_of_ble_eq_true rfl, Nat.le_of_ble_eq_true rfl⟩) ⟨fbC, va_recv hK hP (ci := 9) (q0 := 0) rfl atModel, fun U hU hW => ⟨rfl, by rw [hU], by rw [hU]; exact hP, va_K.moved hW.alike hK, hD.weaken (fun _ _ _ _ => trivial)⟩⟩ rfl rfl hl.1 rfl (lv_room (Nat.le_of_ble_eq_true rfl)) dX9_tick_17 ⟨hkc, hks⟩) hS (fun q _ h => hF q h) hF (fun r4 s3 t H1 locs ht hvm hwp hB hz1 hk1 hS => ?_)
    obtain ⟨hP1, hK1, hD1⟩ := hB
    rw [ht] at hP1
    have hD2 := hD1.weaken (fun _ q _ h => hF q.1 h)
    clear hP hD
    have hP := hP1
    have hD := hD2
    clear hP1 hD1 hD2 hK1 hk1 hz1 hF
    generalize H1 = H at hP hS ⊢
    refine lv_if_eq (tgt := 25) hx hb dX9_tick_20 (by decide) (fun c_20 => ?_) (fun c_20 => ?_)
    · replace hwp := hwp.1 c_20
      refine lv_iconst (v := 0) hx hb dX9_tick_25 (by decide) ?_
      refine lv_istore_n (lv' := [(2, .int 0), (0, .ref (ad 9 0)), (1, .int a1)]) hx hb dX9_tick_26 rfl hl (by decide) rfl (fun ls hl => ?_)
      refine lv_iconst (v := 0) hx hb dX9_tick_27 (by decide) ?_
      refine lv_istore_n (lv' := [(3, .int 0), (2, .int 0), (0, .ref (ad 9 0)), (1, .int a1)]) hx hb dX9_tick_28 rfl hl (by decide) rfl (fun ls hl => ?_)
      obtain ⟨n29, hwp⟩ := hwp
      have L29 : ∀ (fu29 : Nat) (z29 : ST) (x3_29 : Int32) (x2_29 : Int32), wp_X9_tick_L29 a1 K fu29 z29 x3_29 x2_29 → ∀ (H : Heap) (locs : List Loc) (ls : Array Slot), va_P (dC, dI) vwCl (Wm cA ad z29) H → va_D A (Wm cA ad z29) → va_S A s.heap H locs → lv_has ls 6 [(3, .int x3_29), (2, .int x2_29), (0, .ref (ad 9 0)), (1, .int a1)] → W p l e ({ frames := 3, cells := 0, slots := 0, locals := 71 } : Room) s m ([.ref (ad 9 0), .int a1] : List Value).toArray below meth c H locs 0 0 (MQ below (va_Qi K (atC dC dI cA (Wm cA ad) A) A) ([.ref (ad 9 0), .int a1] : List Value).toArray s 0 0 A) (F0 m 29 ls []) := by
        intro fu29
        induction fu29 with
        | zero => intro z29 x3_29 x2_29 h; exact h.elim
        | succ fu29 ih29 =>
          intro z29 x3_29 x2_29 hwp H locs ls hP hD hS hl
          refine lv_iload_n hx hb dX9_tick_29 rfl (lv_at hl 0 rfl) ?_
          refine lv_iload_n hx hb dX9_tick_30 rfl (lv_at hl 3 rfl) ?_
          refine lv_icmp_ge (tgt := 133) hx hb dX9_tick_31 (by decide) (fun c_31 => ?_) (fun c_31 => ?_)
          · replace hwp := hwp.1 c_31
            refine lv_iload_n hx hb dX9_tick_133 rfl (lv_at hl 1 rfl) ?_
            exact W.iret (v := x2_29) hx hb hr (fun t ht hW => ⟨⟨x2_29, z29, rfl, hwp, by rw [ht]; exact hP, va_K.moved hW.alike hK, hD⟩, hS.F ht⟩) hS.2.2 dX9_tick_134
          · replace hwp := hwp.2 c_31
            refine lv_aload_n hx hb dX9_tick_34 rfl (lv_at hl 2 rfl) ?_
            refine lv_dup hx hb dX9_tick_35 rfl ?_
            refine va_get (D := (dC, dI)) (ci := 9) (v := .int (sI z29 1001 0)) (C := RX9) (T := TX9) (N := 43) hx hb hts iX9_tick_9 hown hK hP 0 atModel rfl 1 (by decide) (hts (.fieldLink RX9 126 "LinkQueuesModel" "now" "I") (by decide +kernel)) (fun _ h9 => h9) rfl dX9_tick_36 ?_
            refine lv_iconst (v := 1) hx hb dX9_tick_39 (by decide) ?_
            refine lv_iadd hx hb dX9_tick_40 ?_
            obtain ⟨s5, e_s5⟩ : ∃ z, z = upI z29 1001 0 ((sI z29 1001 0) + 1) := ⟨_, rfl⟩
            refine st_put (D := (dC, dI)) (ci := 9) (v := .int ((sI z29 1001 0) + 1)) (ty := .int) (C := RX9) (T := TX9) (N := 43) (ws' := Wm cA ad s5) hx hb hts iX9_tick_9 tyX9 tyX9_ok nmX9 hown hK hP hD hS 0 atModel rfl 1 (by decide) (hts (.fieldLink RX9 126 "LinkQueuesModel" "now" "I") (by decide +kernel)) (fun _ h9 => h9) rfl (by decide +kernel) rfl rfl (Nat.le_of_ble_eq_true rfl) dX9_tick_41 (by rw [e_s5]; exact stM_1 ((sI z29 1001 0) + 1)) (fun H locs hP hD hS => ?_)
            replace hwp := hwp s5 e_s5
            refine lv_aload_n hx hb dX9_tick_44 rfl (lv_at hl 2 rfl) ?_
            refine va_get (D := (dC, dI)) (ci := 9) (v := .double (sD s5 1005 0)) (C := RX9) (T := TX9) (N := 43) hx hb hts iX9_tick_9 hown hK hP 0 atModel rfl 5 (by decide) (hts (.fieldLink RX9 198 "LinkQueuesModel" "free" "D") (by decide +kernel)) (fun _ h9 => h9) rfl dX9_tick_45 ?_
            refine lv_aload_n hx hb dX9_tick_48 rfl (lv_at hl 2 rfl) ?_
            refine va_get (D := (dC, dI)) (ci := 9) (v := .int (sI s5 1001 0)) (C := RX9) (T := TX9) (N := 43) hx hb hts iX9_tick_9 hown hK hP 0 atModel rfl 1 (by decide) (hts (.fieldLink RX9 126 "LinkQueuesModel" "now" "I") (by decide +kernel)) (fun _ h9 => h9) rfl dX9_tick_49 ?_
            refine lv_i2d hx hb dX9_tick_52 ?_
            refine lv_dcmp hx hb dX9_tick_53 ?_
            have J62 : ∀ (z62 : ST) (y0_62 : Int32), wp_X9_tick_J62 a1 x3_29 x2_29 K (wp_X9_tick_L29 a1 K fu29) z62 y0_62 → ∀ (H : Heap) (locs : List Loc) (ls : Array Slot), va_P (dC, dI) vwCl (Wm cA ad z62) H → va_D A (Wm cA ad z62) → va_S A s.heap H locs → lv_has ls 6 [(3, .int x3_29), (2, .int x2_29), (0, .ref (ad 9 0)), (1, .int a1)] → W p l e ({ frames := 3, cells := 0, slots := 0, locals := 71 } : Room) s m ([.ref (ad 9 0), .int a1] : List Value).toArray below meth c H locs 0 0 (MQ below (va_Qi K (atC dC dI cA (Wm cA ad) A) A) ([.ref (ad 9 0), .int a1] : List Value).toArray s 0 0 A) (F0 m 62 ls [.int y0_62]) := by
              intro z62 y0_62 hwp H locs ls hP hD hS hl
              refine lv_istore (lv' := [(4, .int y0_62), (3, .int x3_29), (2, .int x2_29), (0, .ref (ad 9 0)), (1, .int a1)]) hx hb dX9_tick_62 hl (by decide) rfl (fun ls hl => ?_)
              obtain ⟨n64, hwp⟩ := hwp
              have L64 : ∀ (fu64 : Nat) (z64 : ST) (x4_64 : Int32) (x2_64 : Int32), wp_X9_tick_L64 a1 x3_29 K (wp_X9_tick_L29 a1 K fu29) fu64 z64 x4_64 x2_64 → ∀ (H : Heap) (locs : List Loc) (ls : Array Slot), va_P (dC, dI) vwCl (Wm cA ad z64) H → va_D A (Wm cA ad z64) → va_S A s.heap H locs → lv_has ls 6 [(4, .int x4_64), (2, .int x2_64), (3, .int x3_29), (0, .ref (ad 9 0)), (1, .int a1)] → W p l e ({ frames := 3, cells := 0, slots := 0, locals := 71 } : Room) s m ([.ref (ad 9 0), .int a1] : List Value).toArray below meth c H locs 0 0 (MQ below (va_Qi K (atC dC dI cA (Wm cA ad) A) A) ([.ref (ad 9 0), .int a1] : List Value).toArray s 0 0 A) (F0 m 64 ls []) := by
                intro fu64
                induction fu64 with
                | zero => intro z64 x4_64 x2_64 h; exact h.elim
                | succ fu64 ih64 =>
                  intro z64 x4_64 x2_64 hwp H locs ls hP hD hS hl
                  refine lv_iload hx hb dX9_tick_64 (lv_at hl 0 rfl) ?_
                  refine lv_if_eq (tgt := 127) hx hb dX9_tick_66 (by decide) (fun c_66 => ?_) (fun c_66 => ?_)
                  · replace hwp := hwp.1 c_66
                    refine lv_iinc (v := (x3_29 + 1)) (lv' := [(3, .int (x3_29 + 1)), (4, .int x4_64), (2, .int x2_64), (0, .ref (ad 9 0)), (1, .int a1)]) hx hb dX9_tick_127 hl (k := 2) rfl rfl (by decide) rfl (fun ls hl => ?_)
                    refine lv_goto (tgt := 29) hx hb dX9_tick_130 (by decide) ?_
                    exact ih29 z64 (x3_29 + 1) x2_64 hwp _ _ _ hP hD hS (lv_sub hl [0, 2, 3, 4] rfl)
                  · replace hwp := hwp.2 c_66
                    refine lv_aload_n hx hb dX9_tick_69 rfl (lv_at hl 3 rfl) ?_
                    have hF := fA hD hS hA
                    refine va_calli (va_runV (As := []) (rest := []) ⟨hx, hb, hml, hown, hts⟩ (c_X9_choose l dC dI cA ad z64 H.size _ hwp) (cwV 0 hts gX9_tick_X9_choose rfl rfl rfl (by decide +kernel) ⟨Nat.le_of_ble_eq_true rfl, Nat.le_of_ble_eq_true rfl⟩) ⟨fbC, va_recv hK hP (ci := 9) (q0 := 0) rfl atModel, fun U hU hW => ⟨rfl, by rw [hU], by rw [hU]; exact hP, va_K.moved hW.alike hK, hD.weaken (fun _ _ _ _ => trivial)⟩⟩ rfl rfl hl.1 rfl (lv_room (Nat.le_of_ble_eq_true rfl)) dX9_tick_70 ⟨hkc, hks⟩) hS (fun q _ h => hF q h) hF (fun r7 s6 t H1 locs ht hvm hwp hB hz1 hk1 hS => ?_)
                    obtain ⟨hP1, hK1, hD1⟩ := hB
                    rw [ht] at hP1
                    have hD2 := hD1.weaken (fun _ q _ h => hF q.1 h)
                    clear hP hD
                    have hP := hP1
                    have hD := hD2
                    clear hP1 hD1 hD2 hK1 hk1 hz1 hF
                    generalize H1 = H at hP hS ⊢
                    refine lv_istore (lv' := [(5, .int r7), (4, .int x4_64), (2, .int x2_64), (3, .int x3_29), (0, .ref (ad 9 0)), (1, .int a1)]) hx hb dX9_tick_73 hl (by decide) rfl (fun ls hl => ?_)
                    refine lv_iload hx hb dX9_tick_75 (lv_at hl 0 rfl) ?_
                    refine lv_if_ge (tgt := 95) hx hb dX9_tick_77 (by decide) (fun c_77 => ?_) (fun c_77 => ?_)
                    · replace hwp := hwp.1 c_77
                      refine lv_aload_n hx hb dX9_tick_95 rfl (lv_at hl 4 rfl) ?_
                      refine lv_iload hx hb dX9_tick_96 (lv_at hl 0 rfl) ?_
                      have hF := fA hD hS hA
                      refine va_callv (va_runV (As := [.int r7]) (rest := []) ⟨hx, hb, hml, hown, hts⟩ (c_X9_send l dC dI cA ad s6 r7 H.size _ hwp) (cwV 1 hts gX9_tick_X9_send rfl rfl rfl (by decide +kernel) ⟨Nat.le_of_ble_eq_true rfl, Nat.le_of_ble_eq_true rfl⟩) ⟨fbC, va_recv hK hP (ci := 9) (q0 := 0) rfl atModel, fun U hU hW => ⟨rfl, by rw [hU], by rw [hU]; exact hP, va_K.moved hW.alike hK, hD.weaken (fun _ _ _ _ => trivial)⟩⟩ rfl rfl hl.1 rfl (lv_room (Nat.le_of_ble_eq_true rfl)) dX9_tick_98 ⟨hkc, hks⟩) hS (fun q _ h => hF q h) hF (fun s8 t H1 locs ht hvm hwp hB hz1 hk1 hS => ?_)
                      obtain ⟨hP1, hK1, hD1⟩ := hB
                      rw [ht] at hP1
                      have hD2 := hD1.weaken (fun _ q _ h => hF q.1 h)
                      clear hP hD
                      have hP := hP1
                      have hD := hD2
                      clear hP1 hD1 hD2 hK1 hk1 hz1 hF
                      generalize H1 = H at hP hS ⊢
                      refine lv_iinc (v := (x2_64 + 1)) (lv' := [(2, .int (x2_64 + 1)), (5, .int r7), (4, .int x4_64), (3, .int x3_29), (0, .ref (ad 9 0)), (1, .int a1)]) hx hb dX9_tick_101 hl (k := 2) rfl rfl (by decide) rfl (fun ls hl => ?_)
                      refine lv_aload_n hx hb dX9_tick_104 rfl (lv_at hl 4 rfl) ?_
                      refine va_get (D := (dC, dI)) (ci := 9) (v := .double (sD s8 1005 0)) (C := RX9) (T := TX9) (N := 43) hx hb hts iX9_tick_9 hown hK hP 0 atModel rfl 5 (by decide) (hts (.fieldLink RX9 198 "LinkQueuesModel" "free" "D") (by decide +kernel)) (fun _ h9 => h9) rfl dX9_tick_105 ?_
                      refine lv_aload_n hx hb dX9_tick_108 rfl (lv_at hl 4 rfl) ?_
                      refine va_get (D := (dC, dI)) (ci := 9) (v := .int (sI s8 1001 0)) (C := RX9) (T := TX9) (N := 43) hx hb hts iX9_tick_9 hown hK hP 0 atModel rfl 1 (by decide) (hts (.fieldLink RX9 126 "LinkQueuesModel" "now" "I") (by decide +kernel)) (fun _ h9 => h9) rfl dX9_tick_109 ?_
                      refine lv_i2d hx hb dX9_tick_112 ?_
                      refine lv_dcmp hx hb dX9_tick_113 ?_
                      have J122 : ∀ (z122 : ST) (y0_122 : Int32), wp_X9_tick_J122 a1 x2_64 x3_29 K (wp_X9_tick_L29 a1 K fu29) (wp_X9_tick_L64 a1 x3_29 K (wp_X9_tick_L29 a1 K fu29) fu64) z122 y0_122 → ∀ (H : Heap) (locs : List Loc) (ls : Array Slot), va_P (dC, dI) vwCl (Wm cA ad z122) H → va_D A (Wm cA ad z122) → va_S A s.heap H locs → lv_has ls 6 [(2, .int (x2_64 + 1)), (3, .int x3_29), (0, .ref (ad 9 0)), (1, .int a1)] → W p l e ({ frames := 3, cells := 0, slots := 0, locals := 71 } : Room) s m ([.ref (ad 9 0), .int a1] : List Value).toArray below meth c H locs 0 0 (MQ below (va_Qi K (atC dC dI cA (Wm cA ad) A) A) ([.ref (ad 9 0), .int a1] : List Value).toArray s 0 0 A) (F0 m 122 ls [.int y0_122]) := by
                        intro z122 y0_122 hwp H locs ls hP hD hS hl
                        refine lv_istore (lv' := [(4, .int y0_122), (2, .int (x2_64 + 1)), (3, .int x3_29), (0, .ref (ad 9 0)), (1, .int a1)]) hx hb dX9_tick_122 hl (by decide) rfl (fun ls hl => ?_)
                        refine lv_goto (tgt := 64) hx hb dX9_tick_124 (by decide) ?_
                        exact ih64 z122 y0_122 (x2_64 + 1) hwp _ _ _ hP hD hS (lv_sub hl [0, 1, 2, 3, 4] rfl)
                      refine lv_if_gt (tgt := 121) hx hb dX9_tick_114 (by decide) (fun c_114 => ?_) (fun c_114 => ?_)
                      · replace hwp := hwp.1 c_114
                        refine lv_iconst (v := 0) hx hb dX9_tick_121 (by decide) ?_
                        exact J122 s8 0 hwp _ _ _ hP hD hS (lv_sub hl [0, 3, 4, 5] rfl)
                      · replace hwp := hwp.2 c_114
                        refine lv_iconst (v := 1) hx hb dX9_tick_117 (by decide) ?_
                        refine lv_goto (tgt := 122) hx hb dX9_tick_118 (by decide) ?_
                        exact J122 s8 1 hwp _ _ _ hP hD hS (lv_sub hl [0, 3, 4, 5] rfl)
                    · replace hwp := hwp.2 c_77
                      refine lv_aload_n hx hb dX9_tick_80 rfl (lv_at hl 4 rfl) ?_
                      refine lv_aload_n hx hb dX9_tick_81 rfl (lv_at hl 4 rfl) ?_
                      refine va_get (D := (dC, dI)) (ci := 9) (v := .int (sI s6 1001 0)) (C := RX9) (T := TX9) (N := 43) hx hb hts iX9_tick_9 hown hK hP 0 atModel rfl 1 (by decide) (hts (.fieldLink RX9 126 "LinkQueuesModel" "now" "I") (by decide +kernel)) (fun _ h9 => h9) rfl dX9_tick_82 ?_
                      refine lv_i2d hx hb dX9_tick_85 ?_
                      obtain ⟨s9, e_s9⟩ : ∃ z, z = upD s6 1005 0 (FP.i2d (sI s6 1001 0)) := ⟨_, rfl⟩
                      refine st_put (D := (dC, dI)) (ci := 9) (v := .double (FP.i2d (sI s6 1001 0))) (ty := .double) (C := RX9) (T := TX9) (N := 43) (ws' := Wm cA ad s9) hx hb hts iX9_tick_9 tyX9 tyX9_ok nmX9 hown hK hP hD hS 0 atModel rfl 5 (by decide) (hts (.fieldLink RX9 198 "LinkQueuesModel" "free" "D") (by decide +kernel)) (fun _ h9 => h9) rfl (by decide +kernel) rfl rfl (Nat.le_of_ble_eq_true rfl) dX9_tick_86 (by rw [e_s9]; exact stM_5 (FP.i2d (sI s6 1001 0))) (fun H locs hP hD hS => ?_)
                      replace hwp := hwp s9 e_s9
                      refine lv_iconst (v := 0) hx hb dX9_tick_89 (by decide) ?_
                      refine lv_istore (lv' := [(4, .int 0), (5, .int r7), (2, .int x2_64), (3, .int x3_29), (0, .ref (ad 9 0)), (1, .int a1)]) hx hb dX9_tick_90 hl (by decide) rfl (fun ls hl => ?_)
                      refine lv_goto (tgt := 124) hx hb dX9_tick_92 (by decide) ?_
                      refine lv_goto (tgt := 64) hx hb dX9_tick_124 (by decide) ?_
                      exact ih64 s9 0 x2_64 hwp _ _ _ hP hD hS (lv_sub hl [0, 2, 3, 4, 5] rfl)
              exact L64 n64 z62 y0_62 x2_29 hwp _ _ _ hP hD hS (lv_sub hl [0, 2, 1, 3, 4] rfl)
            refine lv_if_gt (tgt := 61) hx hb dX9_tick_54 (by decide) (fun c_54 => ?_) (fun c_54 => ?_)
            · replace hwp := hwp.1 c_54
              refine lv_iconst (v := 0) hx hb dX9_tick_61 (by decide) ?_
              exact J62 s5 0 hwp _ _ _ hP hD hS (lv_sub hl [0, 1, 2, 3] rfl)
            · replace hwp := hwp.2 c_54
              refine lv_iconst (v := 1) hx hb dX9_tick_57 (by decide) ?_
              refine lv_goto (tgt := 62) hx hb dX9_tick_58 (by decide) ?_
              exact J62 s5 1 hwp _ _ _ hP hD hS (lv_sub hl [0, 1, 2, 3] rfl)
      exact L29 n29 s3 0 0 hwp _ _ _ hP hD hS (lv_sub hl [0, 1, 2, 3] rfl)
    · replace hwp := hwp.2 c_20
      refine lv_iconst (v := 0) hx hb dX9_tick_23 (by decide) ?_
      exact W.iret (v := 0) hx hb hr (fun t ht hW => ⟨⟨0, s3, rfl, hwp, by rw [ht]; exact hP, va_K.moved hW.alike hK, hD⟩, hS.F ht⟩) hS.2.2 dX9_tick_24
  refine lv_if_eq (tgt := 16) hx hb dX9_tick_9 (by decide) (fun c_9 => ?_) (fun c_9 => ?_)
  · replace hwp := hwp.1 c_9
    refine lv_iconst (v := 1) hx hb dX9_tick_16 (by decide) ?_
    exact J17 s1 1 hwp _ _ _ hP hD hS (lv_sub hl [0, 1] rfl)
  · replace hwp := hwp.2 c_9
    refine lv_iconst (v := 0) hx hb dX9_tick_12 (by decide) ?_
    refine lv_goto (tgt := 17) hx hb dX9_tick_13 (by decide) ?_
    exact J17 s1 0 hwp _ _ _ hP hD hS (lv_sub hl [0, 1] rfl)
