theorem sw13 (x : Int32) : (x.toInt < 0 ∨ 13 < x.toInt) ∨ x = 0 ∨ x = 1 ∨ x = 2 ∨ x = 3 ∨ x = 4 ∨ x = 5 ∨ x = 6 ∨ x = 7 ∨ x = 8 ∨ x = 9 ∨ x = 10 ∨ x = 11 ∨ x = 12 ∨ x = 13 := by
  have h0 : ∀ k : Int32, x.toInt = k.toInt → x = k := fun k h => Int32.toInt_inj.mp h
  rcases (show (x.toInt < 0 ∨ 13 < x.toInt) ∨ x.toInt = 0 ∨ x.toInt = 1 ∨ x.toInt = 2 ∨ x.toInt = 3 ∨ x.toInt = 4 ∨ x.toInt = 5 ∨ x.toInt = 6 ∨ x.toInt = 7 ∨ x.toInt = 8 ∨ x.toInt = 9 ∨ x.toInt = 10 ∨ x.toInt = 11 ∨ x.toInt = 12 ∨ x.toInt = 13 by omega) with h | h | h | h | h | h | h | h | h | h | h | h | h | h | h
  · exact Or.inl h
  · exact Or.inr (Or.inl (h0 0 h))
  · exact Or.inr (Or.inr (Or.inl (h0 1 h)))
  · exact Or.inr (Or.inr (Or.inr (Or.inl (h0 2 h))))
  · exact Or.inr (Or.inr (Or.inr (Or.inr (Or.inl (h0 3 h)))))
  · exact Or.inr (Or.inr (Or.inr (Or.inr (Or.inr (Or.inl (h0 4 h))))))
  · exact Or.inr (Or.inr (Or.inr (Or.inr (Or.inr (Or.inr (Or.inl (h0 5 h)))))))
  · exact Or.inr (Or.inr (Or.inr (Or.inr (Or.inr (Or.inr (Or.inr (Or.inl (h0 6 h))))))))
  · exact Or.inr (Or.inr (Or.inr (Or.inr (Or.inr (Or.inr (Or.inr (Or.inr (Or.inl (h0 7 h)))))))))
  · exact Or.inr (Or.inr (Or.inr (Or.inr (Or.inr (Or.inr (Or.inr (Or.inr (Or.inr (Or.inl (h0 8 h))))))))))
  · exact Or.inr (Or.inr (Or.inr (Or.inr (Or.inr (Or.inr (Or.inr (Or.inr (Or.inr (Or.inr (Or.inl (h0 9 h)))))))))))
  · exact Or.inr (Or.inr (Or.inr (Or.inr (Or.inr (Or.inr (Or.inr (Or.inr (Or.inr (Or.inr (Or.inr (Or.inl (h0 10 h))))))))))))
  · exact Or.inr (Or.inr (Or.inr (Or.inr (Or.inr (Or.inr (Or.inr (Or.inr (Or.inr (Or.inr (Or.inr (Or.inr (Or.inl (h0 11 h)))))))))))))
  · exact Or.inr (Or.inr (Or.inr (Or.inr (Or.inr (Or.inr (Or.inr (Or.inr (Or.inr (Or.inr (Or.inr (Or.inr (Or.inr (Or.inl (h0 12 h))))))))))))))
  · exact Or.inr (Or.inr (Or.inr (Or.inr (Or.inr (Or.inr (Or.inr (Or.inr (Or.inr (Or.inr (Or.inr (Or.inr (Or.inr (Or.inr (h0 13 h))))))))))))))
theorem law_bound {L it : Nat} (hL : L ≤ 3072) (hit : it ≤ 512) (h : ¬ (Int32.ofNat L - 6 < nI (6 * it))) : 6 * it + 6 ≤ L := by
  have h1 : (Int32.ofNat L).toInt = L := Int32.toInt_ofNat_of_lt (by omega)
  have h2 : (nI (6 * it)).toInt = ((6 * it : Nat) : Int) := Int32.toInt_ofNat_of_lt (by omega)
  rw [Int32.lt_iff_toInt_lt, Int32.toInt_sub, h1, h2, show (6 : Int32).toInt = 6 from rfl] at h
  have h3 : ((L : Int) - 6).bmod (2 ^ 32) = (L : Int) - 6 := by
    rw [Int.bmod_eq_of_le] <;> omega
  rw [h3] at h
  omega
theorem law_next (it : Nat) : nI (6 * it) + Int32.ofInt 6 = nI (6 * (it + 1)) := by
  show Int32.ofNat (6 * it) + Int32.ofNat 6 = Int32.ofNat (6 * it + 6)
  rw [Int32.ofNat_add]
def wpB (xs : Nat → Int32) (L : Nat) (i : Int32) (n : Nat) (o : Nat → Int64) (d : Nat → UInt64) (σ τ : ST) (Kn : Nat → (Nat → Int64) → (Nat → UInt64) → ST → ST → Prop) : Prop := vp_in i L ∧ ((((xs i.toNatClampNeg &&& 15).toInt < 0 ∨ 13 < (xs i.toNatClampNeg &&& 15).toInt) → Kn n o d σ τ) ∧ ((xs i.toNatClampNeg &&& 15) = 0 → wp_case0 xs L i n o d σ τ Kn) ∧ ((xs i.toNatClampNeg &&& 15) = 1 → wp_case1 xs L i n o d σ τ Kn) ∧ ((xs i.toNatClampNeg &&& 15) = 2 → wp_case2 xs L i n o d σ τ Kn) ∧ ((xs i.toNatClampNeg &&& 15) = 3 → wp_case3 xs L i n o d σ τ Kn) ∧ ((xs i.toNatClampNeg &&& 15) = 4 → wp_case4 xs L i n o d σ τ Kn) ∧ ((xs i.toNatClampNeg &&& 15) = 5 → wp_case5 xs L i n o d σ τ Kn) ∧ ((xs i.toNatClampNeg &&& 15) = 6 → wp_case6 xs L i n o d σ τ Kn) ∧ ((xs i.toNatClampNeg &&& 15) = 7 → wp_case7 xs L i n o d σ τ Kn) ∧ ((xs i.toNatClampNeg &&& 15) = 8 → wp_case8 xs L i n o d σ τ Kn) ∧ ((xs i.toNatClampNeg &&& 15) = 9 → wp_case9 xs L i n o d σ τ Kn) ∧ ((xs i.toNatClampNeg &&& 15) = 10 → wp_case10 xs L i n o d σ τ Kn) ∧ ((xs i.toNatClampNeg &&& 15) = 11 → wp_case11 xs L i n o d σ τ Kn) ∧ ((xs i.toNatClampNeg &&& 15) = 12 → wp_case12 xs L i n o d σ τ Kn) ∧ ((xs i.toNatClampNeg &&& 15) = 13 → wp_case13 xs L i n o d σ τ Kn))
def wpL (xs : Nat → Int32) (L : Nat) : Nat → Nat → Nat → (Nat → Int64) → (Nat → UInt64) → ST → ST → Prop
  | 0 => fun _ _ _ _ _ _ => False
  | f + 1 => fun it n o d σ τ => ¬ (Int32.ofNat L - 6 < nI (6 * it)) → wpB xs L (nI (6 * it)) n o d σ τ (wpL xs L f (it + 1))
set_option maxHeartbeats 4000000 in
set_option maxRecDepth 100000 in
theorem law_loop {p : Program} {l : Launch} {e : Env} {s : State} {m : MethodId} {below : List Frame} {meth : Method} {c : Code} {Q : State → Prop} {dC : Nat → ClassId} {dI : Nat → Nat → Nat} {cA : Nat → ClassId} {b1 b2 b L : Nat} {xs : Nat → Int32} {adm : Nat → Nat → Nat} (C : lcx p l s m c b L xs dC dI cA) (hL : L ≤ 3072) {a0 : Nat} (hend : ∀ (H : Heap) (ls : Array Slot), W p l e room_1 s m #[Value.ref b] below meth c H [] 601024 7293034 Q (F0 m 1031 ls [])) :
    ∀ (f it : Nat), it ≤ 512 → ∀ (ad : Nat → Nat → Nat) (n : Nat) (o : Nat → Int64) (d : Nat → UInt64) (σ τ : ST), wpL xs L f it n o d σ τ → ad 8 0 = a0 → ∀ (H : Heap) (locs : List Loc) (ls : Array Slot), va_P (dC, dI) vwCl (Wl cA b1 b2 ad n o d σ ++ Wm cA adm τ) H → va_D (fun q : Nat => s.heap.size ≤ q) (Wl cA b1 b2 ad n o d σ ++ Wm cA adm τ) → va_S (fun q : Nat => s.heap.size ≤ q) s.heap H locs → lv_has ls 10 [(0, .ref b), (1, .ref (ad 8 0)), (2, .ref (adm 9 0)), (3, .ref b1), (4, .ref b2), (5, .int (nI (6 * it)))] → W p l e room_1 s m #[Value.ref b] below meth c H locs (600000 + 2 * it) (7285000 + 14 * it) Q (F0 m 28 ls []) := by
  intro f
  induction f with
  | zero => intro it hit ad n o d σ τ hwp; exact hwp.elim
  | succ f ih =>
    intro it hit ad n o d σ τ hwp had H locs ls hP hD hS hl
    have hx := C.1
    have hb := C.2.1
    have hX := C.2.2.2.2.2.1
    have hbl := C.2.2.2.2.2.2.1
    have hbA : ¬ (fun q : Nat => s.heap.size ≤ q) b := Nat.not_le.mpr hbl
    refine lv_iload hx hb dL_law_28 (lv_at hl 5 rfl) ?_
    refine lv_aload_n hx hb dL_law_30 rfl (lv_at hl 0 rfl) ?_
    refine va_slen hx hb hX hbl hbA hS dL_law_31 ?_
    refine lv_bipush (v := 6) hx hb dL_law_32 (by decide) ?_
    refine lv_isub hx hb dL_law_34 ?_
    refine lv_icmp_gt (tgt := 1031) hx hb dL_law_35 (by decide) (fun _ => ?_) (fun hlt => ?_)
    · refine va_forget hS.2.2 ?_
      exact W.widen (k := 601024) (n := 7293034) (by omega) (by omega) (hend _ _)
    · have hwp : wpB xs L (nI (6 * it)) n o d σ τ (wpL xs L f (it + 1)) := hwp hlt
      have hbd := law_bound hL hit hlt
      obtain ⟨hin, hwp⟩ := hwp
      refine lv_aload_n hx hb dL_law_38 rfl (lv_at hl 0 rfl) ?_
      refine lv_iload hx hb dL_law_39 (lv_at hl 5 rfl) ?_
      refine va_sld hx hb hX hbl hbA hS hin dL_law_41 ?_
      refine lv_bipush (v := 15) hx hb dL_law_42 (by decide) ?_
      refine lv_iand hx hb dL_law_44 ?_
      have hcs : 600000 + 2 * it + 2 ≤ 601024 := by omega
      have hsl : 7285000 + 14 * it + 14 ≤ 7293034 := by omega
      have hnext : ∀ (ad : Nat → Nat → Nat) (n : Nat) (o : Nat → Int64) (d : Nat → UInt64) (σ τ : ST), wpL xs L f (it + 1) n o d σ τ → ad 8 0 = a0 → ∀ (H : Heap) (locs : List Loc) (ls : Array Slot), va_P (dC, dI) vwCl (Wl cA b1 b2 ad n o d σ ++ Wm cA adm τ) H → va_D (fun q : Nat => s.heap.size ≤ q) (Wl cA b1 b2 ad n o d σ ++ Wm cA adm τ) → va_S (fun q : Nat => s.heap.size ≤ q) s.heap H locs → lv_has ls 10 [(0, .ref b), (1, .ref (ad 8 0)), (2, .ref (adm 9 0)), (3, .ref b1), (4, .ref b2), (5, .int (nI (6 * it)))] → W p l e room_1 s m #[Value.ref b] below meth c H locs (600000 + 2 * it + 2) (7285000 + 14 * it + 14) Q (F0 m 1025 ls []) := by
        intro ad n o d σ τ hwp had H locs ls hP hD hS hl
        refine lv_iinc (k := 5) (lv' := [(5, .int (nI (6 * (it + 1)))), (0, .ref b), (1, .ref (ad 8 0)), (2, .ref (adm 9 0)), (3, .ref b1), (4, .ref b2)]) hx hb dL_law_1025 hl rfl (law_next it) (by decide) rfl (fun ls hl => ?_)
        refine lv_goto (tgt := 28) hx hb dL_law_1028 (by decide) ?_
        have q := ih (it + 1) (by omega) ad n o d σ τ hwp had H locs ls hP hD hS (lv_sub hl [1, 2, 3, 4, 5, 0] rfl)
        rw [show 600000 + 2 * (it + 1) = 600000 + 2 * it + 2 by omega, show 7285000 + 14 * (it + 1) = 7285000 + 14 * it + 14 by omega] at q
        exact q
      rcases sw13 (xs (nI (6 * it)).toNatClampNeg &&& 15) with h | h | h | h | h | h | h | h | h | h | h | h | h | h | h
      · refine lv_tableOut (tgt := 1025) hx hb dL_law_45 h (by decide) ?_
        refine W.widen (k := 600000 + 2 * it + 2) (n := 7285000 + 14 * it + 14) (by omega) (by omega) ?_
        exact hnext ad n o d σ τ (hwp.1 h) had _ _ _ hP hD hS hl
      · have hw := hwp.2.1 h
        rw [h]
        refine lv_tableIn (off := 71) (tgt := 116) hx hb dL_law_45 (by decide) (by decide) (by decide) (by decide) ?_
        exact law_case0 C hcs hsl (wpL xs L f (it + 1)) hnext ad n o d σ τ hw had _ _ _ hP hD hS hl
      · have hw := hwp.2.2.1 h
        rw [h]
        refine lv_tableIn (off := 131) (tgt := 176) hx hb dL_law_45 (by decide) (by decide) (by decide) (by decide) ?_
        exact law_case1 C hcs hsl (wpL xs L f (it + 1)) hnext ad n o d σ τ hw had _ _ _ hP hD hS hl
      · have hw := hwp.2.2.2.1 h
        rw [h]
        refine lv_tableIn (off := 255) (tgt := 300) hx hb dL_law_45 (by decide) (by decide) (by decide) (by decide) ?_
        exact law_case2 C hcs hsl (wpL xs L f (it + 1)) hnext ad n o d σ τ hw had _ _ _ hP hD hS hl
      · have hw := hwp.2.2.2.2.1 h
        rw [h]
        refine lv_tableIn (off := 335) (tgt := 380) hx hb dL_law_45 (by decide) (by decide) (by decide) (by decide) ?_
        exact law_case3 C hcs hsl (wpL xs L f (it + 1)) hnext ad n o d σ τ hw had _ _ _ hP hD hS hl
      · have hw := hwp.2.2.2.2.2.1 h
        rw [h]
        refine lv_tableIn (off := 393) (tgt := 438) hx hb dL_law_45 (by decide) (by decide) (by decide) (by decide) ?_
        exact law_case4 C hcs hsl (wpL xs L f (it + 1)) hnext ad n o d σ τ hw had _ _ _ hP hD hS hl
      · have hw := hwp.2.2.2.2.2.2.1 h
        rw [h]
        refine lv_tableIn (off := 459) (tgt := 504) hx hb dL_law_45 (by decide) (by decide) (by decide) (by decide) ?_
        exact law_case5 C hcs hsl (wpL xs L f (it + 1)) hnext ad n o d σ τ hw had _ _ _ hP hD hS hl
      · have hw := hwp.2.2.2.2.2.2.2.1 h
        rw [h]
        refine lv_tableIn (off := 555) (tgt := 600) hx hb dL_law_45 (by decide) (by decide) (by decide) (by decide) ?_
        exact law_case6 C hcs hsl (wpL xs L f (it + 1)) hnext ad n o d σ τ hw had _ _ _ hP hD hS hl
      · have hw := hwp.2.2.2.2.2.2.2.2.1 h
        rw [h]
        refine lv_tableIn (off := 611) (tgt := 656) hx hb dL_law_45 (by decide) (by decide) (by decide) (by decide) ?_
        exact law_case7 C hcs hsl (wpL xs L f (it + 1)) hnext ad n o d σ τ hw had _ _ _ hP hD hS hl
      · have hw := hwp.2.2.2.2.2.2.2.2.2.1 h
        rw [h]
        refine lv_tableIn (off := 679) (tgt := 724) hx hb dL_law_45 (by decide) (by decide) (by decide) (by decide) ?_
        exact law_case8 C hcs hsl (wpL xs L f (it + 1)) hnext ad n o d σ τ hw had _ _ _ hP hD hS hl
      · have hw := hwp.2.2.2.2.2.2.2.2.2.2.1 h
        rw [h]
        refine lv_tableIn (off := 756) (tgt := 801) hx hb dL_law_45 (by decide) (by decide) (by decide) (by decide) ?_
        exact law_case9 C hcs hsl (wpL xs L f (it + 1)) hnext ad n o d σ τ hw had _ _ _ hP hD hS hl
      · have hw := hwp.2.2.2.2.2.2.2.2.2.2.2.1 h
        rw [h]
        refine lv_tableIn (off := 833) (tgt := 878) hx hb dL_law_45 (by decide) (by decide) (by decide) (by decide) ?_
        exact law_case10 C hcs hsl (wpL xs L f (it + 1)) hnext ad n o d σ τ hw had _ _ _ hP hD hS hl
      · have hw := hwp.2.2.2.2.2.2.2.2.2.2.2.2.1 h
        rw [h]
        refine lv_tableIn (off := 874) (tgt := 919) hx hb dL_law_45 (by decide) (by decide) (by decide) (by decide) ?_
        exact law_case11 C hcs hsl (wpL xs L f (it + 1)) hnext ad n o d σ τ hw had _ _ _ hP hD hS hl
      · have hw := hwp.2.2.2.2.2.2.2.2.2.2.2.2.2.1 h
        rw [h]
        refine lv_tableIn (off := 942) (tgt := 987) hx hb dL_law_45 (by decide) (by decide) (by decide) (by decide) ?_
        exact law_case12 C hcs hsl (wpL xs L f (it + 1)) hnext ad n o d σ τ hw had _ _ _ hP hD hS hl
      · have hw := hwp.2.2.2.2.2.2.2.2.2.2.2.2.2.2 h
        rw [h]
        refine lv_tableIn (off := 967) (tgt := 1012) hx hb dL_law_45 (by decide) (by decide) (by decide) (by decide) ?_
        exact law_case13 C hcs hsl (wpL xs L f (it + 1)) hnext ad n o d σ τ hw had _ _ _ hP hD hS hl
