theorem newK {D : va_G} {cl : List vw_C} {tys tys' : List (ClassId × FieldType)} {s : State} {c c' : ClassId} {ty : FieldType} (i : Nat) (h : va_K D cl (tys' ++ [(c', ty)]) s) (hK : va_K D cl tys s) (hi : tys[i]? = some (c, ty)) : c = c' := by
  have h1 := (h.2 tys'.length (c', ty) (by simp)).2
  have h2 := (hK.2 i (c, ty) hi).2
  unfold va_RA at h1 h2
  cases ty with
  | object C =>
    obtain ⟨_, _, _, _, _, h3⟩ := h1
    obtain ⟨_, _, _, _, _, h4⟩ := h2
    exact Option.some.inj (h4.symm.trans h3)
  | _ => exact Option.some.inj (h2.symm.trans h1)
def preO (dC : Nat → ClassId) (dI : Nat → Nat → Nat) (cA : Nat → ClassId) (w : va_W) (sz : Nat) (U : State) : Prop := preC dC dI cA w sz U ∧ va_AO "LinkQueues$Packet" U
theorem fbO {av : List Value} {dC : Nat → ClassId} {dI : Nat → Nat → Nat} {cA : Nat → ClassId} {w : va_W} {sz : Nat} : FrameBlind (va_Pc av (preO dC dI cA w sz)) := fun a U g mk q => by
  obtain ⟨q0, q1, q2⟩ := q
  have h := fbC (av := av) (dC := dC) (dI := dI) (cA := cA) (w := w) (sz := sz) a U g mk ⟨q0, q1⟩
  exact ⟨q0, h.2, va_AO.moved (Vm.Alike.refl U.vm) q2⟩
def nest2 (U : State) : Prop := va_Nw (.methodLinkNest RX2 11 yX6_init "LinkQueues") U ∧ va_Nw (.methodLinkNest RX2 20 yX3_init "LinkQueues") U ∧ va_Nw (.methodLinkNest RX2 27 yX1_init "LinkQueues") U
def nest8 (U : State) : Prop := va_Nw (.methodLinkNest RX8 17 yX7_init "LinkQueues") U ∧ va_Nw (.methodLinkNest RX8 24 yX0_init "LinkQueues") U ∧ va_Nw (.methodLinkNest RX8 31 yX4_init "LinkQueues") U ∧ nest2 U
theorem nest2.warm {s U : State} (hW : s.WarmedH U.vm) (h : nest2 s) : nest2 U := ⟨va_Nw.warmM hW h.1, va_Nw.warmM hW h.2.1, va_Nw.warmM hW h.2.2⟩
theorem nest8.warm {s U : State} (hW : s.WarmedH U.vm) (h : nest8 s) : nest8 U := ⟨va_Nw.warmM hW h.1, va_Nw.warmM hW h.2.1, va_Nw.warmM hW h.2.2.1, h.2.2.2.warm hW⟩
theorem nest2.same {s U : State} (hv : s.vm = U.vm) (h : nest2 s) : nest2 U := ⟨va_Nw.same rfl hv h.1, va_Nw.same rfl hv h.2.1, va_Nw.same rfl hv h.2.2⟩
theorem nest8.same {s U : State} (hv : s.vm = U.vm) (h : nest8 s) : nest8 U := ⟨va_Nw.same rfl hv h.1, va_Nw.same rfl hv h.2.1, va_Nw.same rfl hv h.2.2.1, h.2.2.2.same hv⟩
def preN2 (dC : Nat → ClassId) (dI : Nat → Nat → Nat) (cA : Nat → ClassId) (w : va_W) (sz : Nat) (U : State) : Prop := preC dC dI cA w sz U ∧ nest2 U
def preO2 (dC : Nat → ClassId) (dI : Nat → Nat → Nat) (cA : Nat → ClassId) (w : va_W) (sz : Nat) (U : State) : Prop := preC dC dI cA w sz U ∧ va_AO "LinkQueues$Flow" U ∧ va_AO "LinkQueues$Packet" U ∧ nest8 U
theorem fbN {av : List Value} {dC : Nat → ClassId} {dI : Nat → Nat → Nat} {cA : Nat → ClassId} {w : va_W} {sz : Nat} : FrameBlind (va_Pc av (preN2 dC dI cA w sz)) := fun a U g mk q => by
  obtain ⟨q0, q1, q2⟩ := q
  have h := fbC (av := av) (dC := dC) (dI := dI) (cA := cA) (w := w) (sz := sz) a U g mk ⟨q0, q1⟩
  exact ⟨q0, h.2, q2.same rfl⟩
theorem fbO2 {av : List Value} {dC : Nat → ClassId} {dI : Nat → Nat → Nat} {cA : Nat → ClassId} {w : va_W} {sz : Nat} : FrameBlind (va_Pc av (preO2 dC dI cA w sz)) := fun a U g mk q => by
  obtain ⟨q0, q1, q2, q3, q4⟩ := q
  have h := fbC (av := av) (dC := dC) (dI := dI) (cA := cA) (w := w) (sz := sz) a U g mk ⟨q0, q1⟩
  exact ⟨q0, h.2, va_AO.moved (Vm.Alike.refl U.vm) q2, va_AO.moved (Vm.Alike.refl U.vm) q3, q4.same rfl⟩
theorem arrq_congr {c : ClassId} {n : Nat} {f g : Nat → Option Nat} (h : ∀ j, j < n → f j = g j) : vp_cell c (n, .inr (.inr (.inr (.inr f)))) = vp_cell c (n, .inr (.inr (.inr (.inr g)))) := by
  show ({ cls := c, slots := Array.ofFn (n := n) fun j => va_rf (f j.val), vm := .none } : Cell) = { cls := c, slots := Array.ofFn (n := n) fun j => va_rf (g j.val), vm := .none }
  have e : (fun j : Fin n => va_rf (f j.val)) = fun j : Fin n => va_rf (g j.val) := by
    funext j
    rw [h j.val j.isLt]
  rw [e]
theorem arr_congr {D : va_G} {cl : List vw_C} {A : Nat → Prop} {w : va_W} {H : Heap} (k : Nat) {a : Nat} {c : ClassId} {n : Nat} {f g : Nat → Option Nat} (hP : va_P D cl w H) (hD : va_D A w) (hk : w[k]? = some (a, .inl (c, n, .inr (.inr (.inr (.inr f)))))) (h : ∀ j, j < n → f j = g j) : va_P D cl (w.set k (a, .inl (c, n, .inr (.inr (.inr (.inr g)))))) H ∧ va_D A (w.set k (a, .inl (c, n, .inr (.inr (.inr (.inr g)))))) := by
  refine ⟨hP.set hD hk ?_ (fun _ _ => rfl), hD.set hk⟩
  have h1 := hP k _ hk
  show H[a]? = some (vp_cell c (n, .inr (.inr (.inr (.inr g)))))
  rw [← arrq_congr h]
  exact h1
def mkad (l : List Nat) : Nat → Nat → Nat := fun c j => bif Nat.beq c 8 then l.getD 0 0 else bif Nat.beq c 12 then l.getD 1 0 else bif Nat.beq c 7 then l.getD 2 0 else bif Nat.beq c 0 then l.getD 3 0 else bif Nat.beq c 10 then l.getD 4 0 else bif Nat.beq c 4 then l.getD 5 0 else bif Nat.beq c 11 then l.getD 6 0 else bif Nat.beq c 2 then l.getD (7 + j) 0 else bif Nat.beq c 6 then l.getD (13 + j) 0 else bif Nat.beq c 3 then l.getD (19 + j) 0 else bif Nat.beq c 1 then l.getD (25 + j) 0 else 0
def mkadM (l : List Nat) : Nat → Nat → Nat := fun c _ => bif Nat.beq c 9 then l.getD 0 0 else bif Nat.beq c 106 then l.getD 1 0 else bif Nat.beq c 107 then l.getD 2 0 else bif Nat.beq c 108 then l.getD 3 0 else bif Nat.beq c 109 then l.getD 4 0 else bif Nat.beq c 110 then l.getD 5 0 else bif Nat.beq c 111 then l.getD 6 0 else bif Nat.beq c 112 then l.getD 7 0 else bif Nat.beq c 113 then l.getD 8 0 else bif Nat.beq c 114 then l.getD 9 0 else bif Nat.beq c 115 then l.getD 10 0 else bif Nat.beq c 116 then l.getD 11 0 else bif Nat.beq c 117 then l.getD 12 0 else bif Nat.beq c 118 then l.getD 13 0 else bif Nat.beq c 119 then l.getD 14 0 else bif Nat.beq c 120 then l.getD 15 0 else bif Nat.beq c 121 then l.getD 16 0 else bif Nat.beq c 122 then l.getD 17 0 else bif Nat.beq c 123 then l.getD 18 0 else bif Nat.beq c 124 then l.getD 19 0 else bif Nat.beq c 125 then l.getD 20 0 else bif Nat.beq c 126 then l.getD 21 0 else bif Nat.beq c 127 then l.getD 22 0 else bif Nat.beq c 128 then l.getD 23 0 else bif Nat.beq c 129 then l.getD 24 0 else bif Nat.beq c 131 then l.getD 25 0 else bif Nat.beq c 132 then l.getD 26 0 else bif Nat.beq c 135 then l.getD 27 0 else bif Nat.beq c 137 then l.getD 28 0 else 0
/-- the class side, new -/
def σ0 : ST := (fun f j => bif Nat.beq f 32 then Int32.ofNat j else bif Nat.beq f 37 then 1500 else bif Nat.beq f 53 then -1 else bif Nat.beq f 136 then 1000000 else 0, fun f _ => bif Nat.beq f 16 then 4617315517961601024 else bif Nat.beq f 17 then 4636737291354636288 else bif Nat.beq f 48 then 4617315517961601024 else bif Nat.beq f 49 then 4624633867356078080 else bif Nat.beq f 50 then 4591870180066957722 else bif Nat.beq f 51 then 4598175219545276416 else bif Nat.beq f 137 then 4636737291354636288 else 0, fun _ _ => none)
/-- the model side, its rows just made -/
def τ1 : ST := (fun f _ => bif Nat.beq f 1004 then 1000000 else 0, fun f _ => bif Nat.beq f 1003 then 4636737291354636288 else 0, fun _ _ => none)
