def txts : List (Nat × String) := [(71, "a kind is 0, 1 or 2"), (76, "a quantum is 1 to 3000 bytes"), (103, "not 0.0 <= low < high <= 1000.0"), (105, "not 0.0 < top <= 1.0"), (107, "not 0.0 < weight <= 1.0"), (115, "not 0.0 < target <= interval <= 10000.0"), (122, "not 0.125 <= rate <= 10000.0"), (124, "a limit is 1 to 1000000 bytes"), (126, "not 0.0 <= coin < 1.0"), (134, "64 coins wait"), (145, "a packet has 1 to 1500 bytes"), (172, "1 to 1000 ticks"), (204, "what is counted is 0 to 9"), (218, "what is told of a packet is 0 to 4"), (240, "a class is 0 to 5")]
/-- what the throws need of the tables and of the statics -/
def xT (A : Nat → Prop) (U : State) : Prop :=
  vx_Zq Bundle.tN "UNASSIGNED_STACK" Bundle.steD A U U.heap ∧ vx_Zq Bundle.tN "SUPPRESSED_SENTINEL" Bundle.listD A U U.heap ∧
  va_Nw (.castable "java/lang/IllegalArgumentException" "java/lang/IllegalArgumentException") U ∧ va_Nw (.castable "java/lang/IllegalStateException" "java/lang/IllegalStateException") U ∧
  va_Nw (.declares (Bundle.initS "java/lang/RuntimeException")) U ∧ va_Nw (.declares (Bundle.initS "java/lang/Exception")) U ∧ va_Nw (.declares (Bundle.initS "java/lang/Throwable")) U ∧
  va_Nc "java/lang/IllegalStateException" "java/lang/IllegalArgumentException" U ∧
  ∀ (k : Nat) (q : Nat × String), txts[k]? = some q → ∃ a, vk_R "LinkQueues" q.1 q.2 a U
theorem nc_moved {C T : String} {u U : State} (hvm : u.vm.Alike U.vm) (h : va_Nc C T u) : va_Nc C T U := by
  obtain ⟨c, t, h1, h2, h3⟩ := h
  exact ⟨c, t, by rw [hvm.findClass]; exact h1, by rw [hvm.findClass]; exact h2, by rw [hvm.assignable]; exact h3⟩
theorem xT.move {A B : Nat → Prop} {s U : State} {H : Heap} {locs : List Loc} (h : xT A s) (hW : s.WarmedH U.vm) (hS : va_S A s.heap H locs) (hU : U.heap = H) (hBA : ∀ q, B q → A q) : xT B U := by
  obtain ⟨h1, h2, h3, h4, h5, h6, h7, h8, h9⟩ := h
  refine ⟨?_, ?_, va_Nw.warmC hW h3, va_Nw.warmC hW h4, va_Nw.warmD hW h5, va_Nw.warmD hW h6, va_Nw.warmD hW h7, nc_moved hW.alike h8, fun k q hq => ?_⟩
  · rw [hU]; exact (vx_Zq.moved hW.alike (h1.kept hS.2.1)).narrow hBA
  · rw [hU]; exact (vx_Zq.moved hW.alike (h2.kept hS.2.1)).narrow hBA
  · obtain ⟨a, ha⟩ := h9 k q hq
    exact ⟨a, ha.warm hW⟩
def preX (dC : Nat → ClassId) (dI : Nat → Nat → Nat) (cA : Nat → ClassId) (w : va_W) (sz : Nat) (U : State) : Prop := preC dC dI cA w sz U ∧ xT (va_A w sz) U
theorem xT.calling {A : Nat → Prop} {U : State} {g : JFrame} {mk : MethodId} {a : Array Value} (h : xT A U) : xT A (U.calling g mk a) := by
  obtain ⟨h1, h2, h3, h4, h5, h6, h7, h8, h9⟩ := h
  have hv : (U.calling g mk a).vm = U.vm := rfl
  have hh : (U.calling g mk a).heap = U.heap := rfl
  have al : U.vm.Alike (U.calling g mk a).vm := Vm.Alike.refl U.vm
  refine ⟨vx_Zq.moved al h1, vx_Zq.moved al h2, va_Nw.same rfl hv.symm h3, va_Nw.same rfl hv.symm h4, va_Nw.same rfl hv.symm h5, va_Nw.same rfl hv.symm h6, va_Nw.same rfl hv.symm h7, nc_moved al h8, fun k q hq => ?_⟩
  obtain ⟨b, hb⟩ := h9 k q hq
  exact ⟨b, hb.same hv⟩
theorem fbX {av : List Value} {dC : Nat → ClassId} {dI : Nat → Nat → Nat} {cA : Nat → ClassId} {w : va_W} {sz : Nat} : FrameBlind (va_Pc av (preX dC dI cA w sz)) := fun a U g mk q => by
  obtain ⟨q0, q1, q2⟩ := q
  have h := fbC (av := av) (dC := dC) (dI := dI) (cA := cA) (w := w) (sz := sz) a U g mk ⟨q0, q1⟩
  exact ⟨q0, h.2, q2.calling⟩
theorem pK {D : va_G} {cl : List vw_C} {w : va_W} {H H1 : Heap} (hP : va_P D cl w H) (hk : ∀ q : Nat, q < H.size → H1[q]? = H[q]?) : va_P D cl w H1 := hP.kept (fun k q hq => hk q.1 (hP k q hq).lt)
/-- what a method that throws says of its end -/
abbrev xQ (dC : Nat → ClassId) (dI : Nat → Nat → Nat) (cA : Nat → ClassId) (ws : ST → va_W) (KX : String → ST → Prop) (A : Nat → Prop) : String → State → State → Prop := vx_X (fun u : String × ST => KX u.1 u.2) (fun E u t => u.1 = E ∧ atC dC dI cA ws A u.2 t) A
theorem xThrow {dC : Nat → ClassId} {dI : Nat → Nat → Nat} {cA : Nat → ClassId} {ws : ST → va_W} {KX : String → ST → Prop} {A : Nat → Prop} {s : State} {H : Heap} {locs : List Loc} {E : String} {σ : ST} (hP : va_P (dC, dI) vwCl (ws σ) H) (hK : va_K (dC, dI) vwCl (tyC cA) s) (hD : va_D A (ws σ)) (hS : va_S A s.heap H locs) (hwp : KX E σ) :
    ∀ t : State, s.vm.Alike t.vm → H.size ≤ t.heap.size → (∀ q : Nat, q < H.size → t.heap[q]? = H[q]?) → xQ dC dI cA ws KX A E s t := by
  intro t hvm hz hk
  refine ⟨(E, σ), hwp, ⟨rfl, pK hP hk, va_K.moved hvm hK, hD⟩, Nat.le_trans hS.1 hz, fun q h1 h2 => ?_⟩
  rw [hk q (Nat.lt_of_lt_of_le h1 hS.1)]
  exact hS.2.1 q h1 h2
theorem xPass {dC : Nat → ClassId} {dI : Nat → Nat → Nat} {cA : Nat → ClassId} {ws : ST → va_W} {KX : String → ST → Prop} {A B : Nat → Prop} {s t : State} {H : Heap} {locs : List Loc} {E : String} {u : String × ST} (hS : va_S A s.heap H locs) (hpx : KX u.1 u.2) (hB : u.1 = E ∧ atC dC dI cA ws B u.2 t) (ht : t.heap = H) (hvm : s.vm.Alike t.vm) (hBA : ∀ q, B q → A q) :
    ∀ t' : State, t'.heap = H → s.vm.Alike t'.vm → xQ dC dI cA ws KX A E s t' := by
  intro t' ht' hvm'
  obtain ⟨h1, h2, h3, h4⟩ := hB
  refine ⟨u, hpx, ⟨h1, by rw [ht', ← ht]; exact h2, va_K.moved (hvm.symm.trans hvm') h3, h4.weaken (fun _ q _ h => hBA q.1 h)⟩, ?_⟩
  exact ⟨by rw [ht']; exact hS.1, fun q h1 h2 => by rw [ht']; exact hS.2.1 q h1 h2⟩
theorem hatA {args : Array Value} {s : State} {A : Nat → Prop} {Ts : List Cond} (h : xT A s) (hts : ∀ w ∈ Ts, w.before args s = true) (hin : ∀ w ∈ (vx_atS RX8 73 "java/lang/IllegalArgumentException" ["java/lang/RuntimeException", "java/lang/Exception"]).filter goodWord, w ∈ Ts) : ∀ w ∈ vx_atS RX8 73 "java/lang/IllegalArgumentException" ["java/lang/RuntimeException", "java/lang/Exception"], w.before args s = true :=
  vx_hat (B := [.castable "java/lang/IllegalArgumentException" "java/lang/IllegalArgumentException", .declares (Bundle.initS "java/lang/RuntimeException"), .declares (Bundle.initS "java/lang/Exception"), .declares (Bundle.initS "java/lang/Throwable")]) (fun w hw => hts w (hin w hw)) (by decide +kernel)
    (vx_c (h.2.2.1.use rfl) (vx_c (h.2.2.2.2.1.use rfl) (vx_c (h.2.2.2.2.2.1.use rfl) (vx_c (h.2.2.2.2.2.2.1.use rfl) vx_n))))
theorem hatS {args : Array Value} {s : State} {A : Nat → Prop} {Ts : List Cond} (h : xT A s) (hts : ∀ w ∈ Ts, w.before args s = true) (hin : ∀ w ∈ (vx_atS RX8 136 "java/lang/IllegalStateException" ["java/lang/RuntimeException", "java/lang/Exception"]).filter goodWord, w ∈ Ts) : ∀ w ∈ vx_atS RX8 136 "java/lang/IllegalStateException" ["java/lang/RuntimeException", "java/lang/Exception"], w.before args s = true :=
  vx_hat (B := [.castable "java/lang/IllegalStateException" "java/lang/IllegalStateException", .declares (Bundle.initS "java/lang/RuntimeException"), .declares (Bundle.initS "java/lang/Exception"), .declares (Bundle.initS "java/lang/Throwable")]) (fun w hw => hts w (hin w hw)) (by decide +kernel)
    (vx_c (h.2.2.2.1.use rfl) (vx_c (h.2.2.2.2.1.use rfl) (vx_c (h.2.2.2.2.2.1.use rfl) (vx_c (h.2.2.2.2.2.2.1.use rfl) vx_n))))
theorem goodA : ∀ w ∈ Cond.classLink RX8 69 "java/lang/IllegalArgumentException" :: Cond.initialized "java/lang/IllegalArgumentException" :: vx_atS RX8 73 "java/lang/IllegalArgumentException" ["java/lang/RuntimeException", "java/lang/Exception"], vx_ot w = true := by decide +kernel
theorem sw3 (x : Int32) : (x.toInt < 0 ∨ 3 < x.toInt) ∨ x = 0 ∨ x = 1 ∨ x = 2 ∨ x = 3 := by
  have h0 : ∀ k : Int32, x.toInt = k.toInt → x = k := fun k h => Int32.toInt_inj.mp h
  rcases (show (x.toInt < 0 ∨ 3 < x.toInt) ∨ x.toInt = 0 ∨ x.toInt = 1 ∨ x.toInt = 2 ∨ x.toInt = 3 by omega) with h | h | h | h | h
  · exact Or.inl h
  · exact Or.inr (Or.inl (h0 0 h))
  · exact Or.inr (Or.inr (Or.inl (h0 1 h)))
  · exact Or.inr (Or.inr (Or.inr (Or.inl (h0 2 h))))
  · exact Or.inr (Or.inr (Or.inr (Or.inr (h0 3 h))))
theorem sw9 (x : Int32) : (x.toInt < 0 ∨ 9 < x.toInt) ∨ x = 0 ∨ x = 1 ∨ x = 2 ∨ x = 3 ∨ x = 4 ∨ x = 5 ∨ x = 6 ∨ x = 7 ∨ x = 8 ∨ x = 9 := by
  have h0 : ∀ k : Int32, x.toInt = k.toInt → x = k := fun k h => Int32.toInt_inj.mp h
  rcases (show (x.toInt < 0 ∨ 9 < x.toInt) ∨ x.toInt = 0 ∨ x.toInt = 1 ∨ x.toInt = 2 ∨ x.toInt = 3 ∨ x.toInt = 4 ∨ x.toInt = 5 ∨ x.toInt = 6 ∨ x.toInt = 7 ∨ x.toInt = 8 ∨ x.toInt = 9 by omega) with h | h | h | h | h | h | h | h | h | h | h
  · exact Or.inl h
  · exact Or.inr (Or.inl (h0 0 h))
  · exact Or.inr (Or.inr (Or.inl (h0 1 h)))
  · exact Or.inr (Or.inr (Or.inr (Or.inl (h0 2 h))))
  · exact Or.inr (Or.inr (Or.inr (Or.inr (Or.inl (h0 3 h)))))
  · exact Or.inr (Or.inr (Or.inr (Or.inr (Or.inr (Or.inl (h0 4 h))))))
  · exact Or.inr (Or.inr (Or.inr (Or.inr (Or.inr (Or.inr (Or.inl (h0 5 h)))))))
  · exact Or.inr (Or.inr (Or.inr (Or.inr (Or.inr (Or.inr (Or.inr (Or.inl (h0 6 h))))))))
  · exact Or.inr (Or.inr (Or.inr (Or.inr (Or.inr (Or.inr (Or.inr (Or.inr (Or.inl (h0 7 h)))))))))
  · exact Or.inr (Or.inr (Or.inr (Or.inr (Or.inr (Or.inr (Or.inr (Or.inr (Or.inr (Or.inl (h0 8 h))))))))))
  · exact Or.inr (Or.inr (Or.inr (Or.inr (Or.inr (Or.inr (Or.inr (Or.inr (Or.inr (Or.inr (h0 9 h))))))))))
theorem goodS : ∀ w ∈ Cond.classLink RX8 132 "java/lang/IllegalStateException" :: Cond.initialized "java/lang/IllegalStateException" :: vx_atS RX8 136 "java/lang/IllegalStateException" ["java/lang/RuntimeException", "java/lang/Exception"], vx_ot w = true := by decide +kernel
section
variable {p : Program} {l : Launch} {e : Env} {R : Room} {s : State} {m : MethodId} {args : Array Value} {below : List Frame} {meth : Method} {c : Code} {H : Heap} {locs : List Loc} {cells slots : Nat} {Q : State → Prop}
variable {mc ms : Nat} {free : Addr → Prop} {A0 A1 : Nat → Prop} {H0 : Heap} {a : Array Value} {pc : Nat} {ls : Array Slot} {st0 rest : List Value}
theorem vx_calle {ad : Nat → Nat} {S SX : Type} {post : Option Nat → S → Prop} {px : SX → Prop} {B : S → State → Prop} {BX : String → SX → State → Prop} {AX : Nat → Prop} (hr : vx_Run p l e R s m args below meth c H locs cells slots mc ms (F0 m pc ls st0) rest (va_Qe ad post B A1 a) (vx_X px BX AX) free) (hS : va_S A0 H0 H locs) (hA : ∀ q, q < H.size → A1 q → A0 q) (hf : ∀ q, free q → A0 q) (hAX : ∀ q, q < H.size → AX q → A0 q)
    (kx : ∀ (E : String) (ce : Cell) (q9 : Addr) (u : SX) (t : State) (H1 : Heap) (locs1 : List Loc), t.heap = H1 → s.vm.Alike t.vm → px u → BX E u t → H.size ≤ H1.size → (∀ q : Nat, q < H.size → ¬ AX q → H1[q]? = H[q]?) → va_S A0 H0 H1 locs1 → H1[q9]? = some ce → ce.vm = .none → s.vm.findClass E = some ce.cls → vx_W p l e R s m args below meth c H1 locs1 (cells + mc) (slots + ms) Q (F0 m pc ls rest) q9)
    (kk : ∀ (r : Option Nat) (u : S) (t : State) (H1 : Heap) (locs1 : List Loc), t.heap = H1 → s.vm.Alike t.vm → post r u → B u t → H.size ≤ H1.size → (∀ q : Nat, q < H.size → ¬ A1 q → H1[q]? = H[q]?) → va_S A0 H0 H1 locs1 → W p l e R s m args below meth c H1 locs1 (cells + mc) (slots + ms) Q (F0 m (pc + 3) ls (va_re ad r :: rest))) : W p l e R s m args below meth c H locs cells slots Q (F0 m pc ls st0) := by
  intro T hT X
  rcases hr T hT X with ⟨v, st₀, t, T', L, h0, X', hL, e1, e2, ⟨⟨r, u, hv, hp, hb⟩, hF⟩, st⟩ | ⟨q, st₀, t, T', L, E, ce, h0, X', hL, e1, e2, ⟨u, hp, hb, hF⟩, hce, hcv, hcl, st⟩
  · cases hv
    obtain ⟨k1, k2, k3⟩ := vx_keep h0 e1 hS hA hf hL hF
    obtain ⟨t2, a1, b1⟩ := kk r u t T'.heap (locs ++ L) e1.symm (by rw [← e2]; exact X'.warmed.alike) hp hb k1 k2 k3 T' rfl X'
    exact ⟨t2, st t2 a1, b1⟩
  · obtain ⟨k1, k2, k3⟩ := vx_keep h0 e1 hS hAX hf hL hF
    obtain ⟨t2, a1, b1⟩ := kx E ce q u t T'.heap (locs ++ L) e1.symm (by rw [← e2]; exact X'.warmed.alike) hp hb k1 k2 k3 (by rw [e1]; exact hce) hcv hcl T' rfl X'
    exact ⟨t2, st.trans a1, b1⟩
end
