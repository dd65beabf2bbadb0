/-- the law's two out rows, and the class side's world behind them -/
def Wo (cA : Nat → ClassId) (b1 b2 : Nat) (o : Nat → Int64) (d : Nat → UInt64) : va_W := [(b1, .inl (cA 5, 1, .inr (.inl o))), (b2, .inl (cA 0, 1, .inr (.inr (.inr (.inl d)))))]
def Wl (cA : Nat → ClassId) (b1 b2 : Nat) (ad : Nat → Nat → Nat) (n : Nat) (o : Nat → Int64) (d : Nat → UInt64) (σ : ST) : va_W := Wo cA b1 b2 o d ++ Wc cA ad n σ
section CUT
variable {D : va_G} {cl : List vw_C} {H H1 : Heap} {A : Nat → Prop} {w1 w2 w3 v : va_W}
theorem rP (h : va_P D cl (w1 ++ w2) H) : va_P D cl w2 H := fun k q hk => h (w1.length + k) q (by rw [ap_r w1 w2 _ _ rfl]; exact hk)
theorem lP (h : va_P D cl (w1 ++ w2) H) : va_P D cl w1 H := fun k q hk => h k q (by rw [List.getElem?_append_left (List.getElem?_eq_some_iff.mp hk).1]; exact hk)
theorem rD (h : va_D A (w1 ++ w2)) : va_D A w2 := by
  refine ⟨fun i j p q hi hj he => ?_, fun k q hk => ?_⟩
  · have := h.1 (w1.length + i) (w1.length + j) p q (by rw [ap_r w1 w2 _ _ rfl]; exact hi) (by rw [ap_r w1 w2 _ _ rfl]; exact hj) he
    omega
  · exact h.2 (w1.length + k) q (by rw [ap_r w1 w2 _ _ rfl]; exact hk)
theorem lD (h : va_D A (w1 ++ w2)) : va_D A w1 := by
  have e : ∀ (k : Nat) (q : Nat × va_E), w1[k]? = some q → (w1 ++ w2)[k]? = some q := fun k q hk => by rw [List.getElem?_append_left (List.getElem?_eq_some_iff.mp hk).1]; exact hk
  exact ⟨fun i j p q hi hj he => h.1 i j p q (e i p hi) (e j q hj) he, fun k q hk => h.2 k q (e k q hk)⟩
theorem xD (h : va_D A (w1 ++ w2)) {i j : Nat} {p q : Nat × va_E} (hi : w1[i]? = some p) (hj : w2[j]? = some q) : p.1 ≠ q.1 := by
  intro he
  have hl := (List.getElem?_eq_some_iff.mp hi).1
  have := h.1 i (w1.length + j) p q (by rw [List.getElem?_append_left hl]; exact hi) (by rw [ap_r w1 w2 _ _ rfl]; exact hj) he
  omega
theorem jR (hP : va_P D cl (w1 ++ w2) H) (hD : va_D A (w1 ++ w2)) (hk : ∀ q : Nat, q < H.size → ¬ va_A w2 H.size q → H1[q]? = H[q]?) (hF : ∀ q, va_A w2 H.size q → A q) (hP1 : va_P D cl v H1) (hD1 : va_D (va_A w2 H.size) v) : va_P D cl (w1 ++ v) H1 ∧ va_D A (w1 ++ v) := by
  have apart : ∀ (k : Nat) (q : Nat × va_E), w1[k]? = some q → q.1 < H.size ∧ ¬ va_A w2 H.size q.1 := by
    intro k q hq
    have hl := (lP hP k q hq).lt
    refine ⟨hl, fun h => ?_⟩
    rcases h with ⟨k2, e, h⟩ | h
    · exact xD hD hq h rfl
    · omega
  refine ⟨va_P.app (fun k q hq => ?_) hP1, va_D.app (lD hD) (hD1.weaken (fun k q _ h => hF q.1 h)) (fun i j x y hx hy hxy => ?_)⟩
  · obtain ⟨g1, g2⟩ := apart k q hq
    exact (lP hP k q hq).kept (hk q.1 g1 g2)
  · exact (apart i x hx).2 (by rw [hxy]; exact hD1.2 j y hy)
theorem jL (hP : va_P D cl (w1 ++ w2) H) (hD : va_D A (w1 ++ w2)) (hk : ∀ q : Nat, q < H.size → ¬ va_A w1 H.size q → H1[q]? = H[q]?) (hF : ∀ q, va_A w1 H.size q → A q) (hP1 : va_P D cl v H1) (hD1 : va_D (va_A w1 H.size) v) : va_P D cl (v ++ w2) H1 ∧ va_D A (v ++ w2) := by
  have apart : ∀ (k : Nat) (q : Nat × va_E), w2[k]? = some q → q.1 < H.size ∧ ¬ va_A w1 H.size q.1 := by
    intro k q hq
    have hl := (rP hP k q hq).lt
    refine ⟨hl, fun h => ?_⟩
    rcases h with ⟨k2, e, h⟩ | h
    · exact xD hD h hq rfl
    · omega
  refine ⟨va_P.app hP1 (fun k q hq => ?_), va_D.app (hD1.weaken (fun k q _ h => hF q.1 h)) (rD hD) (fun i j x y hx hy hxy => ?_)⟩
  · obtain ⟨g1, g2⟩ := apart k q hq
    exact (rP hP k q hq).kept (hk q.1 g1 g2)
  · exact (apart j y hy).2 (by rw [← hxy]; exact hD1.2 i x hx)
theorem jM (hP : va_P D cl ((w1 ++ w2) ++ w3) H) (hD : va_D A ((w1 ++ w2) ++ w3)) (hk : ∀ q : Nat, q < H.size → ¬ va_A w2 H.size q → H1[q]? = H[q]?) (hF : ∀ q, va_A w2 H.size q → A q) (hP1 : va_P D cl v H1) (hD1 : va_D (va_A w2 H.size) v) : va_P D cl ((w1 ++ v) ++ w3) H1 ∧ va_D A ((w1 ++ v) ++ w3) := by
  have hP' : va_P D cl (w1 ++ (w2 ++ w3)) H := by rw [← List.append_assoc]; exact hP
  have hD' : va_D A (w1 ++ (w2 ++ w3)) := by rw [← List.append_assoc]; exact hD
  have h2 := jL (rP hP') (rD hD') hk hF hP1 hD1
  have hs : ∀ q : Nat, q < H.size → ¬ va_A (w2 ++ w3) H.size q → H1[q]? = H[q]? := fun q h1 hn => hk q h1 (fun z => hn (by
    rcases z with ⟨k, e, z⟩ | z
    · exact Or.inl ⟨k, e, by rw [List.getElem?_append_left (List.getElem?_eq_some_iff.mp z).1]; exact z⟩
    · exact Or.inr z))
  have hF2 : ∀ q, va_A (w2 ++ w3) H.size q → A q ∨ H.size ≤ q := fun q z => by
    rcases z with ⟨k, e, z⟩ | z
    · exact Or.inl ((rD hD').2 k (q, e) z)
    · exact Or.inr z
  have hF3 : ∀ q, va_A (w2 ++ w3) H.size q → A q := fun q z => by
    rcases hF2 q z with h | h
    · exact h
    · exact hF q (Or.inr h)
  have hj := jR (v := v ++ w3) (H1 := H1) hP' hD' hs hF3 h2.1 (by
    refine ⟨h2.2.1, fun k q hk2 => ?_⟩
    by_cases hv : k < v.length
    · rw [List.getElem?_append_left hv] at hk2
      rcases hD1.2 k q hk2 with ⟨a, e, z⟩ | z
      · exact Or.inl ⟨a, e, by rw [List.getElem?_append_left (List.getElem?_eq_some_iff.mp z).1]; exact z⟩
      · exact Or.inr z
    · rw [List.getElem?_append_right (by omega)] at hk2
      exact Or.inl ⟨w2.length + (k - v.length), q.2, by rw [ap_r w2 w3 _ _ rfl]; exact hk2⟩)
  rw [List.append_assoc]
  exact hj
end CUT
