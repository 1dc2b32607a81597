/-! the reference: the State ahead -/
theorem rbec_sl {w : Mm} : sloc 5 w (rbec w 5 4) := by
  unfold rbec
  exact ((((((((((((((sloc.rf.st).st).st).cp).cp).cp).cp).cp).cp).cp).cp).cp).cp).cp).cp
theorem SI_bec {w : Mm} {N D X N' D' X' : Int} (h4 : SI w 4 N D X) (h5 : SI w 5 N' D' X') : SI (rbec w 5 4) 5 N D X := by
  obtain ⟨a1, a2, a3, a4, a5, a6, a7, a8, a9, a10⟩ := h4
  obtain ⟨c1, c2, c3, c4, c5, c6, c7, c8, c9, c10⟩ := h5
  refine ⟨by simpa [rbec, cpy, st1] using a1, by simpa [rbec, cpy, st1] using a2, by simpa [rbec, cpy, st1] using a3, ?_, ?_, ?_, ?_, ?_, ?_, ?_⟩
  · intro j hj
    simpa [rbec, cpy, st1, hj] using a4 j hj
  · intro j hj
    simpa [rbec, cpy, st1, hj] using a5 j hj
  · intro j hj
    simpa [rbec, cpy, st1, hj] using a6 j hj
  · intro j hj
    simpa [rbec, cpy, st1, hj] using a7 j hj
  · intro j hj
    simpa [rbec, cpy, st1, hj] using a8 j hj
  · intro j hj
    have q := a9 j hj
    have q2 := c9 j hj
    simp [rbec, cpy, st1]
    split <;> assumption
  · intro j hj
    have q := a10 j hj
    have q2 := c10 j hj
    simp [rbec, cpy, st1]
    split <;> assumption
theorem SI_th5 {w : Mm} {N D X : Int} (h : SI w 5 N D X) : SI (th0 w) 5 N D X := by simpa [SI, rowR, th0, st1] using h
def rst (W : Mm) (j : Nat) : Nat → Nat → Nat
  | 0, k => k
  | f + 1, k => if rgo W 5 k (5, 0, 6) j = -1 then rst W j f (k + 1) else k
theorem rst_n {W : Mm} {j k : Nat} (hk : k < 201) (h : rgo W 5 k (5, 0, 6) j = -1) : rst W j (201 - k) k = rst W j (201 - (k + 1)) (k + 1) := by
  obtain ⟨f, hf⟩ : ∃ f, 201 - k = f + 1 := ⟨200 - k, by omega⟩
  rw [show 201 - (k + 1) = f from by omega, hf]
  simp [rst, h]
theorem rst_e {W : Mm} {j k : Nat} (hk : k < 201) (h : ¬ rgo W 5 k (5, 0, 6) j = -1) : rst W j (201 - k) k = k := by
  obtain ⟨f, hf⟩ : ∃ f, 201 - k = f + 1 := ⟨200 - k, by omega⟩
  rw [hf]
  simp [rst, h]
theorem rst_0 {W : Mm} {j k : Nat} (hk : k = 201) : rst W j (201 - k) k = k := by
  subst hk
  rfl
def wAh (w : Mm) : Mm := rbec (th0 w) 5 4
