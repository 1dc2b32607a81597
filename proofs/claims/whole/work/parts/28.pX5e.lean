/-! the reference: the search for a larger drum -/
theorem SI.sl5 {w w' : Mm} {N D X : Int} (h : SI w 4 N D X) (hl : sloc 5 w w') : SI w' 4 N D X := by
  have hw : ∀ p j, w' (4, 0, p) j = w (4, 0, p) j := fun p j => hl _ j (show (4 : Nat) ≠ 5 by decide)
  obtain ⟨a1, a2, a3, a4, a5, a6, a7, a8, a9, a10⟩ := h
  refine ⟨by rw [hw]; exact a1, by rw [hw]; exact a2, by rw [hw]; exact a3, a4.cg (hw _), a5.cg (hw _), a6.cg (hw _), a7.cg (hw _), a8.cg (hw _), a9.cg (hw _), a10.cg (hw _)⟩
theorem sumI_m {f : Nat → Int} {b : Int} (hb : 0 ≤ b) (h : ∀ i, 0 ≤ f i ∧ f i ≤ b) : ∀ n : Nat, n ≤ 12 → 0 ≤ sumI f n ∧ sumI f n ≤ 12 * b
  | n, hn => by
    have key : ∀ n : Nat, n ≤ 12 → 0 ≤ sumI f n ∧ sumI f n ≤ n * b := by
      intro n
      induction n with
      | zero => intro _; exact ⟨Int.le_refl 0, by simp [sumI]⟩
      | succ n ih =>
        intro h9
        have h1 := ih (by omega)
        have h2 := h n
        have e : ((n + 1 : Nat) : Int) * b = n * b + b := by rw [Int.natCast_add, Int.add_mul]; simp
        simp only [sumI]
        omega
    have h1 := key n hn
    have h2 : (n : Int) * b ≤ 12 * b := Int.mul_le_mul_of_nonneg_right (by omega) hb
    omega
theorem rprs_b {w : Mm} {u : Nat} (hM : MI w) : 0 ≤ rprs w u ∧ rprs w u ≤ 144 := by
  obtain ⟨⟨v1, v2⟩, ⟨p1, p2⟩, _⟩ := hM
  exact sumI_m (b := 12) (by decide) (fun i => sumI_m (b := 1) (by decide) (fun j => by rcases bI_01 (¬ w (u, 0, 6) (12 * (j : Int) + (i : Int)).toNat = -1) with q | q <;> rw [q] <;> decide) _ (by omega)) _ (by omega)
def rl1 (w : Mm) (i : Nat) : Mm := if i = 0 then rbec w 5 4 else st1 (rbec w 5 4) (5, 0, 1) (i - 1) (rbec w 5 4 (5, 0, 1) (i - 1) + 1)
def rlg (W : Mm) (n : Nat) : Nat → Mm × Int × Int
  | 0 => (W, -1, 0)
  | i + 1 =>
    if ¬ i = 0 ∧ (rlg W n i).1 (4, 0, 1) (i - 1) = 9 then rlg W n i
    else (rgo (rl1 (rlg W n i).1 i) 5 n, if ¬ i = 0 ∧ (rlg W n i).2.2 < rprs (rgo (rl1 (rlg W n i).1 i) 5 n) 5 then (i : Int) - 1 else (rlg W n i).2.1, max (rlg W n i).2.2 (rprs (rgo (rl1 (rlg W n i).1 i) 5 n) 5))
theorem rl1_sl {w : Mm} {i : Nat} : sloc 5 w (rl1 w i) := by
  unfold rl1
  split
  · exact rbec_sl
  · exact rbec_sl.st
theorem SI_l1 {w : Mm} {i : Nat} {N D X N' D' X' : Int} (h4 : SI w 4 N D X) (h5 : SI w 5 N' D' X') (hi : i ≤ 8) (hd : ¬ (¬ i = 0 ∧ w (4, 0, 1) (i - 1) = 9)) : SI (rl1 w i) 5 N D X := by
  have h := SI_bec h4 h5
  unfold rl1
  split
  · exact h
  · rename_i h0
    obtain ⟨a1, a2, a3, a4, a5, a6, a7, a8, a9, a10⟩ := h
    have q := a4 (i - 1) (by omega)
    have e : rbec w 5 4 (5, 0, 1) (i - 1) = w (4, 0, 1) (i - 1) := by
      have hlt : i - 1 < 8 := by omega
      simp [rbec, cpy, st1, hlt]
    refine ⟨by simpa [st1] using a1, by simpa [st1] using a2, by simpa [st1] using a3, a4.st (fun _ => by rw [e] at q ⊢; exact ⟨by omega, by omega⟩), a5.so (by simp), a6.so (by simp), a7.so (by simp), a8.so (by simp), a9.so (by simp), a10.so (by simp)⟩
theorem rlg_inv {W : Mm} {n : Nat} {N D X N' D' X' : Int} (h4 : SI W 4 N D X) (h5 : SI W 5 N' D' X') (hM : MI W)
    (hs : ∀ i j : Nat, i ≤ 8 → j < n → ¬ (¬ i = 0 ∧ W (4, 0, 1) (i - 1) = 9) → rgo (rl1 (rlg W n i).1 i) 5 j (5, 0, 0) 2 ≤ 896) : ∀ i : Nat, i ≤ 9 → sloc 5 W (rlg W n i).1 ∧ (∃ a b c, SI (rlg W n i).1 5 a b c) ∧ 0 ≤ (rlg W n i).2.2 ∧ (rlg W n i).2.2 ≤ 144
  | 0, _ => ⟨sloc.rf, ⟨_, _, _, h5⟩, Int.le_refl 0, (show (0 : Int) ≤ 144 by decide)⟩
  | i + 1, hi => by
    obtain ⟨i1, ⟨a, b, c, i2⟩, i3, i4⟩ := rlg_inv h4 h5 hM hs i (by omega)
    have e := i1 (4, 0, 1) (i - 1) (by decide)
    unfold rlg
    split
    · exact ⟨i1, ⟨a, b, c, i2⟩, i3, i4⟩
    · rename_i h0
      have h9 := SI_l1 (h4.sl5 i1) i2 (by omega) h0
      obtain ⟨g1, g2⟩ := SI_go (by decide) h9 ((hM.sl i1 (by decide)).sl rl1_sl (by decide)) n (fun j hj => hs i j (by omega) hj (by rw [← e]; exact h0))
      have g3 := rprs_b (u := 5) (((hM.sl i1 (by decide)).sl rl1_sl (by decide)).sl g2 (by decide))
      refine ⟨(i1.tr rl1_sl).tr g2, ⟨_, _, _, g1⟩, ?_, ?_⟩
      · show 0 ≤ max _ _
        omega
      · show max _ _ ≤ 144
        omega
