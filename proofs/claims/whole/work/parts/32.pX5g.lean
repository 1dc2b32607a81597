/-! the reference: a new phrase -/
def ph (n : Int) : Nat → Int × Bool
  | 0 => (n, decide (0 < n))
  | k + 1 => ((ph n k).1 / 10, (ph n k).2 && decide (1 ≤ (ph n k).1 % 10 ∧ (ph n k).1 % 10 ≤ 2))
def phk (n : Int) : Nat → Nat → Nat
  | 0, k => k
  | f + 1, k => if 0 < (ph n k).1 then phk n f (k + 1) else k
theorem ph_s {n : Int} (k : Nat) : bI ((ph n (k + 1)).2 = true) = bI ((ph n k).2 = true ∧ (1 ≤ (ph n k).1 % 10 ∧ (ph n k).1 % 10 ≤ 2)) := bI_iff (by simp [ph])
theorem phk_n {n : Int} {k : Nat} (hk : (ph n k).1.toNat + k ≤ n.toNat) (h : 0 < (ph n k).1) : phk n (n.toNat + 1 - k) k = phk n (n.toNat + 1 - (k + 1)) (k + 1) := by
  obtain ⟨f, hf⟩ : ∃ f, n.toNat + 1 - k = f + 1 := ⟨n.toNat - k, by omega⟩
  rw [show n.toNat + 1 - (k + 1) = f from by omega, hf]
  simp [phk, h]
theorem phk_e {n : Int} {k : Nat} (hk : (ph n k).1.toNat + k ≤ n.toNat) (h : ¬ 0 < (ph n k).1) : phk n (n.toNat + 1 - k) k = k := by
  obtain ⟨f, hf⟩ : ∃ f, n.toNat + 1 - k = f + 1 := ⟨n.toNat - k, by omega⟩
  rw [hf]
  simp [phk, h]
def rdp (w : Mm) (n : Int) : Nat → Bool
  | 0 => decide (w (3, 0, 0) 2 = 12)
  | i + 1 => rdp w n i || decide (w (3, 0, 6) i = n)
theorem rdp_s {w : Mm} {n : Int} (i : Nat) : bI (rdp w n (i + 1) = true) = bI (rdp w n i = true ∨ w (3, 0, 6) i = n) := bI_iff (by simp [rdp])
theorem rdp_z {w : Mm} {n : Int} : bI (rdp w n 0 = true) = bI (w (3, 0, 0) 2 = 12) := bI_iff (by simp [rdp])
theorem rdp_12 {w : Mm} {n : Int} : ∀ {i}, ¬ rdp w n i = true → ¬ w (3, 0, 0) 2 = 12
  | 0, h => fun q => h (by simp [rdp, q])
  | i + 1, h => rdp_12 (n := n) (i := i) (fun q => h (by simp [rdp, q]))
def rphr (w : Mm) (n : Int) (k : Nat) : Mm := st1 (st1 (st1 (th0 w) (3, 0, 6) (w (3, 0, 0) 2).toNat n) (3, 0, 7) (w (3, 0, 0) 2).toNat (k : Int)) (3, 0, 0) 2 (w (3, 0, 0) 2 + 1)
