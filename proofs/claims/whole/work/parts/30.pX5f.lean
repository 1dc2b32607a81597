/-! the reference: the search for the best hour -/
theorem SI_tl {w : Mm} {u : Nat} {v p : Int} {N D X : Int} (h : SI w u N D X) (hv : 0 ≤ v ∧ v ≤ 7) (hp : 0 ≤ p ∧ p ≤ 11) (hq : w (u, 0, 4) v.toNat < 5) : SI (rput (rlrn w u v p) u v p) u N D X := by
  obtain ⟨a1, a2, a3, a4, a5, a6, a7, a8, a9, a10⟩ := h
  have q := a6 v.toNat (by omega)
  have e : ∀ k j, k ≠ (u, 0, 6) → rlrn w u v p k j = w k j := fun k j hk => rlrn_off hk
  have e4 : rlrn w u v p (u, 0, 4) v.toNat = w (u, 0, 4) v.toNat := e _ _ (by simp)
  unfold rput
  refine ⟨?_, ?_, ?_, ?_, ?_, ?_, ?_, ?_, ?_, ?_⟩
  · rw [st1_k (by simp), st1_k (by simp), e _ _ (by simp)]; exact a1
  · rw [st1_k (by simp), st1_k (by simp), e _ _ (by simp)]; exact a2
  · rw [st1_k (by simp), st1_k (by simp), e _ _ (by simp)]; exact a3
  · exact ((a4.cg (fun j => e _ j (by simp))).so (by simp)).so (by simp)
  · exact ((a5.cg (fun j => e _ j (by simp))).so (by simp)).so (by simp)
  · exact ((a6.cg (fun j => e _ j (by simp))).so (by simp)).st (fun _ => by rw [e4]; exact ⟨by omega, by omega⟩)
  · exact ((a7.cg (fun j => e _ j (by simp))).st (fun _ => hp)).so (by simp)
  · exact ((a8.cg (fun j => e _ j (by simp))).so (by simp)).so (by simp)
  · exact ((a9.cg (fun j => e _ j (by simp))).so (by simp)).so (by simp)
  · exact ((a10.cg (fun j => e _ j (by simp))).so (by simp)).so (by simp)
theorem tl_sl {w : Mm} {v p : Int} : sloc 5 w (rput (rlrn w 5 v p) 5 v p) := by
  unfold rput
  refine sloc.st (sloc.st ?_)
  intro k j hk
  exact rlrn_off (fun q => hk (by rw [q]))
def rbh (m : Mm) (v p : Int) (i t : Nat) : Mm := if (t : Int) = (i : Int) - 1 ∧ m (5, 0, 4) v.toNat < 5 then rput (rlrn m 5 v p) 5 v p else m
def rbi (M : Mm) (v p : Int) (i : Nat) : Nat → Mm
  | 0 => rbec M 5 4
  | t + 1 => rbeat (rbh (rbi M v p i t) v p i t) 5
def rbs (W : Mm) (v p : Int) : Nat → Mm × Int × Int
  | 0 => (W, -1, 0)
  | i + 1 => (rbi (rbs W v p i).1 v p i 80, if ¬ i = 0 ∧ (rbs W v p i).2.2 < rkn (rbi (rbs W v p i).1 v p i 80) 5 p (rbi (rbs W v p i).1 v p i 80 (3, 0, 0) 1).toNat then (i : Int) - 1 else (rbs W v p i).2.1, max (rbs W v p i).2.2 (rkn (rbi (rbs W v p i).1 v p i 80) 5 p (rbi (rbs W v p i).1 v p i 80 (3, 0, 0) 1).toNat))
theorem rbh_f {m : Mm} {v p : Int} {i t : Nat} {N D X : Int} (h : SI m 5 N D X) (hv : 0 ≤ v ∧ v ≤ 7) (hp : 0 ≤ p ∧ p ≤ 11) : SI (rbh m v p i t) 5 N D X ∧ sloc 5 m (rbh m v p i t) ∧ rbh m v p i t (5, 0, 0) 2 = m (5, 0, 0) 2 := by
  unfold rbh
  split
  · rename_i q
    refine ⟨SI_tl h hv hp q.2, tl_sl, ?_⟩
    unfold rput
    rw [st1_k (by simp), st1_k (by simp), rlrn_off (by simp)]
  · exact ⟨h, sloc.rf, rfl⟩
theorem rbi_inv {M : Mm} {v p : Int} {i : Nat} {N D X N' D' X' : Int} (h4 : SI M 4 N D X) (h5 : SI M 5 N' D' X') (hM : MI M) (hv : 0 ≤ v ∧ v ≤ 7) (hp : 0 ≤ p ∧ p ≤ 11)
    : ∀ t : Nat, (∀ j, j < t → rbi M v p i j (5, 0, 0) 2 ≤ 896) → SI (rbi M v p i t) 5 (N + t) (D + 8 * t) (X + 1024 * t) ∧ sloc 5 M (rbi M v p i t)
  | 0, _ => ⟨by simpa [rbi] using SI_bec h4 h5, rbec_sl⟩
  | t + 1, hs => by
    obtain ⟨i1, i2⟩ := rbi_inv h4 h5 hM hv hp t (fun j hj => hs j (by omega))
    obtain ⟨f1, f2, f3⟩ := rbh_f (i := i) (t := t) i1 hv hp
    have hn : rbh (rbi M v p i t) v p i t (5, 0, 0) 2 ≤ 896 := by rw [f3]; exact hs t (by omega)
    have hM2 := (hM.sl i2 (by decide)).sl f2 (by decide)
    have g := (SI_beat (by decide) f1 hM2 hn).2.2.2.2.2
    refine ⟨?_, (i2.tr f2).tr (rbeat_sl (by decide) f1 hM2 hn)⟩
    have e1 : N + ((t + 1 : Nat) : Int) = N + t + 1 := by omega
    have e2 : D + 8 * ((t + 1 : Nat) : Int) = D + 8 * t + 8 := by omega
    have e3 : X + 1024 * ((t + 1 : Nat) : Int) = X + 1024 * t + 1024 := by omega
    rw [e1, e2, e3]
    exact g
theorem rkn_b {w : Mm} {u : Nat} {p : Int} (hM : MI w) : 0 ≤ rkn w u p (w (3, 0, 0) 1).toNat ∧ rkn w u p (w (3, 0, 0) 1).toNat ≤ 12 := by
  have hv := hM.1
  have h := sumI_m (f := fun v : Nat => bI (¬ w (u, 0, 6) (12 * (v : Int) + p).toNat = -1)) (b := 1) (by decide) (fun j => by rcases bI_01 (¬ w (u, 0, 6) (12 * (j : Int) + p).toNat = -1) with q | q <;> simp only [q] <;> decide) (w (3, 0, 0) 1).toNat (by omega)
  exact ⟨h.1, by have := h.2; unfold rkn; omega⟩
theorem rbs_inv {W : Mm} {v p : Int} {N D X N' D' X' : Int} (h4 : SI W 4 N D X) (h5 : SI W 5 N' D' X') (hM : MI W) (hv : 0 ≤ v ∧ v ≤ 7) (hp : 0 ≤ p ∧ p ≤ 11)
    (hs : ∀ i j : Nat, i < 25 → j < 80 → rbi (rbs W v p i).1 v p i j (5, 0, 0) 2 ≤ 896) : ∀ i : Nat, i ≤ 25 → sloc 5 W (rbs W v p i).1 ∧ (∃ a b c, SI (rbs W v p i).1 5 a b c) ∧ 0 ≤ (rbs W v p i).2.2 ∧ (rbs W v p i).2.2 ≤ 12
  | 0, _ => ⟨sloc.rf, ⟨_, _, _, h5⟩, Int.le_refl 0, (show (0 : Int) ≤ 12 by decide)⟩
  | i + 1, hi => by
    obtain ⟨i1, ⟨a, b, c, i2⟩, i3, i4⟩ := rbs_inv h4 h5 hM hv hp hs i (by omega)
    obtain ⟨g1, g2⟩ := rbi_inv (i := i) (h4.sl5 i1) i2 (hM.sl i1 (by decide)) hv hp 80 (fun j hj => hs i j (by omega) hj)
    have g3 := rkn_b (u := 5) (p := p) ((hM.sl i1 (by decide)).sl g2 (by decide))
    refine ⟨i1.tr g2, ⟨_, _, _, g1⟩, ?_, ?_⟩
    · show 0 ≤ max _ _
      omega
    · show max _ _ ≤ 12
      omega
