/-! the new world -/
def w0 : Mm := fun k j => if k.1 ≤ 1 ∧ k.2.1 ≤ 7 then (match k.2.2 with | 0 => (match j with | 2 => 1 | 5 => 24 | 6 => -1 | _ => 0) | 2 => -1 | _ => 0) else if k.1 = 4 ∧ k.2.1 = 0 ∧ k.2.2 = 6 then -1 else 0
theorem w0_8 {t p j : Nat} : w0 (t, 8, p) j = 0 := by
  unfold w0
  rw [if_neg (fun h => by have h2 : (8 : Nat) ≤ 7 := h.2; omega), if_neg (fun h => by have h2 : (8 : Nat) = 0 := h.2.1; omega)]
theorem w0_s {t v p j : Nat} (ht : 2 ≤ t) (h : ¬ (t = 4 ∧ p = 6)) : w0 (t, v, p) j = 0 := by
  unfold w0
  rw [if_neg (fun q => by have := q.1; simp only at this; omega), if_neg (fun q => h ⟨q.1, q.2.2⟩)]
theorem w0_k {j : Nat} : w0 (4, 0, 6) j = -1 := by
  unfold w0
  rw [if_neg (fun h => absurd h.1 (by decide)), if_pos ⟨rfl, rfl, rfl⟩]
theorem w0_v {t v j : Nat} (ht : t ≤ 1) (hv : v ≤ 7) : w0 (t, v, 0) j = (match j with | 2 => 1 | 5 => 24 | 6 => -1 | _ => 0) := by
  unfold w0
  rw [if_pos ⟨ht, hv⟩]
  rfl
theorem w0_n {t v j : Nat} (ht : t ≤ 1) (hv : v ≤ 7) : w0 (t, v, 2) j = -1 := by
  unfold w0
  rw [if_pos ⟨ht, hv⟩]
  rfl
theorem w0_p {t v p j : Nat} (ht : t ≤ 1) (hv : v ≤ 7) (h0 : p ≠ 0) (h2 : p ≠ 2) : w0 (t, v, p) j = 0 := by
  unfold w0
  rw [if_pos ⟨ht, hv⟩]
  dsimp only
  split
  · exact absurd rfl h0
  · exact absurd rfl h2
  · rfl
theorem w0_rng : rng w0 := by
  intro k j
  have h1 : inR 1 := ⟨by decide, by decide⟩
  have h2 : inR 24 := ⟨by decide, by decide⟩
  have h3 : inR (-1) := ⟨by decide, by decide⟩
  unfold w0
  split
  · split
    · split
      · exact h1
      · exact h2
      · exact h3
      · exact inR_0
    · exact h3
    · exact inR_0
  · split
    · exact h3
    · exact inR_0
theorem LI_0 {t : Nat} {N D : Int} {X : Nat → Int} (ht : t ≤ 1) (hN : 0 ≤ N) (hD : 0 ≤ D) (hX : ∀ v, 0 ≤ X v) : LI w0 t N D X := by
  refine ⟨?_, ?_, ?_, ?_, fun j hj => ?_, fun v hv => ?_⟩
  · rw [w0_8]; decide
  · rw [w0_8]; decide
  · rw [w0_8]; exact ⟨Int.le_refl _, hN⟩
  · rw [w0_8]; exact ⟨Int.le_refl _, hD⟩
  · rw [w0_8] at hj
    omega
  · have hx := hX v
    unfold vOK
    simp only [w0_v ht hv, w0_p ht hv (show (3 : Nat) ≠ 0 by decide) (show (3 : Nat) ≠ 2 by decide)]
    refine ⟨by decide, by decide, by decide, by decide, by decide, by decide, fun h => absurd trivial h, by decide, ⟨by decide, hx⟩, by decide⟩
theorem rowR_0 {t p n : Nat} {a b : Int} (ht : 2 ≤ t) (h : ¬ (t = 4 ∧ p = 6)) (ha : a ≤ 0) (hb : 0 ≤ b) : rowR w0 (t, 0, p) n a b := fun j _ => by
  rw [w0_s ht h]
  exact ⟨ha, hb⟩
theorem SI_w0 {u : Nat} {N D X : Int} (hu : 2 ≤ u) (hN : 0 ≤ N) (hD : 0 ≤ D) (hX : 0 ≤ X) : SI w0 u N D X := by
  refine ⟨?_, ?_, ?_, rowR_0 hu (by omega) (by decide) (by decide), rowR_0 hu (by omega) (by decide) (by decide), rowR_0 hu (by omega) (by decide) (by decide), rowR_0 hu (by omega) (by decide) (by decide), rowR_0 hu (by omega) (by decide) hX, rowR_0 hu (by omega) (by decide) (by decide), rowR_0 hu (by omega) (by decide) (by decide)⟩
  · rw [w0_s hu (by omega)]; exact ⟨Int.le_refl _, hN⟩
  · rw [w0_s hu (by omega)]; exact ⟨Int.le_refl _, hD⟩
  · rw [w0_s hu (by omega)]; decide
theorem GI_0 : GI ((0 : Nat) : Int) w0 := by
  have z3 : ∀ p j, w0 (3, 0, p) j = 0 := fun p j => w0_s (by decide) (by omega)
  refine ⟨⟨LI_0 (by decide) (by decide) (by decide) (fun _ => by decide), 0, 0, LI_0 (by decide) (by decide) (by decide) (fun _ => by decide)⟩, ⟨SI_w0 (by decide) (by decide) (by decide) (by decide), ⟨0, 0, 0, SI_w0 (by decide) (by decide) (by decide) (by decide)⟩, ?_⟩, ⟨?_, ?_, fun v hv => ?_⟩, fun v h8 hv => ?_, fun p hp => ?_⟩
  · refine ⟨?_, ?_, rowR_0 (by decide) (by omega) (by decide) (by decide), rowR_0 (by decide) (by omega) (by decide) (by decide), rowR_0 (by decide) (by omega) (by decide) (by decide), rowR_0 (by decide) (by omega) (by decide) (by decide)⟩
    · rw [z3]; decide
    · rw [z3]; decide
  · refine ⟨?_, ?_, fun p hp => ?_, fun v hv => ?_⟩
    · rw [w0_8, z3]
    · rw [w0_8, z3]
    · rw [w0_8] at hp; omega
    · rw [w0_8] at hv; omega
  · refine ⟨?_, ?_, fun j hj => ?_, fun v hv => ?_⟩
    · rw [w0_8, w0_s (by decide) (by omega)]
    · rw [w0_8, w0_s (by decide) (by omega)]
    · rw [w0_s (by decide) (by omega)] at hj; omega
    · rw [w0_8] at hv; omega
  · rw [w0_8] at hv; omega
  · have hv7 : v ≤ 7 := by omega
    have e0 : ∀ j, w0 (0, v, 0) j = (match j with | 2 => 1 | 5 => 24 | 6 => -1 | _ => 0) := fun j => w0_v (by decide) hv7
    have e1 : ∀ j, w0 (0, v, 1) j = 0 := fun j => w0_p (by decide) hv7 (by decide) (by decide)
    have e2 : ∀ j, w0 (0, v, 2) j = -1 := fun j => w0_n (by decide) hv7
    have e4 : ∀ p j, ¬ p = 6 → w0 (4, 0, p) j = 0 := fun p j hp => w0_s (by decide) (by omega)
    refine ⟨?_, ?_, ?_, ?_, ?_, ?_, ?_, ?_, fun p _ => e2 p, ?_⟩
    · rw [e0, z3]; rfl
    · rw [e0, z3]; rfl
    · rw [e0]; rfl
    · rw [e0]; rfl
    · rw [e0]; rfl
    · rw [e4 3 v (by decide)]
    · unfold DC DR
      refine Dt_ext ?_ ?_ ?_ ?_
      · rw [e0, e4 4 v (by decide)]; rfl
      · congr 1
        funext j
        rw [e1, e4 5 _ (by decide)]
      · congr 1
        funext j
        rw [e2, w0_k]
      · rw [e0, e4 7 v (by decide)]; rfl
    · rw [e0]; rfl
    · exact w0_p (by decide) hv7 (by decide) (by decide)
  · rw [w0_8] at hp; omega
