/-! the tie: looking ahead -/
theorem st1_x {w : Mm} {k k' : Ky} {j j' : Nat} {x : Int} (h : j' ≠ j) : st1 w k j x k' j' = w k' j' := by
  unfold st1
  rw [if_neg (fun q => h q.2)]
theorem TT.sl {wc wc' wr wr' : Mm} {N D N' D' X' : Int} {X : Nat → Int} (hL : LI wc 0 N D X) (hR : SI wr 4 N' D' X') (hT : TT wc wr 0 4) (h1 : sloc 1 wc wc') (h5 : sloc 5 wr wr') : TT wc' wr' 0 4 :=
  hT.mv (CS.of (fun v p j => h1 _ j (show (0 : Nat) ≠ 1 by decide))) (RC.of (fun p j => h5 _ j (show (4 : Nat) ≠ 5 by decide)) (fun p j _ => h5 _ j (show (3 : Nat) ≠ 5 by decide))) hL.1.2 hL.2.1.2 (fun v hv => by have := hL.1; exact (hL.v (v := v) (by omega)).2.2.2.2.2.2.2.1.2) hR.2.2.1.1
theorem copy_TT {m M : Mm} {N D N1 D1 N' D' X' N5 D5 X5 : Int} {X X1 : Nat → Int} (hL : LI m 0 N D X) (hL1 : LI m 1 N1 D1 X1) (hR : SI M 4 N' D' X') (hR5 : SI M 5 N5 D5 X5) (hM : MI M) (hT : TT m M 0 4) : TT (s0cp m 1 0) (rbec M 5 4) 1 5 ∧ LI (s0cp m 1 0) 1 N D (fun u => max (X u) (X1 u)) ∧ SI (rbec M 5 4) 5 N' D' X' ∧ MI (rbec M 5 4) :=
  ⟨hT.mv (cp_CS hL) bec_RC hL.1.2 hL.2.1.2 (fun v hv => by have := hL.1; exact (hL.v (v := v) (by omega)).2.2.2.2.2.2.2.1.2) hR.2.2.1.1, LI_cp (by decide) hL hL1, SI_bec hR hR5, hM.sl rbec_sl (by decide)⟩
theorem go_all {t u : Nat} {wc wr : Mm} {N D N' D' X' : Int} {X : Nat → Int} (hu : u ≠ 3) (n : Nat) (hL : LI wc t N D X) (hR : SI wr u N' D' X') (hM : MI wr) (hT : TT wc wr t u) : TT (s0go t n wc).1 (rgo wr u n) t u ∧ LI (s0go t n wc).1 t (N + n) (D + 8 * n) (fun v => X v + 112 * n) ∧ SI (rgo wr u n) u (N' + n) (D' + 8 * n) (X' + 1024 * n) ∧ MI (rgo wr u n) ∧ (∀ i, i ≤ n → rgo wr u i (u, 0, 0) 2 ≤ 896) ∧ sloc u wr (rgo wr u n) := by
  obtain ⟨g1, -, g3⟩ := go_sim hu n hL hR hM hT
  obtain ⟨s1, s2⟩ := SI_go (fun q => hu q.symm) hR hM n (fun i hi => g3 i (by omega))
  exact ⟨g1, LI_go n hL, s1, hM.sl s2 (fun q => hu q.symm), g3, s2⟩
/-- reaches -/
theorem lgo_all {wc wr : Mm} {N D N' D' X' : Int} {X : Nat → Int} (hL : LI wc 1 N D X) (hR : SI wr 5 N' D' X') (hM : MI wr) (hT : TT wc wr 1 5) : ∀ k, TT (lgo wc k) (rgo wr 5 k) 1 5 ∧ (∃ a b c, LI (lgo wc k) 1 a b c) ∧ (∃ a b c, SI (rgo wr 5 k) 5 a b c) ∧ MI (rgo wr 5 k)
  | 0 => ⟨hT, ⟨_, _, _, hL⟩, ⟨_, _, _, hR⟩, hM⟩
  | k + 1 => by
    obtain ⟨i1, ⟨a, b, c, i2⟩, ⟨d, e, f, i3⟩, i4⟩ := lgo_all hL hR hM hT k
    obtain ⟨g1, g2, g3, g4, -, -⟩ := go_all (by decide) 1 i2 i3 i4 i1
    exact ⟨g1, ⟨_, _, _, g2⟩, ⟨_, _, _, g3⟩, g4⟩
theorem reach_sim {w r : Mm} {v p : Nat} {N D N1 D1 N' D' X' N5 D5 X5 : Int} {X X1 : Nat → Int} (hL : LI w 0 N D X) (hL1 : LI w 1 N1 D1 X1) (hR : SI r 4 N' D' X') (hR5 : SI r 5 N5 D5 X5) (hM : MI r) (hT : TT w r 0 4) (hv : (v : Int) < w (0, 8, 0) 1) (hp : p < 12) : (∀ i, rgo (rbec r 5 4) 5 i (5, 0, 0) 2 ≤ 896) ∧ ∀ f k, lst (s0cp w 1 0) v (p : Int) f k = rst (rbec r 5 4) (12 * v + p) f k := by
  obtain ⟨c1, c2, c3, c4⟩ := copy_TT hL hL1 hR hR5 hM hT
  have hall := lgo_all c2 c3 c4 c1
  have hVe : ∀ k, lgo (s0cp w 1 0) k (1, 8, 0) 1 = w (0, 8, 0) 1 := fun k => by
    have h1 := (hall k).1.V
    have h2 : rgo (rbec r 5 4) 5 k (3, 0, 0) 1 = r (3, 0, 0) 1 := by
      have hs : ∀ k, sloc 5 (rbec r 5 4) (rgo (rbec r 5 4) 5 k) := by
        intro k
        induction k with
        | zero => exact sloc.rf
        | succ k ih =>
          obtain ⟨i1, ⟨a, b, c, i2⟩, ⟨d, e, f, i3⟩, i4⟩ := hall k
          exact ih.tr (go_all (by decide) 1 i2 i3 i4 i1).2.2.2.2.2
      exact (hs k _ _ (by decide)).trans (rbec_sl _ _ (by decide))
    rw [h1, h2, hT.V]
  refine ⟨fun i => ?_, fun f => ?_⟩
  · obtain ⟨i1, ⟨a, b, c, i2⟩, ⟨d, e, f, i3⟩, i4⟩ := hall i
    exact size_896 i3.2.2.1.1 i2.1.1 i2.1.2 i1.2.1 i1.2.2
  · induction f with
    | zero => intro k; rfl
    | succ f ih =>
      intro k
      have hk := kno_eq (v := v) hp (hall k).1 (by rw [hVe]; exact hv)
      simp only [lst, rst]
      rw [ih (k + 1)]
      by_cases c : rgo (rbec r 5 4) 5 k (5, 0, 6) (12 * v + p) = -1
      · rw [if_pos c, if_neg (fun q => (hk.mp q) c)]
      · rw [if_neg c, if_pos (hk.mpr c)]
/-- best -/
theorem rbi_0 {M : Mm} {v p : Int} : ∀ t, rbi M v p 0 t = rgo (rbec M 5 4) 5 t
  | 0 => rfl
  | t + 1 => by
    show rbeat (rbh (rbi M v p 0 t) v p 0 t) 5 = _
    unfold rbh
    rw [if_neg (fun q => by have := q.1; omega), rbi_0 t]
    rfl
theorem rbi_lo {M : Mm} {v p : Int} {i : Nat} : ∀ t, t ≤ i → rbi M v p (i + 1) t = rgo (rbec M 5 4) 5 t
  | 0, _ => rfl
  | t + 1, h => by
    show rbeat (rbh (rbi M v p (i + 1) t) v p (i + 1) t) 5 = _
    unfold rbh
    rw [if_neg (fun q => by have := q.1; omega), rbi_lo t (by omega)]
    rfl
theorem rbi_hi {M : Mm} {v p : Int} {i : Nat} : ∀ s, rbi M v p (i + 1) (i + (s + 1)) = rgo (rbh (rgo (rbec M 5 4) 5 i) v p (i + 1) i) 5 (s + 1)
  | 0 => by
    show rbeat (rbh (rbi M v p (i + 1) i) v p (i + 1) i) 5 = _
    rw [rbi_lo i (Nat.le_refl i)]
    rfl
  | s + 1 => by
    show rbeat (rbh (rbi M v p (i + 1) (i + (s + 1))) v p (i + 1) (i + (s + 1))) 5 = _
    rw [rbi_hi s]
    generalize rbh (rgo (rbec M 5 4) 5 i) v p (i + 1) i = T
    unfold rbh
    rw [if_neg (fun q => by have := q.1; omega)]
    rfl
theorem best_step {m M : Mm} {v p i : Nat} {N D N1 D1 N' D' X' N5 D5 X5 : Int} {X X1 : Nat → Int} (hi : i ≤ 23) (hL : LI m 0 N D X) (hL1 : LI m 1 N1 D1 X1) (hR : SI M 4 N' D' X') (hR5 : SI M 5 N5 D5 X5) (hM : MI M) (hT : TT m M 0 4) (hv : (v : Int) < m (0, 8, 0) 1) (hp : (p : Int) < m (0, 8, 0) 4) :
    s0kno (lki m v (p : Int) i) 1 (p : Int) = rkn (rbi M (v : Int) (p : Int) (i + 1) 80) 5 (p : Int) (rbi M (v : Int) (p : Int) (i + 1) 80 (3, 0, 0) 1).toNat ∧ ∀ j, j < 80 → rbi M (v : Int) (p : Int) (i + 1) j (5, 0, 0) 2 ≤ 896 := by
  have hP := hL.2.1
  obtain ⟨c1, c2, c3, c4⟩ := copy_TT hL hL1 hR hR5 hM hT
  obtain ⟨g1, g2, g3, g4, g5, g6⟩ := go_all (by decide) i c2 c3 c4 c1
  have eV : (s0go 1 i (s0cp m 1 0)).1 (1, 8, 0) 1 = m (0, 8, 0) 1 := by
    rw [g1.V, g6 _ _ (by decide), hT.V]
    exact rbec_sl _ _ (by decide)
  have eP : (s0go 1 i (s0cp m 1 0)).1 (1, 8, 0) 4 = m (0, 8, 0) 4 := by
    rw [g1.1.2.1, g6 _ _ (by decide), hT.1.2.1]
    exact rbec_sl _ _ (by decide)
  have hTl : TT (lta (s0go 1 i (s0cp m 1 0)).1 v (p : Int)) (rbh (rgo (rbec M 5 4) 5 i) (v : Int) (p : Int) (i + 1) i) 1 5 ∧ LI (lta (s0go 1 i (s0cp m 1 0)).1 v (p : Int)) 1 (N + i) (D + 8 * i) (fun u => max (X u) (X1 u) + 112 * i) ∧ SI (rbh (rgo (rbec M 5 4) 5 i) (v : Int) (p : Int) (i + 1) i) 5 (N' + i) (D' + 8 * i) (X' + 1024 * i) ∧ MI (rbh (rgo (rbec M 5 4) 5 i) (v : Int) (p : Int) (i + 1) i) := by
    have hv7 : v ≤ 7 := by have := hL.1; omega
    obtain ⟨f1, f2, f3⟩ := rbh_f (v := (v : Int)) (p := (p : Int)) (i := i + 1) (t := i) g3 ⟨by omega, by omega⟩ ⟨by omega, by omega⟩
    refine ⟨?_, LI_lta g2 hv7, f1, g4.sl f2 (by decide)⟩
    have hq := (g1.q (v := v) (by rw [eV]; exact hv)).1
    unfold lta rbh
    rw [Int.toNat_natCast]
    by_cases c : (s0go 1 i (s0cp m 1 0)).1 (1, v, 0) 9 < 5
    · rw [if_pos c, if_pos ⟨by omega, by rw [← hq]; exact c⟩]
      exact (tell_sim (by decide) g2 g1 (by rw [eV]; exact hv) (by rw [eP]; exact hp) c).1
    · rw [if_neg c, if_neg (fun q => c (by rw [hq]; exact q.2))]
      exact g1
  obtain ⟨t1, t2, t3, t4⟩ := hTl
  obtain ⟨k1, k2, k3, k4, k5, k6⟩ := go_all (by decide) (80 - i) t2 t3 t4 t1
  have e80 : rbi M (v : Int) (p : Int) (i + 1) 80 = rgo (rbh (rgo (rbec M 5 4) 5 i) (v : Int) (p : Int) (i + 1) i) 5 (80 - i) := by
    have h := rbi_hi (M := M) (v := (v : Int)) (p := (p : Int)) (i := i) (79 - i)
    rw [show i + (79 - i + 1) = 80 by omega, show 79 - i + 1 = 80 - i by omega] at h
    exact h
  refine ⟨?_, fun j hj => ?_⟩
  · rw [e80]
    exact kns_eq (wc := lki m v (p : Int) i) (by omega) k2.1.1 k1
  · by_cases c : j ≤ i
    · rw [rbi_lo j c]
      exact g5 j c
    · have h := rbi_hi (M := M) (v := (v : Int)) (p := (p : Int)) (i := i) (j - i - 1)
      rw [show i + (j - i - 1 + 1) = j by omega, show j - i - 1 + 1 = j - i by omega] at h
      rw [h]
      exact k5 (j - i) (by omega)
theorem best_base {m M : Mm} {v p : Nat} {N D N1 D1 N' D' X' N5 D5 X5 : Int} {X X1 : Nat → Int} (hL : LI m 0 N D X) (hL1 : LI m 1 N1 D1 X1) (hR : SI M 4 N' D' X') (hR5 : SI M 5 N5 D5 X5) (hM : MI M) (hT : TT m M 0 4) (hp : (p : Int) < m (0, 8, 0) 4) :
    s0kno (s0go 1 80 (s0cp m 1 0)).1 1 (p : Int) = rkn (rbi M (v : Int) (p : Int) 0 80) 5 (p : Int) (rbi M (v : Int) (p : Int) 0 80 (3, 0, 0) 1).toNat ∧ ∀ j, j < 80 → rbi M (v : Int) (p : Int) 0 j (5, 0, 0) 2 ≤ 896 := by
  have hP := hL.2.1
  obtain ⟨c1, c2, c3, c4⟩ := copy_TT hL hL1 hR hR5 hM hT
  obtain ⟨g1, g2, g3, g4, g5, g6⟩ := go_all (by decide) 80 c2 c3 c4 c1
  refine ⟨?_, fun j hj => ?_⟩
  · rw [rbi_0]
    exact kns_eq (by omega) g2.1.1 g1
  · rw [rbi_0]
    exact g5 j (by omega)
theorem lbs_1 {W : Mm} {m0 p : Int} {v i : Nat} : (lbs W m0 v p (i + 1)).2.1 = (if (lbs W m0 v p i).2.2 < s0kno (lki (lbs W m0 v p i).1 v p i) 1 p then (i : Int) else (lbs W m0 v p i).2.1) ∧ (lbs W m0 v p (i + 1)).2.2 = (if (lbs W m0 v p i).2.2 < s0kno (lki (lbs W m0 v p i).1 v p i) 1 p then s0kno (lki (lbs W m0 v p i).1 v p i) 1 p else (lbs W m0 v p i).2.2) := ⟨rfl, rfl⟩
theorem rbs_1 {W : Mm} {v p : Int} {i : Nat} : (rbs W v p (i + 1)).1 = rbi (rbs W v p i).1 v p i 80 ∧ (rbs W v p (i + 1)).2.1 = (if ¬ i = 0 ∧ (rbs W v p i).2.2 < rkn (rbi (rbs W v p i).1 v p i 80) 5 p (rbi (rbs W v p i).1 v p i 80 (3, 0, 0) 1).toNat then (i : Int) - 1 else (rbs W v p i).2.1) ∧ (rbs W v p (i + 1)).2.2 = max (rbs W v p i).2.2 (rkn (rbi (rbs W v p i).1 v p i 80) 5 p (rbi (rbs W v p i).1 v p i 80 (3, 0, 0) 1).toNat) := ⟨rfl, rfl, rfl⟩
theorem best_sim {w r : Mm} {v p : Nat} {N D B N1 D1 N' D' X' N5 D5 X5 : Int} {X : Nat → Int} (hL : LI w 0 N D X) (hL1 : LI w 1 N1 D1 (fun _ => B)) (hX : ∀ u, u ≤ 7 → X u ≤ B) (hR : SI r 4 N' D' X') (hR5 : SI r 5 N5 D5 X5) (hM : MI r) (hT : TT w r 0 4) (hv : (v : Int) < w (0, 8, 0) 1) (hp : (p : Int) < w (0, 8, 0) 4) :
    ∀ i, i ≤ 24 → sloc 5 r (rbs r (v : Int) (p : Int) (i + 1)).1 ∧ (∃ a b c, SI (rbs r (v : Int) (p : Int) (i + 1)).1 5 a b c) ∧ (∀ i', i' ≤ i → ∀ j, j < 80 → rbi (rbs r (v : Int) (p : Int) i').1 (v : Int) (p : Int) i' j (5, 0, 0) 2 ≤ 896) ∧ (lbs (s0go 1 80 (s0cp w 1 0)).1 (s0kno (s0go 1 80 (s0cp w 1 0)).1 1 (p : Int)) v (p : Int) i).2.1 = (rbs r (v : Int) (p : Int) (i + 1)).2.1 ∧ (lbs (s0go 1 80 (s0cp w 1 0)).1 (s0kno (s0go 1 80 (s0cp w 1 0)).1 1 (p : Int)) v (p : Int) i).2.2 = (rbs r (v : Int) (p : Int) (i + 1)).2.2 := by
  have hP := hL.2.1
  have hV := hL.1
  have hv8 : 0 ≤ (v : Int) ∧ (v : Int) ≤ 7 := ⟨by omega, by omega⟩
  have hp8 : 0 ≤ (p : Int) ∧ (p : Int) ≤ 11 := ⟨by omega, by omega⟩
  have sW : sloc 1 w (s0go 1 80 (s0cp w 1 0)).1 := s0cp_sl.tr (s0go_sl _)
  have hLW : LI (s0go 1 80 (s0cp w 1 0)).1 0 N D X := hL.sl sW (by decide)
  have hLW1 : LI (s0go 1 80 (s0cp w 1 0)).1 1 (N + 80) (D + 640) (fun _ => B + 8960) := (LI_go 80 (LI_cp (by decide) hL hL1)).mono (by omega) (by omega) (fun u hu => by
    have := hX u hu
    show max (X u) B + 112 * ((80 : Nat) : Int) ≤ B + 8960
    omega)
  intro i
  induction i with
  | zero =>
    intro _
    obtain ⟨e1, e2, e3⟩ := rbs_1 (W := r) (v := (v : Int)) (p := (p : Int)) (i := 0)
    have hb := best_base (v := v) (p := p) hL hL1 hR hR5 hM hT hp
    obtain ⟨q1, q2⟩ := rbi_inv (i := 0) (M := r) hR hR5 hM hv8 hp8 80 hb.2
    have hk0 := rkn_b (u := 5) (p := (p : Int)) (hM.sl q2 (by decide))
    refine ⟨by rw [e1]; exact q2, by rw [e1]; exact ⟨_, _, _, q1⟩, fun i' hi' j hj => ?_, ?_, ?_⟩
    · rw [show i' = 0 by omega]
      exact hb.2 j hj
    · rw [e2, if_neg (fun q => q.1 rfl)]
      rfl
    · rw [e3]
      show s0kno (s0go 1 80 (s0cp w 1 0)).1 1 (p : Int) = max 0 _
      rw [hb.1]
      have hk0' : 0 ≤ rkn (rbi (rbs r (v : Int) (p : Int) 0).1 (v : Int) (p : Int) 0 80) 5 (p : Int) (rbi (rbs r (v : Int) (p : Int) 0).1 (v : Int) (p : Int) 0 80 (3, 0, 0) 1).toNat := hk0.1
      exact (Int.max_eq_right hk0').symm
  | succ i ih =>
    intro hi
    obtain ⟨i1, ⟨a, b, c, i2⟩, i3, i4, i5⟩ := ih (by omega)
    obtain ⟨e1, e2, e3⟩ := rbs_1 (W := r) (v := (v : Int)) (p := (p : Int)) (i := i + 1)
    obtain ⟨l1, l2⟩ := lbs_inv (m0 := s0kno (s0go 1 80 (s0cp w 1 0)).1 1 (p : Int)) (p := (p : Int)) hLW hLW1 (fun u hu => by have := hX u hu; omega) (v := v) (by omega) i (by omega)
    have hTi := hT.sl hL hR (sW.tr l1) i1
    have hLi := hLW.sl l1 (by decide)
    have hRi : SI (rbs r (v : Int) (p : Int) (i + 1)).1 4 N' D' X' := hR.sl5 i1
    have hMi := hM.sl i1 (by decide)
    have eV : (lbs (s0go 1 80 (s0cp w 1 0)).1 (s0kno (s0go 1 80 (s0cp w 1 0)).1 1 (p : Int)) v (p : Int) i).1 (0, 8, 0) 1 = w (0, 8, 0) 1 := (sW.tr l1) _ _ (by decide)
    have eP : (lbs (s0go 1 80 (s0cp w 1 0)).1 (s0kno (s0go 1 80 (s0cp w 1 0)).1 1 (p : Int)) v (p : Int) i).1 (0, 8, 0) 4 = w (0, 8, 0) 4 := (sW.tr l1) _ _ (by decide)
    obtain ⟨h1, h2⟩ := best_step (v := v) (p := p) (i := i) (by omega) hLi l2 hRi i2 hMi hTi (by rw [eV]; exact hv) (by rw [eP]; exact hp)
    obtain ⟨q1, q2⟩ := rbi_inv (i := i + 1) (M := (rbs r (v : Int) (p : Int) (i + 1)).1) hRi i2 hMi hv8 hp8 80 h2
    obtain ⟨b1, b2⟩ := lbs_1 (W := (s0go 1 80 (s0cp w 1 0)).1) (m0 := s0kno (s0go 1 80 (s0cp w 1 0)).1 1 (p : Int)) (p := (p : Int)) (v := v) (i := i)
    refine ⟨by rw [e1]; exact i1.tr q2, by rw [e1]; exact ⟨_, _, _, q1⟩, fun i' hi' j hj => ?_, ?_, ?_⟩
    · by_cases c9 : i' = i + 1
      · rw [c9]
        exact h2 j hj
      · exact i3 i' (by omega) j hj
    · rw [b1, e2, i5, i4, h1]
      by_cases c9 : (rbs r (v : Int) (p : Int) (i + 1)).2.2 < rkn (rbi (rbs r (v : Int) (p : Int) (i + 1)).1 (v : Int) (p : Int) (i + 1) 80) 5 (p : Int) (rbi (rbs r (v : Int) (p : Int) (i + 1)).1 (v : Int) (p : Int) (i + 1) 80 (3, 0, 0) 1).toNat
      · rw [if_pos c9, if_pos ⟨by omega, c9⟩]
        omega
      · rw [if_neg c9, if_neg (fun q => c9 q.2)]
    · rw [b2, e3, i5, h1]
      by_cases c9 : (rbs r (v : Int) (p : Int) (i + 1)).2.2 < rkn (rbi (rbs r (v : Int) (p : Int) (i + 1)).1 (v : Int) (p : Int) (i + 1) 80) 5 (p : Int) (rbi (rbs r (v : Int) (p : Int) (i + 1)).1 (v : Int) (p : Int) (i + 1) 80 (3, 0, 0) 1).toNat
      · rw [if_pos c9, Int.max_eq_right (Int.le_of_lt c9)]
      · rw [if_neg c9, Int.max_eq_left (Int.not_lt.mp c9)]
/-- larger -/
theorem large_go {m M : Mm} {i n : Nat} {N D N1 D1 N' D' X' N5 D5 X5 : Int} {X X1 : Nat → Int} (hL : LI m 0 N D X) (hL1 : LI m 1 N1 D1 X1) (hR : SI M 4 N' D' X') (hR5 : SI M 5 N5 D5 X5) (hM : MI M) (hT : TT m M 0 4) (hi : i ≤ 8) (hd : ¬ (¬ i = 0 ∧ M (4, 0, 1) (i - 1) = 9)) :
    (∀ j, j ≤ n → rgo (rl1 M i) 5 j (5, 0, 0) 2 ≤ 896) ∧ (i = 0 → s0prs (s0go 1 n (s0cp m 1 0)).1 1 = rprs (rgo (rl1 M i) 5 n) 5) ∧ (∀ v, i = v + 1 → (v : Int) < m (0, 8, 0) 1 → s0prs (lpl m v n) 1 = rprs (rgo (rl1 M i) 5 n) 5) := by
  have hP := hL.2.1
  have hV := hL.1
  obtain ⟨c1, c2, c3, c4⟩ := copy_TT hL hL1 hR hR5 hM hT
  have eV : s0cp m 1 0 (1, 8, 0) 1 = m (0, 8, 0) 1 := by
    rw [c1.V, hT.V]
    exact rbec_sl _ _ (by decide)
  have hS1 := SI_l1 hR hR5 hi hd
  have hM1 : MI (rl1 M i) := hM.sl rl1_sl (by decide)
  rcases (show i = 0 ∨ ∃ v, i = v + 1 by cases i with | zero => exact Or.inl rfl | succ v => exact Or.inr ⟨v, rfl⟩) with h0 | ⟨v, hv⟩
  · subst h0
    have e : rl1 M 0 = rbec M 5 4 := if_pos rfl
    rw [e]
    obtain ⟨g1, g2, g3, g4, g5, g6⟩ := go_all (by decide) n c2 c3 c4 c1
    exact ⟨g5, fun _ => prs_eq g2.1.1 g2.2.1.1 g2.2.1.2 g1, fun v hv => by omega⟩
  · subst hv
    have e : rl1 M (v + 1) = st1 (rbec M 5 4) (5, 0, 1) v (rbec M 5 4 (5, 0, 1) v + 1) := if_neg (by omega)
    by_cases c : (v : Int) < m (0, 8, 0) 1
    · have hd1 : m (0, v, 0) 2 = M (4, 0, 1) v := (hT.2.1.2.2.2 v c).1
      have hd2 := (hL.v (v := v) (by omega)).2.1
      have hlt : m (0, v, 0) 2 < 9 := by
        have : ¬ M (4, 0, 1) v = 9 := fun q => hd ⟨by omega, q⟩
        omega
      have ed := s0cp_d (w := m) (v := v) hV.2 c
      have hr1 : s0cp m 1 0 (1, v, 0) 2 = rbec M 5 4 (5, 0, 1) v := (c1.2.1.2.2.2 v (by rw [eV]; exact c)).1
      have hTd : TT (st1 (s0cp m 1 0) (1, v, 0) 2 (s0cp m 1 0 (1, v, 0) 2 + 1)) (rl1 M (v + 1)) 1 5 := by
        rw [e]
        refine upd_TT (by rw [eV]; exact hV.2) c1 (fun x p j h => ?_) (fun p j hp => st1_k (by simp [hp])) (fun p j _ _ _ _ => st1_k (by simp)) (fun x hx => ?_)
        · unfold st1
          rw [if_neg (fun q => h (by have h1 := q.1; simp at h1; exact ⟨h1.2, Or.inl q.2, by omega⟩))]
        · rw [eV] at hx
          obtain ⟨z1, z2, z3, z4, z5⟩ := c1.1.2.2.2 x (by rw [eV]; exact hx)
          refine ⟨?_, by rw [st1_x (by decide), st1_k (by simp)]; exact z3, by rw [st1_x (by decide), st1_k (by simp)]; exact z4, by rw [st1_x (by decide), st1_k (by simp)]; exact z5⟩
          by_cases e2 : x = v
          · subst e2
            rw [st1_eq, st1_eq, hr1]
          · rw [st1_k (by simp [e2]), st1_j e2]
            exact (c1.2.1.2.2.2 x (by rw [eV]; exact hx)).1
      obtain ⟨l1, -⟩ := LI_lpl (v := v) (n := 0) hL hL1 c hlt (by omega)
      obtain ⟨g1, g2, g3, g4, g5, g6⟩ := go_all (by decide) n l1 hS1 hM1 hTd
      refine ⟨g5, fun h => by omega, fun v' hv' _ => ?_⟩
      have : v' = v := by omega
      subst this
      exact prs_eq (wc := lpl m v' n) g2.1.1 g2.2.1.1 g2.2.1.2 g1
    · have hTd : TT (s0cp m 1 0) (rl1 M (v + 1)) 1 5 := by
        rw [e]
        refine upd_TT (by rw [eV]; exact hV.2) c1 (fun _ _ _ _ => rfl) (fun p j hp => st1_k (by simp [hp])) (fun p j _ _ _ _ => st1_k (by simp)) (fun x hx => ?_)
        obtain ⟨z1, z2, z3, z4, z5⟩ := c1.1.2.2.2 x hx
        rw [eV] at hx
        refine ⟨?_, by rw [st1_k (by simp)]; exact z3, by rw [st1_k (by simp)]; exact z4, by rw [st1_k (by simp)]; exact z5⟩
        rw [st1_j (by omega)]
        exact (c1.2.1.2.2.2 x (by rw [eV]; exact hx)).1
      obtain ⟨g1, g2, g3, g4, g5, g6⟩ := go_all (by decide) n c2 hS1 hM1 hTd
      exact ⟨g5, fun h => by omega, fun v' hv' h => absurd h (by have : v' = v := by omega
                                                                 subst this
                                                                 exact c)⟩
theorem rlg_facts {w r : Mm} {n : Nat} {N D N1 D1 N' D' X' N5 D5 X5 : Int} {X X1 : Nat → Int} (hL : LI w 0 N D X) (hL1 : LI w 1 N1 D1 X1) (hR : SI r 4 N' D' X') (hR5 : SI r 5 N5 D5 X5) (hM : MI r) (hT : TT w r 0 4) : ∀ i, i ≤ 9 → sloc 5 r (rlg r n i).1 ∧ (∃ a b c, SI (rlg r n i).1 5 a b c) ∧ (0 ≤ (rlg r n i).2.2) ∧ ∀ i', i' < i → ¬ (¬ i' = 0 ∧ r (4, 0, 1) (i' - 1) = 9) → ∀ j, j ≤ n → rgo (rl1 (rlg r n i').1 i') 5 j (5, 0, 0) 2 ≤ 896
  | 0, _ => ⟨sloc.rf, ⟨_, _, _, hR5⟩, Int.le_refl 0, fun i' h => absurd h (Nat.not_lt_zero i')⟩
  | i + 1, hi => by
    obtain ⟨i1, ⟨a, b, c, i2⟩, i3, i4⟩ := rlg_facts (n := n) hL hL1 hR hR5 hM hT i (by omega)
    have e4 : (rlg r n i).1 (4, 0, 1) (i - 1) = r (4, 0, 1) (i - 1) := i1 _ _ (by decide)
    have hTi := hT.sl hL hR sloc.rf i1
    have eR : rlg r n (i + 1) = if ¬ i = 0 ∧ (rlg r n i).1 (4, 0, 1) (i - 1) = 9 then rlg r n i else (rgo (rl1 (rlg r n i).1 i) 5 n, if ¬ i = 0 ∧ (rlg r n i).2.2 < rprs (rgo (rl1 (rlg r n i).1 i) 5 n) 5 then (i : Int) - 1 else (rlg r n i).2.1, max (rlg r n i).2.2 (rprs (rgo (rl1 (rlg r n i).1 i) 5 n) 5)) := rfl
    rw [eR]
    by_cases c0 : ¬ i = 0 ∧ (rlg r n i).1 (4, 0, 1) (i - 1) = 9
    · rw [if_pos c0]
      refine ⟨i1, ⟨a, b, c, i2⟩, i3, fun i' hi' hd j hj => ?_⟩
      by_cases e : i' = i
      · subst e
        exact absurd ⟨c0.1, by rw [← e4]; exact c0.2⟩ hd
      · exact i4 i' (by omega) hd j hj
    · rw [if_neg c0]
      obtain ⟨h1, -, -⟩ := large_go (n := n) hL hL1 (hR.sl5 i1) i2 (hM.sl i1 (by decide)) hTi (i := i) (by omega) c0
      obtain ⟨q1, q2⟩ := SI_go (by decide) (SI_l1 (hR.sl5 i1) i2 (by omega) c0) ((hM.sl i1 (by decide)).sl rl1_sl (by decide)) n (fun j hj => h1 j (by omega))
      refine ⟨(i1.tr rl1_sl).tr q2, ⟨_, _, _, q1⟩, ?_, fun i' hi' hd j hj => ?_⟩
      · show 0 ≤ max _ _
        omega
      · by_cases e : i' = i
        · subst e
          exact h1 j hj
        · exact i4 i' (by omega) hd j hj
theorem larger_sim {w r : Mm} {n : Nat} {N D B N1 D1 N' D' X' N5 D5 X5 : Int} {X : Nat → Int} (hn : n ≤ 100) (hL : LI w 0 N D X) (hL1 : LI w 1 N1 D1 (fun _ => B)) (hX : ∀ u, u ≤ 7 → X u ≤ B) (hR : SI r 4 N' D' X') (hR5 : SI r 5 N5 D5 X5) (hM : MI r) (hT : TT w r 0 4) :
    ∀ i : Nat, (i : Int) ≤ w (0, 8, 0) 1 → (llg (s0go 1 n (s0cp w 1 0)).1 (s0prs (s0go 1 n (s0cp w 1 0)).1 1) n i).2.1 = (rlg r n (i + 1)).2.1 ∧ (llg (s0go 1 n (s0cp w 1 0)).1 (s0prs (s0go 1 n (s0cp w 1 0)).1 1) n i).2.2 = (rlg r n (i + 1)).2.2 := by
  have hP := hL.2.1
  have hV := hL.1
  have sW : sloc 1 w (s0go 1 n (s0cp w 1 0)).1 := s0cp_sl.tr (s0go_sl _)
  have hLW : LI (s0go 1 n (s0cp w 1 0)).1 0 N D X := hL.sl sW (by decide)
  have hLW1 : LI (s0go 1 n (s0cp w 1 0)).1 1 (N + n) (D + 8 * n) (fun _ => B + 11200) := (LI_go n (LI_cp (by decide) hL hL1)).mono (by omega) (by omega) (fun u hu => by
    have := hX u hu
    show max (X u) B + 112 * (n : Int) ≤ B + 11200
    omega)
  have hF := rlg_facts (n := n) hL hL1 hR hR5 hM hT
  intro i
  induction i with
  | zero =>
    intro _
    obtain ⟨-, h2, -⟩ := large_go (n := n) hL hL1 hR hR5 hM hT (i := 0) (by omega) (fun q => q.1 rfl)
    have h2 := h2 rfl
    have e : rlg r n 1 = (rgo (rl1 r 0) 5 n, -1, max 0 (rprs (rgo (rl1 r 0) 5 n) 5)) := by
      show (if ¬ (0 : Nat) = 0 ∧ _ then _ else _) = _
      rw [if_neg (fun q => q.1 rfl)]
      rw [if_neg (fun q => q.1 rfl)]
      rfl
    rw [e]
    have h0 := (s0prs_b (w := (s0go 1 n (s0cp w 1 0)).1) (t := 1) hLW1.1).1
    refine ⟨rfl, ?_⟩
    show s0prs (s0go 1 n (s0cp w 1 0)).1 1 = max 0 (rprs (rgo (rl1 r 0) 5 n) 5)
    rw [← h2]
    exact (Int.max_eq_right h0).symm
  | succ i ih =>
    intro hi
    obtain ⟨j1, j2⟩ := ih (by omega)
    obtain ⟨i1, ⟨a, b, c, i2⟩, i3, -⟩ := hF (i + 1) (by omega)
    obtain ⟨l1, l2⟩ := llg_inv (m0 := s0prs (s0go 1 n (s0cp w 1 0)).1 1) hLW hLW1 (fun u hu => by have := hX u hu; omega) hn i (by rw [sW _ _ (by decide)]; omega)
    have hTi := hT.sl hL hR (sW.tr l1) i1
    have hLi := hLW.sl l1 (by decide)
    have eV : (llg (s0go 1 n (s0cp w 1 0)).1 (s0prs (s0go 1 n (s0cp w 1 0)).1 1) n i).1 (0, 8, 0) 1 = w (0, 8, 0) 1 := (sW.tr l1) _ _ (by decide)
    have e4 : (rlg r n (i + 1)).1 (4, 0, 1) i = r (4, 0, 1) i := i1 _ _ (by decide)
    have ed : (llg (s0go 1 n (s0cp w 1 0)).1 (s0prs (s0go 1 n (s0cp w 1 0)).1 1) n i).1 (0, i, 0) 2 = (rlg r n (i + 1)).1 (4, 0, 1) i := (hTi.2.1.2.2.2 i (by rw [eV]; omega)).1
    have hdb := (hLi.v (v := i) (by omega)).2.1
    have eL : llg (s0go 1 n (s0cp w 1 0)).1 (s0prs (s0go 1 n (s0cp w 1 0)).1 1) n (i + 1) = if (llg (s0go 1 n (s0cp w 1 0)).1 (s0prs (s0go 1 n (s0cp w 1 0)).1 1) n i).1 (0, i, 0) 2 < 9 then (lpl (llg (s0go 1 n (s0cp w 1 0)).1 (s0prs (s0go 1 n (s0cp w 1 0)).1 1) n i).1 i n, if (llg (s0go 1 n (s0cp w 1 0)).1 (s0prs (s0go 1 n (s0cp w 1 0)).1 1) n i).2.2 < s0prs (lpl (llg (s0go 1 n (s0cp w 1 0)).1 (s0prs (s0go 1 n (s0cp w 1 0)).1 1) n i).1 i n) 1 then (i : Int) else (llg (s0go 1 n (s0cp w 1 0)).1 (s0prs (s0go 1 n (s0cp w 1 0)).1 1) n i).2.1, if (llg (s0go 1 n (s0cp w 1 0)).1 (s0prs (s0go 1 n (s0cp w 1 0)).1 1) n i).2.2 < s0prs (lpl (llg (s0go 1 n (s0cp w 1 0)).1 (s0prs (s0go 1 n (s0cp w 1 0)).1 1) n i).1 i n) 1 then s0prs (lpl (llg (s0go 1 n (s0cp w 1 0)).1 (s0prs (s0go 1 n (s0cp w 1 0)).1 1) n i).1 i n) 1 else (llg (s0go 1 n (s0cp w 1 0)).1 (s0prs (s0go 1 n (s0cp w 1 0)).1 1) n i).2.2) else llg (s0go 1 n (s0cp w 1 0)).1 (s0prs (s0go 1 n (s0cp w 1 0)).1 1) n i := rfl
    have eR : rlg r n (i + 1 + 1) = if ¬ i + 1 = 0 ∧ (rlg r n (i + 1)).1 (4, 0, 1) (i + 1 - 1) = 9 then rlg r n (i + 1) else (rgo (rl1 (rlg r n (i + 1)).1 (i + 1)) 5 n, if ¬ i + 1 = 0 ∧ (rlg r n (i + 1)).2.2 < rprs (rgo (rl1 (rlg r n (i + 1)).1 (i + 1)) 5 n) 5 then ((i + 1 : Nat) : Int) - 1 else (rlg r n (i + 1)).2.1, max (rlg r n (i + 1)).2.2 (rprs (rgo (rl1 (rlg r n (i + 1)).1 (i + 1)) 5 n) 5)) := rfl
    rw [eL, eR]
    generalize llg (s0go 1 n (s0cp w 1 0)).1 (s0prs (s0go 1 n (s0cp w 1 0)).1 1) n i = L at *
    have ei : i + 1 - 1 = i := by omega
    by_cases c0 : L.1 (0, i, 0) 2 < 9
    · have hd : ¬ (¬ i + 1 = 0 ∧ (rlg r n (i + 1)).1 (4, 0, 1) (i + 1 - 1) = 9) := fun q => by
        have := q.2
        rw [ei, ← ed] at this
        omega
      rw [if_pos c0, if_neg hd]
      obtain ⟨-, -, h3⟩ := large_go (n := n) hLi l2 (hR.sl5 i1) i2 (hM.sl i1 (by decide)) hTi (i := i + 1) (by omega) hd
      have h3 := h3 i rfl (by rw [eV]; omega)
      rw [h3, j1, j2]
      by_cases c9 : (rlg r n (i + 1)).2.2 < rprs (rgo (rl1 (rlg r n (i + 1)).1 (i + 1)) 5 n) 5
      · rw [if_pos c9, if_pos c9, if_pos ⟨by omega, c9⟩]
        exact ⟨by show (i : Int) = ((i + 1 : Nat) : Int) - 1; omega, (Int.max_eq_right (Int.le_of_lt c9)).symm⟩
      · rw [if_neg c9, if_neg c9, if_neg (fun q => c9 q.2)]
        exact ⟨rfl, (Int.max_eq_left (Int.not_lt.mp c9)).symm⟩
    · rw [if_neg c0, if_pos ⟨by omega, by rw [ei, ← ed]; omega⟩]
      exact ⟨j1, j2⟩
