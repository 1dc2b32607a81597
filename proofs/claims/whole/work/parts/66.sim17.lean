/-! the tie: steps of the calls that look ahead, of the share and the digest -/
theorem GI_la {c : Int} {w W0 M : Mm} (h : GI c w) (hs : sloc 1 w W0) (hL1 : ∃ N1 D1, LI W0 1 N1 D1 (fun _ => 300000 * (c + 1 + 1))) (hS5 : ∃ a b d, SI M 5 a b d) (h0 : ∀ t v p j, t ≤ 1 → M (t, v, p) j = W0 (t, v, p) j) (hk : ∀ t v p j, 3 ≤ t → t ≤ 4 → (t = 3 → p = 0 → j ≠ 0) → M (t, v, p) j = w (t, v, p) j) : GI (c + 1) M := by
  have hc := h.nn
  have e0 : ∀ v p j, W0 (0, v, p) j = w (0, v, p) j := fun v p j => hs _ j (show (0 : Nat) ≠ 1 by decide)
  obtain ⟨t1, t2⟩ := h.rt (R := M) (fun t p j h3 h4 hq => hk t 0 p j h3 h4 hq)
  have hL := h.1.1
  refine GI_fin (W0 := W0) (h.up.1.k e0 (Int.le_refl _) (Int.le_refl _) (fun _ _ => Int.le_refl _)) hL1 (h.2.1.1.k (fun p j => hk 4 0 p j (by decide) (by decide) (fun q => absurd q (by decide))) (by omega) (by omega) (by omega)) hS5 (h.2.1.2.2.k (fun p j hp => hk 3 0 p j (by decide) (by decide) (fun _ => hp))) (t1.mv (CS.of e0) RC.rf hL.1.2 hL.2.1.2 (fun v hv => by have := hL.1; exact (hL.v (v := v) (by omega)).2.2.2.2.2.2.2.1.2) (by rw [hk 4 0 0 2 (by decide) (by decide) (fun q => absurd q (by decide))]; exact h.2.1.1.2.2.1.1)) (fun v h8 hv => ?_) (fun p hp => ?_) h0
  · rw [e0] at hv
    obtain ⟨u1, u2, u3, u4, u5, u6, u7, u8, u9, u10⟩ := t2 v h8 hv
    exact ⟨by rw [e0]; exact u1, by rw [e0]; exact u2, by rw [e0]; exact u3, by rw [e0]; exact u4, by rw [e0]; exact u5, u6, (DC_cg (e0 _ _ _) (fun j _ => e0 _ _ _) (fun j _ => e0 _ _ _) (e0 _ _ _)).trans u7, by rw [e0]; exact u8, fun p hp => by rw [e0]; exact u9 p hp, by rw [e0]; exact u10⟩
  · rw [e0] at hp
    rw [e0, hk 3 0 6 p (by decide) (by decide) (fun _ q => absurd q (by decide))]
    exact h.2.2.2.2 p hp
theorem lgo_LI {W : Mm} {N D : Int} {X : Nat → Int} (h : LI W 1 N D X) : ∀ k : Nat, LI (lgo W k) 1 (N + k) (D + 8 * k) (fun u => X u + 112 * k) ∧ sloc 1 W (lgo W k)
  | 0 => ⟨h.mono (by simp) (by simp) (fun u _ => by simp), sloc.rf⟩
  | k + 1 => by
    obtain ⟨i1, i2⟩ := lgo_LI h k
    exact ⟨(LI_go 1 i1).mono (by omega) (by omega) (fun u _ => by show X u + 112 * (k : Int) + 112 * ((1 : Nat) : Int) ≤ X u + 112 * ((k + 1 : Nat) : Int); omega), i2.tr (s0go_sl 1)⟩
theorem lst_le {W : Mm} {v : Nat} {p : Int} : ∀ f k, lst W v p f k ≤ f + k
  | 0, k => by simp [lst]
  | f + 1, k => by
    have := lst_le (W := W) (v := v) (p := p) f (k + 1)
    simp only [lst]
    split <;> omega
theorem hs_reach {c : Int} {w W : Mm} (h : GI c w) (hW : ∀ t v p j, 2 ≤ t → t ≠ 6 → W (t, v, p) j = w (t, v, p) j) (i : Nat) : rgo (wAh W) 5 i (5, 0, 0) 2 ≤ 896 := by
  obtain ⟨t1, t2, ⟨g1, ⟨a, b, d, g2⟩, g3⟩, t4⟩ := h.R (W := W) hW
  obtain ⟨N1, D1, hL1⟩ := h.1.2
  obtain ⟨c1, c2, c3, c4⟩ := copy_TT h.1.1 hL1 g1 g2 g3 t1
  obtain ⟨i1, ⟨a, b, c, i2⟩, ⟨d, e, f, i3⟩, i4⟩ := lgo_all c2 c3 c4 c1 i
  exact size_896 i3.2.2.1.1 i2.1.1 i2.1.2 i1.2.1 i1.2.2
theorem st_reaches {c : Int} {w W : Mm} {k v p : Int} (h : GI c w) (hW : W = wr6 (if lV w v ∧ lP w p then none else eI) w (lgo (s0cp w 1 0) (lst (s0cp w 1 0) v.toNat p 201 0)) (if lst (s0cp w 1 0) v.toNat p 201 0 ≤ 200 then ((lst (s0cp w 1 0) v.toNat p 201 0 : Nat) : Int) else -1)) (hk : k = cd xI (if lV w v ∧ lP w p then none else eI)) :
    OKs c k (if isV W v ∧ isP W p then rgo (wAh W) 5 (rst (wAh W) (12 * v + p).toNat 201 0) else thn W 1) (if isV W v ∧ isP W p then (if rst (wAh W) (12 * v + p).toNat 201 0 ≤ 200 then ((rst (wAh W) (12 * v + p).toNat 201 0 : Nat) : Int) else -1) else 0) := by
  have hV := h.1.1.1
  have hP := h.1.1.2.1
  by_cases c1 : lV w v ∧ lP w p
  · rw [if_pos c1] at hW hk
    have hk : k = 0 := hk
    have hK := lst_le (W := s0cp w 1 0) (v := v.toNat) (p := p) 201 0
    obtain ⟨N1, D1, hL1⟩ := h.1.2
    generalize hKe : lst (s0cp w 1 0) v.toNat p 201 0 = K at *
    have hW : W = st1 (lgo (s0cp w 1 0) K) (6, 0, 0) 0 (if K ≤ 200 then ((K : Nat) : Int) else -1) := hW
    obtain ⟨l1, l2⟩ := lgo_LI (LI_cp (by decide) h.1.1 hL1) K
    have hs1 : sloc 1 w (lgo (s0cp w 1 0) K) := s0cp_sl.tr l2
    have hR : ∀ t x p' j, t ≠ 6 → t ≠ 1 → W (t, x, p') j = w (t, x, p') j := fun t x p' j h6 h0 => by rw [hW, k_6 h6]; exact hs1 _ j h0
    have hm : isV W v ∧ isP W p := ⟨(isV_w h (hR 3 0 0 1 (by decide) (by decide))).mpr c1.1, (isP_w h (hR 3 0 0 2 (by decide) (by decide))).mpr c1.2⟩
    rw [if_pos hm, if_pos hm, hk]
    obtain ⟨t1, t2, ⟨g1, ⟨a, b, d, g2⟩, g3⟩, t4⟩ := h.R (W := W) (fun t x p' j h2 h6 => hR t x p' j h6 (by omega))
    obtain ⟨q1, q2⟩ := reach_sim (v := v.toNat) (p := p.toNat) h.1.1 hL1 g1 g2 g3 t1 (by have := c1.1.1; have := c1.1.2; omega) (by have := c1.2.1; have := c1.2.2; omega)
    have eK : rst (wAh W) (12 * v + p).toNat 201 0 = K := by
      have e := q2 201 0
      rw [Int.toNat_of_nonneg c1.2.1, hKe] at e
      rw [show (12 * v + p).toNat = 12 * v.toNat + p.toNat by have := c1.1.1; have := c1.2.1; omega]
      exact e.symm
    rw [eK]
    obtain ⟨cc1, cc2, cc3, cc4⟩ := copy_TT h.1.1 hL1 g1 g2 g3 t1
    obtain ⟨i1, -, ⟨d1, e1, f1, i3⟩, i4⟩ := lgo_all cc2 cc3 cc4 cc1 K
    have hs5 : sloc 5 (th0 W) (rgo (wAh W) 5 K) := rbec_sl.tr (SI_go (by decide) cc3 cc4 K (fun i _ => q1 i)).2
    have hc := h.nn
    refine ⟨(hs5 _ 0 (by decide)).trans th0_t, fun _ => ?_, GI_la (W0 := lgo (s0cp w 1 0) K) h hs1 ⟨_, _, l1.mono (Int.le_refl _) (Int.le_refl _) (fun u _ => ?_)⟩ ⟨_, _, _, i3⟩ (fun t x p' j ht => ?_) (fun t x p' j h3 h4 hq => ?_)⟩
    · rw [hs5 _ 0 (by decide), th0_6, hW, st1_eq]
    · show max (22400 * c) (300000 * (c + 1)) + 112 * (K : Int) ≤ 300000 * (c + 1 + 1)
      omega
    · rw [hs5 _ j (by show t ≠ 5; omega), k_th0 (fun q => by omega), hW, k_6 (by omega)]
    · rw [hs5 _ j (by show t ≠ 5; omega), k_th0 hq, hR t x p' j (by omega) (by omega)]
  · rw [if_neg c1] at hW hk
    have hW : W = w := hW
    have hk : k = 1 := hk
    have hm : ¬ (isV W v ∧ isP W p) := fun q => c1 ⟨(isV_w h (by rw [hW])).mp q.1, (isP_w h (by rw [hW])).mp q.2⟩
    rw [if_neg hm, if_neg hm, hk, hW]
    exact OK_thn h (by decide)
theorem hs_best {c : Int} {w W : Mm} {v p : Int} (h : GI c w) (hW : ∀ t v p j, 2 ≤ t → t ≠ 6 → W (t, v, p) j = w (t, v, p) j) (c1 : isV W v) (c2 : isP W p) (i j : Nat) (hi : i < 25) (hj : j < 80) : rbi (rbs (th0 W) v p i).1 v p i j (5, 0, 0) 2 ≤ 896 := by
  obtain ⟨t1, t2, ⟨g1, ⟨a, b, d, g2⟩, g3⟩, t4⟩ := h.R (W := W) hW
  obtain ⟨N1, D1, hL1⟩ := h.1.2
  have hc := h.nn
  have d1 := (isV_w h (hW 3 0 0 1 (by decide) (by decide))).mp c1
  have d2 := (isP_w h (hW 3 0 0 2 (by decide) (by decide))).mp c2
  have hb := best_sim (v := v.toNat) (p := p.toNat) h.1.1 hL1 (fun u _ => by show 22400 * c ≤ 300000 * (c + 1); omega) g1 g2 g3 t1 (by have := d1.1; have := d1.2; omega) (by have := d2.1; have := d2.2; omega) i (by omega)
  rw [Int.toNat_of_nonneg d1.1, Int.toNat_of_nonneg d2.1] at hb
  exact hb.2.2.1 i (Nat.le_refl i) j hj
theorem best_end {c : Int} {w r : Mm} {v p : Int} {n : Nat} (hn : n ≤ 24) (h : GI c w) (g : GR c r) (t1 : TT w r 0 4) (d1 : lV w v) (d2 : lP w p) :
    sloc 5 r (rbs r v p (n + 1)).1 ∧ (∃ a b c, SI (rbs r v p (n + 1)).1 5 a b c) ∧ (lbs (s0go 1 80 (s0cp w 1 0)).1 (s0kno (s0go 1 80 (s0cp w 1 0)).1 1 p) v.toNat p n).2.1 = (rbs r v p (n + 1)).2.1 ∧ sloc 1 w (lbs (s0go 1 80 (s0cp w 1 0)).1 (s0kno (s0go 1 80 (s0cp w 1 0)).1 1 p) v.toNat p n).1 ∧ ∃ N1 D1, LI (lbs (s0go 1 80 (s0cp w 1 0)).1 (s0kno (s0go 1 80 (s0cp w 1 0)).1 1 p) v.toNat p n).1 1 N1 D1 (fun _ => 300000 * (c + 1 + 1)) := by
  obtain ⟨g1, ⟨a, b, d, g2⟩, g3⟩ := g
  obtain ⟨N1, D1, hL1⟩ := h.1.2
  have hc := h.nn
  have hV := h.1.1.1
  have hb := best_sim (v := v.toNat) (p := p.toNat) h.1.1 hL1 (fun u _ => by show 22400 * c ≤ 300000 * (c + 1); omega) g1 g2 g3 t1 (by have := d1.1; have := d1.2; omega) (by have := d2.1; have := d2.2; omega) n hn
  rw [Int.toNat_of_nonneg d1.1, Int.toNat_of_nonneg d2.1] at hb
  have sW : sloc 1 w (s0go 1 80 (s0cp w 1 0)).1 := s0cp_sl.tr (s0go_sl _)
  have hLW := h.1.1.sl sW (by decide)
  have hLW1 : LI (s0go 1 80 (s0cp w 1 0)).1 1 (200 * c + 80) (1600 * c + 640) (fun _ => 300000 * (c + 1) + 8960) := (LI_go 80 (LI_cp (by decide) h.1.1 hL1)).mono (by omega) (by omega) (fun u _ => by
    show max (22400 * c) (300000 * (c + 1)) + 112 * ((80 : Nat) : Int) ≤ 300000 * (c + 1) + 8960
    omega)
  obtain ⟨l1, l2⟩ := lbs_inv (m0 := s0kno (s0go 1 80 (s0cp w 1 0)).1 1 p) (p := p) hLW hLW1 (fun u _ => by show 22400 * c ≤ 300000 * (c + 1) + 8960; omega) (v := v.toNat) (by have := d1.1; have := d1.2; omega) n hn
  refine ⟨hb.1, hb.2.1, hb.2.2.2.1, sW.tr l1, _, _, l2.mono (Int.le_refl _) (Int.le_refl _) (fun u _ => ?_)⟩
  show 300000 * (c + 1) + 8960 + 8960 * (n : Int) ≤ 300000 * (c + 1 + 1)
  omega
theorem st_best {c : Int} {w W : Mm} {k v p : Int} {n : Nat} (hn : n ≤ 24) (h : GI c w) (hW : W = wr6 (if lV w v ∧ lP w p then none else eI) w (lbs (s0go 1 80 (s0cp w 1 0)).1 (s0kno (s0go 1 80 (s0cp w 1 0)).1 1 p) v.toNat p n).1 (lbs (s0go 1 80 (s0cp w 1 0)).1 (s0kno (s0go 1 80 (s0cp w 1 0)).1 1 p) v.toNat p n).2.1) (hk : k = cd xI (if lV w v ∧ lP w p then none else eI)) :
    OKs c k (if isV W v ∧ isP W p then (rbs (th0 W) v p (n + 1)).1 else thn W 1) (if isV W v ∧ isP W p then (rbs (th0 W) v p (n + 1)).2.1 else 0) := by
  by_cases c1 : lV w v ∧ lP w p
  · rw [if_pos c1] at hW hk
    have hk : k = 0 := hk
    have hbe := fun r g t1 => best_end (r := r) hn h g t1 c1.1 c1.2
    generalize lbs (s0go 1 80 (s0cp w 1 0)).1 (s0kno (s0go 1 80 (s0cp w 1 0)).1 1 p) v.toNat p n = L at *
    have hW : W = st1 L.1 (6, 0, 0) 0 L.2.1 := hW
    have hs1 : sloc 1 w L.1 := by
      obtain ⟨t1, -, t3, -⟩ := h.R (W := w) (fun _ _ _ _ _ _ => rfl)
      exact (hbe _ t3 t1).2.2.2.1
    have hR : ∀ t x p' j, t ≠ 6 → t ≠ 1 → W (t, x, p') j = w (t, x, p') j := fun t x p' j h6 h0 => by rw [hW, k_6 h6]; exact hs1 _ j h0
    have hm : isV W v ∧ isP W p := ⟨(isV_w h (hR 3 0 0 1 (by decide) (by decide))).mpr c1.1, (isP_w h (hR 3 0 0 2 (by decide) (by decide))).mpr c1.2⟩
    rw [if_pos hm, if_pos hm, hk]
    obtain ⟨t1, t2, t3, t4⟩ := h.R (W := W) (fun t x p' j h2 h6 => hR t x p' j h6 (by omega))
    obtain ⟨b1, b2, b3, b4, b5⟩ := hbe _ t3 t1
    generalize rbs (th0 W) v p (n + 1) = M at *
    refine ⟨(b1 _ 0 (by decide)).trans th0_t, fun _ => ?_, GI_la (W0 := L.1) h hs1 b5 b2 (fun t x p' j ht => ?_) (fun t x p' j h3 h4 hq => ?_)⟩
    · rw [b1 _ 0 (by decide), th0_6, hW, st1_eq]
      exact b3
    · rw [b1 _ j (by show t ≠ 5; omega), k_th0 (fun q => by omega), hW, k_6 (by omega)]
    · rw [b1 _ j (by show t ≠ 5; omega), k_th0 hq, hR t x p' j (by omega) (by omega)]
  · rw [if_neg c1] at hW hk
    have hW : W = w := hW
    have hk : k = 1 := hk
    have hm : ¬ (isV W v ∧ isP W p) := fun q => c1 ⟨(isV_w h (by rw [hW])).mp q.1, (isP_w h (by rw [hW])).mp q.2⟩
    rw [if_neg hm, if_neg hm, hk, hW]
    exact OK_thn h (by decide)
theorem hs_larger {c : Int} {w W : Mm} {n : Int} (h : GI c w) (hW : ∀ t v p j, 2 ≤ t → t ≠ 6 → W (t, v, p) j = w (t, v, p) j) (i j : Nat) (hi : i ≤ 8) (hj : (j : Int) < n) (hd : ¬ (¬ i = 0 ∧ W (4, 0, 1) (i - 1) = 9)) : rgo (rl1 (rlg (th0 W) n.toNat i).1 i) 5 j (5, 0, 0) 2 ≤ 896 := by
  obtain ⟨t1, t2, ⟨g1, ⟨a, b, d, g2⟩, g3⟩, t4⟩ := h.R (W := W) hW
  obtain ⟨N1, D1, hL1⟩ := h.1.2
  exact (rlg_facts (n := n.toNat) h.1.1 hL1 g1 g2 g3 t1 9 (Nat.le_refl 9)).2.2.2 i (by omega) (by rw [k_th0 (fun q => absurd q (by decide))]; exact hd) j (by omega)
theorem st_larger {c : Int} {w W : Mm} {k n : Int} (h : GI c w) (hW : W = wr6 (if 1 ≤ n ∧ n ≤ 100 then none else eA) w (llg (s0go 1 n.toNat (s0cp w 1 0)).1 (s0prs (s0go 1 n.toNat (s0cp w 1 0)).1 1) n.toNat (w (0, 8, 0) 1).toNat).1 (llg (s0go 1 n.toNat (s0cp w 1 0)).1 (s0prs (s0go 1 n.toNat (s0cp w 1 0)).1 1) n.toNat (w (0, 8, 0) 1).toNat).2.1) (hk : k = cd xA (if 1 ≤ n ∧ n ≤ 100 then none else eA)) :
    OKs c k (if 1 ≤ n ∧ n ≤ 100 then (rlg (th0 W) n.toNat (W (3, 0, 0) 1 + 1).toNat).1 else thn W 1) (if 1 ≤ n ∧ n ≤ 100 then (rlg (th0 W) n.toNat (W (3, 0, 0) 1 + 1).toNat).2.1 else 0) := by
  by_cases c1 : 1 ≤ n ∧ n ≤ 100
  · rw [if_pos c1] at hW hk
    have hk : k = 0 := hk
    have hc := h.nn
    have hV := h.1.1.1
    obtain ⟨N1, D1, hL1⟩ := h.1.2
    have sW : sloc 1 w (s0go 1 n.toNat (s0cp w 1 0)).1 := s0cp_sl.tr (s0go_sl _)
    have hLW := h.1.1.sl sW (by decide)
    have hLW1 : LI (s0go 1 n.toNat (s0cp w 1 0)).1 1 (200 * c + n.toNat) (1600 * c + 8 * n.toNat) (fun _ => 300000 * (c + 1) + 11200) := (LI_go n.toNat (LI_cp (by decide) h.1.1 hL1)).mono (by omega) (by omega) (fun u _ => by
      show max (22400 * c) (300000 * (c + 1)) + 112 * ((n.toNat : Nat) : Int) ≤ 300000 * (c + 1) + 11200
      omega)
    obtain ⟨l1, l2⟩ := llg_inv (m0 := s0prs (s0go 1 n.toNat (s0cp w 1 0)).1 1) hLW hLW1 (fun u _ => by show 22400 * c ≤ 300000 * (c + 1) + 11200; omega) (by omega) (w (0, 8, 0) 1).toNat (by rw [sW _ _ (by decide)]; omega)
    have hls := fun r g1 a b d g2 g3 t1 => larger_sim (w := w) (r := r) (N5 := a) (D5 := b) (X5 := d) (N' := 200 * c) (D' := 1600 * c) (X' := 204800 * c) (n := n.toNat) (by omega) h.1.1 hL1 (fun u _ => by show 22400 * c ≤ 300000 * (c + 1); omega) g1 g2 g3 t1 (w (0, 8, 0) 1).toNat (by omega)
    generalize llg (s0go 1 n.toNat (s0cp w 1 0)).1 (s0prs (s0go 1 n.toNat (s0cp w 1 0)).1 1) n.toNat (w (0, 8, 0) 1).toNat = L at *
    have hW : W = st1 L.1 (6, 0, 0) 0 L.2.1 := hW
    have hs1 : sloc 1 w L.1 := sW.tr l1
    have hR : ∀ t x p' j, t ≠ 6 → t ≠ 1 → W (t, x, p') j = w (t, x, p') j := fun t x p' j h6 h0 => by rw [hW, k_6 h6]; exact hs1 _ j h0
    rw [if_pos c1, if_pos c1, hk]
    obtain ⟨t1, t2, ⟨g1, ⟨a, b, d, g2⟩, g3⟩, t4⟩ := h.R (W := W) (fun t x p' j h2 h6 => hR t x p' j h6 (by omega))
    obtain ⟨b1, b2, -, -⟩ := rlg_facts (n := n.toNat) h.1.1 hL1 g1 g2 g3 t1 ((w (0, 8, 0) 1).toNat + 1) (by omega)
    have hl2 := (hls _ g1 a b d g2 g3 t1).1
    rw [show (W (3, 0, 0) 1 + 1).toNat = (w (0, 8, 0) 1).toNat + 1 by rw [hR 3 0 0 1 (by decide) (by decide), ← h.2.2.1.V]; omega]
    generalize rlg (th0 W) n.toNat ((w (0, 8, 0) 1).toNat + 1) = M at *
    refine ⟨(b1 _ 0 (by decide)).trans th0_t, fun _ => ?_, GI_la (W0 := L.1) h hs1 ⟨_, _, l2.mono (Int.le_refl _) (Int.le_refl _) (fun u _ => ?_)⟩ b2 (fun t x p' j ht => ?_) (fun t x p' j h3 h4 hq => ?_)⟩
    · rw [b1 _ 0 (by decide), th0_6, hW, st1_eq]
      exact hl2
    · show 300000 * (c + 1) + 11200 + 11200 * (((w (0, 8, 0) 1).toNat : Nat) : Int) ≤ 300000 * (c + 1 + 1)
      omega
    · rw [b1 _ j (by show t ≠ 5; omega), k_th0 (fun q => by omega), hW, k_6 (by omega)]
    · rw [b1 _ j (by show t ≠ 5; omega), k_th0 hq, hR t x p' j (by omega) (by omega)]
  · rw [if_neg c1] at hW hk
    have hW : W = w := hW
    have hk : k = 1 := hk
    rw [if_neg c1, if_neg c1, hk, hW]
    exact OK_thn h (by decide)
theorem GI_th0 {c : Int} {w : Mm} (h : GI c w) : GI (c + 1) (th0 w) := GI_ro h (fun t v p j _ hq => k_th0 hq)
theorem known_eq {c : Int} {w : Mm} (h : GI c w) : dpk (w (0, 8, 0) 1 * w (0, 8, 0) 4) (s0prs w 0) = dpk (w (3, 0, 0) 1 * w (3, 0, 0) 2) (rprs w 4) := by
  have hV := h.1.1.1
  have hP := h.1.1.2.1
  rw [h.2.2.1.V, h.2.2.1.1.2.1, prs_eq hV.1 hP.1 hP.2 h.2.2.1]
theorem rdgX_cg {W w w' : Mm} (hk : ∀ t p j, 3 ≤ t → t ≤ 4 → (t = 3 → p = 0 → j ≠ 0) → w' (t, 0, p) j = w (t, 0, p) j) : rdgX W w' = rdgX W w := by
  have e2 : w' (3, 0, 0) 2 = w (3, 0, 0) 2 := hk 3 0 2 (by decide) (by decide) (fun _ _ => by decide)
  have e1 : w' (3, 0, 0) 1 = w (3, 0, 0) 1 := hk 3 0 1 (by decide) (by decide) (fun _ _ => by decide)
  have k4 : ∀ p j, w' (4, 0, p) j = w (4, 0, p) j := fun p j => hk 4 p j (by decide) (by decide) (fun q => absurd q (by decide))
  have hV : ∀ v d, rdgV W w' v d = rdgV W w v d := fun v d => by
    unfold rdgV
    rw [e2, k4, k4]
    have g3 := dg_cg (d := dg (dg d (fun a => rvtold W (v : Int) a) 10) (fun _ => ((rlast W 4 (v : Int) (w (4, 0, 0) 2).toNat : Nat) : Int)) 1) (f := fun k => w' (4, 0, 5) (5 * v + k)) (f' := fun k => w (4, 0, 5) (5 * v + k)) rfl (w (4, 0, 4) v).toNat (fun i _ => k4 5 _)
    exact dg_cg g3 _ (fun i _ => k4 6 _)
  have hL : ∀ n d, rdgL W w' d n = rdgL W w d n := by
    intro n
    induction n with
    | zero => intro d; rfl
    | succ n ih => intro d; rw [rdgL_s, rdgL_s, ih, hV]
  unfold rdgX
  rw [hL, e1, e2]
  have g := dg_cg (d := dg 769 (fun a => rcnt W a) 8) (f := fun p => w' (3, 0, 6) p) (f' := fun p => w (3, 0, 6) p) rfl (w (3, 0, 0) 2).toNat (fun i _ => hk 3 6 i (by decide) (by decide) (fun _ q => absurd q (by decide)))
  rw [g]
theorem dig_eq {c : Int} {w : Mm} (h : GI c w) : dgX w = rdgX (st1 w (3, 0, 0) 0 0) w := by
  obtain ⟨t1, t2, t3, t4⟩ := h.R (W := w) (fun _ _ _ _ _ _ => rfl)
  have e := digest_eq h.1.1 t3.1 t1 t4
  exact e.trans (rdgX_cg (W := th0 w) (w := w) (w' := th0 w) (fun t p j h3 h4 hq => k_th0 hq))
theorem GR_R {c : Int} {w : Mm} (hc : 0 ≤ c ∧ c ≤ 512) (h : GR c w) : inR (rcw w (w (3, 0, 0) 1).toNat) ∧ inR (rprs w 4) := by
  obtain ⟨h1, -, h3⟩ := h
  have hV := h3.1
  have a := sumI_kn (f := fun v => w (4, 0, 7) v) (b := 204800 * c) (w (3, 0, 0) 1).toNat (fun i hi => h1.2.2.2.2.2.2.2.1 i (by omega))
  have b := rprs_96 (u := 4) h3.1 h3.2.1
  have hm : (((w (3, 0, 0) 1).toNat : Nat) : Int) * (204800 * c) ≤ 8 * (204800 * c) := Int.mul_le_mul_of_nonneg_right (by omega) (by omega)
  refine ⟨?_, ⟨by omega, by omega⟩⟩
  unfold rcw
  exact ⟨by omega, by omega⟩
