/-! the tie: steps of the calls that set -/
theorem GI.nn {c : Int} {w : Mm} (h : GI c w) : 0 ≤ c := by
  have := h.1.1.2.2.1
  omega
theorem GI.up {c : Int} {w : Mm} (h : GI c w) : LI w 0 (200 * (c + 1)) (1600 * (c + 1)) (fun _ => 22400 * (c + 1)) ∧ (∃ N1 D1, LI w 1 N1 D1 (fun _ => 300000 * (c + 1 + 1))) := by
  obtain ⟨⟨hL, N1, D1, hL1⟩, -⟩ := h
  exact ⟨hL.mono (by omega) (by omega) (fun _ _ => by show 22400 * c ≤ 22400 * (c + 1); omega), N1, D1, hL1.mono (Int.le_refl _) (Int.le_refl _) (fun _ _ => by show 300000 * (c + 1) ≤ 300000 * (c + 1 + 1); omega)⟩
/-- the reference's side at a memory that has the reference's cells of w -/
theorem GR_w {c : Int} {w W : Mm} (h : GR c w) (hW : ∀ t v p j, 2 ≤ t → t ≠ 6 → W (t, v, p) j = w (t, v, p) j) : GR c W := by
  obtain ⟨h1, ⟨a, b, d, h2⟩, h3⟩ := h
  exact ⟨h1.k (fun p j => hW 4 0 p j (by decide) (by decide)) (Int.le_refl _) (Int.le_refl _) (Int.le_refl _), ⟨a, b, d, h2.k (fun p j => hW 5 0 p j (by decide) (by decide)) (Int.le_refl _) (Int.le_refl _) (Int.le_refl _)⟩, h3.k (fun p j _ => hW 3 0 p j (by decide) (by decide))⟩
theorem GR_t {c : Int} {W : Mm} (h : GR c W) : GR c (th0 W) := ⟨h.1.k (fun p j => k_th0 (fun q => absurd q (by decide))) (Int.le_refl _) (Int.le_refl _) (Int.le_refl _), by obtain ⟨a, b, d, h2⟩ := h.2.1; exact ⟨a, b, d, h2.k (fun p j => k_th0 (fun q => absurd q (by decide))) (Int.le_refl _) (Int.le_refl _) (Int.le_refl _)⟩, h.2.2.k (fun p j hp => k_th0 (fun _ => hp))⟩
/-- what the reference has there -/
theorem GI.R {c : Int} {w W : Mm} (h : GI c w) (hW : ∀ t v p j, 2 ≤ t → t ≠ 6 → W (t, v, p) j = w (t, v, p) j) : TT w (th0 W) 0 4 ∧ UU w (th0 W) ∧ GR c (th0 W) ∧ ∀ p : Nat, (p : Int) < w (0, 8, 0) 4 → w (0, 8, 1) p = th0 W (3, 0, 6) p := by
  have hk : ∀ t v p j, 3 ≤ t → t ≤ 4 → (t = 3 → p = 0 → j ≠ 0) → th0 W (t, v, p) j = w (t, v, p) j := fun t v p j h3 h4 hq => by rw [k_th0 hq, hW t v p j (by omega) (by omega)]
  obtain ⟨t1, t2⟩ := h.rt (R := th0 W) (fun t p j h3 h4 hq => hk t 0 p j h3 h4 hq)
  exact ⟨t1, t2, GR_t (GR_w h.2.1 hW), fun p hp => by rw [hk 3 0 6 p (by decide) (by decide) (fun _ q => absurd q (by decide))]; exact h.2.2.2.2 p hp⟩
theorem LI_cell {w : Mm} {t v j : Nat} {x : Int} {N D : Int} {X : Nat → Int} (h : LI w t N D X) (hv : v ≤ 7) (hx : (j = 2 ∧ 0 ≤ x ∧ x ≤ 9) ∨ (j = 3 ∧ (x = 0 ∨ x = 1)) ∨ (j = 4 ∧ 0 ≤ x ∧ x ≤ 23) ∨ (j = 5 ∧ 0 ≤ x ∧ x ≤ 24)) : LI (st1 w (t, v, 0) j x) t N D X := by
  refine h.loc hv loc.rf.st (fun _ _ => rfl) ?_
  obtain ⟨b1, b2, b3, b4, b5, b6, b7, b8, b9, b10⟩ := h.v hv
  unfold vOK
  rcases hx with ⟨rfl, h1, h2⟩ | ⟨rfl, h1⟩ | ⟨rfl, h1, h2⟩ | ⟨rfl, h1, h2⟩
  · simp [st1]
    exact ⟨b1, ⟨h1, h2⟩, b3, b4, b5, b6, b7, b8, b9, b10⟩
  · simp [st1]
    exact ⟨b1, b2, h1, b4, b5, b6, b7, b8, b9, b10⟩
  · simp [st1]
    exact ⟨b1, b2, b3, ⟨h1, h2⟩, b5, b6, b7, b8, b9, b10⟩
  · simp [st1]
    exact ⟨b1, b2, b3, b4, ⟨h1, h2⟩, b6, b7, b8, b9, b10⟩
/-- a call that sets a drum, a cliff or an hour of a village that is there -/
theorem GI_set {c : Int} {w W0 M : Mm} {v : Nat} (h : GI c w) (hv : (v : Int) < w (0, 8, 0) 1) (hL : LI W0 0 (200 * (c + 1)) (1600 * (c + 1)) (fun _ => 22400 * (c + 1))) (hC : ∀ t x p j, ¬ (t = 0 ∧ x = v ∧ p = 0 ∧ (j = 2 ∨ j = 3 ∨ j = 4 ∨ j = 5)) → W0 (t, x, p) j = w (t, x, p) j) (hM0 : ∀ t x p j, t ≤ 1 → M (t, x, p) j = W0 (t, x, p) j) (hR : ∀ t p j, 3 ≤ t → t ≤ 5 → (t = 3 → p = 0 → j ≠ 0) → ¬ (j = v ∧ (t = 4 ∧ p = 1 ∨ t = 3 ∧ (p = 3 ∨ p = 4 ∨ p = 5))) → M (t, 0, p) j = w (t, 0, p) j)
    (hx : W0 (0, v, 0) 2 = M (4, 0, 1) v ∧ W0 (0, v, 0) 3 = M (3, 0, 3) v ∧ W0 (0, v, 0) 4 = M (3, 0, 4) v ∧ W0 (0, v, 0) 5 = M (3, 0, 5) v) : GI (c + 1) M := by
  have hV := h.1.1.1
  have h0 := h
  obtain ⟨⟨hL0, N1, D1, hL1⟩, ⟨hS, ⟨a, b, d, hS5⟩, hM⟩, hT, hU, htn⟩ := h
  have hn := h0.nn
  have h2v := hL.v (v := v) (by omega)
  have e4 : ∀ p j, p ≠ 1 → M (4, 0, p) j = w (4, 0, p) j := fun p j hp => hR 4 p j (by decide) (by decide) (fun q => absurd q (by decide)) (fun q => by omega)
  have e3 : ∀ p j, p ≠ 3 → p ≠ 4 → p ≠ 5 → (p = 0 → j ≠ 0) → M (3, 0, p) j = w (3, 0, p) j := fun p j a b c hp => hR 3 p j (by decide) (by decide) (fun _ => hp) (fun q => by omega)
  have hTT : TT W0 M 0 4 := upd_TT hV.2 hT (fun x p j hn => hC 0 x p j (fun q => hn ⟨q.2.2.1, q.2.2.2, by omega⟩)) e4 e3 (fun x hx1 => by
    by_cases e : x = v
    · subst e
      exact hx
    · obtain ⟨z1, z2, z3, z4, z5⟩ := hT.1.2.2.2 x hx1
      rw [hC 0 x 0 2 (fun q => e q.2.1), hC 0 x 0 3 (fun q => e q.2.1), hC 0 x 0 4 (fun q => e q.2.1), hC 0 x 0 5 (fun q => e q.2.1), hR 4 1 x (by decide) (by decide) (fun q => absurd q (by decide)) (fun q => e q.1), hR 3 3 x (by decide) (by decide) (fun _ q => absurd q (by decide)) (fun q => e q.1), hR 3 4 x (by decide) (by decide) (fun _ q => absurd q (by decide)) (fun q => e q.1), hR 3 5 x (by decide) (by decide) (fun _ q => absurd q (by decide)) (fun q => e q.1)]
      exact ⟨(hT.2.1.2.2.2 x hx1).1, z3, z4, z5⟩)
  obtain ⟨q1, q2, q3, q4, q5, q6, q7, q8, q9, q10⟩ := hS
  obtain ⟨m1, m2, m3, m4, m5, m6⟩ := hM
  have row : ∀ (t p : Nat) (n : Nat) (lo hi : Int), 3 ≤ t → t ≤ 5 → (t = 3 → p ≠ 0) → (lo ≤ M (t, 0, p) v ∧ M (t, 0, p) v ≤ hi) → rowR w (t, 0, p) n lo hi → rowR M (t, 0, p) n lo hi := fun t p n lo hi h3 h5 hp hb hr j hj => by
    by_cases e : j = v
    · rw [e]; exact hb
    · rw [hR t p j h3 h5 (fun q q2 => absurd q2 (hp q)) (fun q => e q.1)]
      exact hr j hj
  refine GI_fin (W0 := W0) hL ⟨N1, D1, hL1.k (fun x p j => hC 1 x p j (fun q => absurd q.1 (by decide))) (Int.le_refl _) (Int.le_refl _) (fun _ _ => by show 300000 * (c + 1) ≤ 300000 * (c + 1 + 1); omega)⟩ ?_ ⟨a, b, d, hS5.k (fun p j => hR 5 p j (by decide) (by decide) (fun q => absurd q (by decide)) (fun q => by omega)) (Int.le_refl _) (Int.le_refl _) (Int.le_refl _)⟩ ?_ hTT (fun x h8 hv1 => ?_) (fun p hp => ?_) hM0
  · exact ⟨by rw [e4 0 0 (by decide)]; omega, by rw [e4 0 1 (by decide)]; omega, by rw [e4 0 2 (by decide)]; exact q3, row 4 1 8 0 9 (by decide) (by decide) (fun q => absurd q (by decide)) (by rw [← hx.1]; exact h2v.2.1) q4, q5.cg (fun j => e4 3 j (by decide)), q6.cg (fun j => e4 4 j (by decide)), q7.cg (fun j => e4 5 j (by decide)), (q8.cg (fun j => e4 7 j (by decide))).mono (Int.le_refl _) (by omega), q9.cg (fun j => e4 8 j (by decide)), q10.cg (fun j => e4 9 j (by decide))⟩
  · exact ⟨by rw [e3 0 1 (by decide) (by decide) (by decide) (by decide)]; exact m1, by rw [e3 0 2 (by decide) (by decide) (by decide) (by decide)]; exact m2, m3.cg (fun j => e3 1 j (by decide) (by decide) (by decide) (fun q => absurd q (by decide))), m4.cg (fun j => e3 2 j (by decide) (by decide) (by decide) (fun q => absurd q (by decide))), row 3 4 8 0 23 (by decide) (by decide) (fun _ => by decide) (by rw [← hx.2.2.1]; exact h2v.2.2.2.1) m5, m6.cg (fun j => e3 7 j (by decide) (by decide) (by decide) (fun q => absurd q (by decide)))⟩
  · have e : x ≠ v := fun q => by
      subst q
      rw [hC 0 8 0 1 (fun q => by omega)] at hv1
      omega
    rw [hC 0 8 0 1 (fun q => by omega)] at hv1
    obtain ⟨u1, u2, u3, u4, u5, u6, u7, u8, u9, u10⟩ := hU x h8 hv1
    have ec : ∀ p j, W0 (0, x, p) j = w (0, x, p) j := fun p j => hC 0 x p j (fun q => e q.2.1)
    exact ⟨by rw [ec, hR 3 3 x (by decide) (by decide) (fun _ q => absurd q (by decide)) (fun q => e q.1)]; exact u1, by rw [ec, hR 3 4 x (by decide) (by decide) (fun _ q => absurd q (by decide)) (fun q => e q.1)]; exact u2, by rw [ec]; exact u3, by rw [ec]; exact u4, by rw [ec]; exact u5, by rw [e4 3 x (by decide)]; exact u6, (DC_cg (ec _ _) (fun j _ => ec _ _) (fun j _ => ec _ _) (ec _ _)).trans (u7.trans (DR_cg (e4 4 x (by decide)) (fun j _ => e4 5 _ (by decide)) (fun j _ => e4 6 _ (by decide)) (e4 7 x (by decide))).symm), by rw [ec]; exact u8, fun p hp => by rw [ec]; exact u9 p hp, by rw [ec]; exact u10⟩
  · rw [hC 0 8 0 4 (fun q => by omega)] at hp
    rw [hC 0 8 1 p (fun q => by omega), e3 6 p (by decide) (by decide) (by decide) (fun q => absurd q (by decide))]
    exact htn p hp
theorem st_setDrum {c : Int} {w W : Mm} {k v d : Int} (h : GI c w) (hW : W = wr6 (if lV w v then (if 1 ≤ d ∧ d ≤ 9 then none else eA) else eI) w (st1 w (0, v.toNat, 0) 2 d) (w (0, v.toNat, 0) 2)) (hk : k = cd xI (if lV w v then (if 1 ≤ d ∧ d ≤ 9 then none else eA) else eI)) :
    OKs c k (if isV W v then (if 1 ≤ d ∧ d ≤ 9 then st1 (th0 W) (4, 0, 1) v.toNat d else thn W 2) else thn W 1) (if isV W v then (if 1 ≤ d ∧ d ≤ 9 then W (4, 0, 1) v.toNat else 0) else 0) := by
  have hV := h.1.1.1
  by_cases c1 : lV w v
  · by_cases c2 : 1 ≤ d ∧ d ≤ 9
    · rw [if_pos c1, if_pos c2] at hW hk
      have hW : W = st1 (st1 w (0, v.toNat, 0) 2 d) (6, 0, 0) 0 (w (0, v.toNat, 0) 2) := hW
      have hk : k = 0 := hk
      have hR : ∀ t x p j, t ≠ 6 → t ≠ 0 → W (t, x, p) j = w (t, x, p) j := fun t x p j h6 h0 => by rw [hW, k_6 h6, st1_k (by simp [h0])]
      have hvn : ((v.toNat : Nat) : Int) < w (0, 8, 0) 1 := by have := c1.1; have := c1.2; omega
      have hm : isV W v := (isV_w h (hR 3 0 0 1 (by decide) (by decide))).mpr c1
      rw [if_pos hm, if_pos hm, if_pos c2, if_pos c2, hk]
      obtain ⟨z1, z2, z3, z4, z5⟩ := h.2.2.1.1.2.2.2 v.toNat hvn
      refine ⟨(st1_k (by simp)).trans th0_t, fun _ => ?_, GI_set (v := v.toNat) (W0 := st1 w (0, v.toNat, 0) 2 d) h hvn (LI_cell h.up.1 (by omega) (Or.inl ⟨rfl, by omega, by omega⟩)) (fun t x p j hn => ?_) (fun t x p j ht => ?_) (fun t p j h3 h5 hq hn => ?_) ⟨?_, ?_, ?_, ?_⟩⟩
      · rw [st1_k (by simp), th0_6, hW, st1_eq, ← hW, hR 4 0 1 _ (by decide) (by decide)]
        exact (h.2.2.1.2.1.2.2.2 v.toNat hvn).1
      · unfold st1
        rw [if_neg (fun q => hn (by have h1 := q.1; simp at h1; exact ⟨h1.1, h1.2.1, h1.2.2, Or.inl q.2⟩))]
      · rw [st1_k (by simp; omega), k_th0 (fun q => by omega), hW, k_6 (by omega)]
      · by_cases e : t = 4 ∧ p = 1
        · rw [e.1, e.2, st1_j (fun q => hn ⟨q, Or.inl e⟩), k_th0 (fun q => absurd q (by decide)), hR 4 0 1 j (by decide) (by decide)]
        · rw [st1_k (by simp; intro h1 h2; exact e ⟨h1, h2⟩), k_th0 hq, hR t 0 p j (by omega) (by omega)]
      · rw [st1_eq, st1_eq]
      · rw [st1_j (by decide), st1_k (by simp), k_th0 (fun _ q => absurd q (by decide)), hR 3 0 3 _ (by decide) (by decide)]; exact z3
      · rw [st1_j (by decide), st1_k (by simp), k_th0 (fun _ q => absurd q (by decide)), hR 3 0 4 _ (by decide) (by decide)]; exact z4
      · rw [st1_j (by decide), st1_k (by simp), k_th0 (fun _ q => absurd q (by decide)), hR 3 0 5 _ (by decide) (by decide)]; exact z5
    · rw [if_pos c1, if_neg c2] at hW hk
      have hW : W = w := hW
      have hk : k = 2 := hk
      have hm : isV W v := (isV_w h (by rw [hW])).mpr c1
      rw [if_pos hm, if_pos hm, if_neg c2, if_neg c2, hk, hW]
      exact OK_thn h (by decide)
  · rw [if_neg c1] at hW hk
    have hW : W = w := hW
    have hk : k = 1 := hk
    have hm : ¬ isV W v := fun q => c1 ((isV_w h (by rw [hW])).mp q)
    rw [if_neg hm, if_neg hm, hk, hW]
    exact OK_thn h (by decide)
theorem st_setCliff {c : Int} {w W : Mm} {k v d : Int} (h : GI c w) (hd : d = 0 ∨ d = 1) (hW : W = wr6 (if lV w v then none else eI) w (st1 w (0, v.toNat, 0) 3 d) (bI (w (0, v.toNat, 0) 3 = 1))) (hk : k = cd xI (if lV w v then none else eI)) :
    OKs c k (if isV W v then st1 (th0 W) (3, 0, 3) v.toNat (if d = 0 then 0 else 1) else thn W 1) (bI (isV W v ∧ W (3, 0, 3) v.toNat = 1)) := by
  have hV := h.1.1.1
  have hd2 : (if d = 0 then (0 : Int) else 1) = d := by rcases hd with rfl | rfl <;> rfl
  rw [hd2]
  by_cases c1 : lV w v
  · rw [if_pos c1] at hW hk
    have hW : W = st1 (st1 w (0, v.toNat, 0) 3 d) (6, 0, 0) 0 (bI (w (0, v.toNat, 0) 3 = 1)) := hW
    have hk : k = 0 := hk
    have hR : ∀ t x p j, t ≠ 6 → t ≠ 0 → W (t, x, p) j = w (t, x, p) j := fun t x p j h6 h0 => by rw [hW, k_6 h6, st1_k (by simp [h0])]
    have hvn : ((v.toNat : Nat) : Int) < w (0, 8, 0) 1 := by have := c1.1; have := c1.2; omega
    have hm : isV W v := (isV_w h (hR 3 0 0 1 (by decide) (by decide))).mpr c1
    rw [if_pos hm, hk]
    obtain ⟨z1, z2, z3, z4, z5⟩ := h.2.2.1.1.2.2.2 v.toNat hvn
    refine ⟨(st1_k (by simp)).trans th0_t, fun _ => ?_, GI_set (v := v.toNat) (W0 := st1 w (0, v.toNat, 0) 3 d) h hvn (LI_cell h.up.1 (by omega) (Or.inr (Or.inl ⟨rfl, hd⟩))) (fun t x p j hn => ?_) (fun t x p j ht => ?_) (fun t p j h3 h5 hq hn => ?_) ⟨?_, ?_, ?_, ?_⟩⟩
    · rw [st1_k (by simp), th0_6, hW, st1_eq, ← hW]
      refine bI_iff ?_
      rw [hR 3 0 3 _ (by decide) (by decide), ← z3]
      exact ⟨fun q => ⟨hm, q⟩, fun q => q.2⟩
    · unfold st1
      rw [if_neg (fun q => hn (by have h1 := q.1; simp at h1; exact ⟨h1.1, h1.2.1, h1.2.2, Or.inr (Or.inl q.2)⟩))]
    · rw [st1_k (by simp; omega), k_th0 (fun q => by omega), hW, k_6 (by omega)]
    · by_cases e : t = 3 ∧ p = 3
      · rw [e.1, e.2, st1_j (fun q => hn ⟨q, Or.inr ⟨e.1, Or.inl e.2⟩⟩), k_th0 (fun _ q => absurd q (by decide)), hR 3 0 3 j (by decide) (by decide)]
      · rw [st1_k (by simp; intro h1 h2; exact e ⟨h1, h2⟩), k_th0 hq, hR t 0 p j (by omega) (by omega)]
    · rw [st1_j (by decide), st1_k (by simp), k_th0 (fun q => absurd q (by decide)), hR 4 0 1 _ (by decide) (by decide)]; exact (h.2.2.1.2.1.2.2.2 v.toNat hvn).1
    · rw [st1_eq, st1_eq]
    · rw [st1_j (by decide), st1_k (by simp), k_th0 (fun _ q => absurd q (by decide)), hR 3 0 4 _ (by decide) (by decide)]; exact z4
    · rw [st1_j (by decide), st1_k (by simp), k_th0 (fun _ q => absurd q (by decide)), hR 3 0 5 _ (by decide) (by decide)]; exact z5
  · rw [if_neg c1] at hW hk
    have hW : W = w := hW
    have hk : k = 1 := hk
    have hm : ¬ isV W v := fun q => c1 ((isV_w h (by rw [hW])).mp q)
    rw [if_neg hm, hk, hW]
    exact OK_thn h (by decide)
theorem st_setAwake {c : Int} {w W : Mm} {k v a b : Int} (h : GI c w) (hW : W = wr6 (if lV w v then (if (0 ≤ a ∧ a ≤ 23) ∧ (1 ≤ b ∧ b ≤ 24) then none else eA) else eI) w (st1 (st1 w (0, v.toNat, 0) 4 a) (0, v.toNat, 0) 5 b) (w (0, v.toNat, 0) 5)) (hk : k = cd xI (if lV w v then (if (0 ≤ a ∧ a ≤ 23) ∧ (1 ≤ b ∧ b ≤ 24) then none else eA) else eI)) :
    OKs c k (if isV W v then (if (0 ≤ a ∧ a ≤ 23) ∧ (1 ≤ b ∧ b ≤ 24) then st1 (st1 (th0 W) (3, 0, 4) v.toNat a) (3, 0, 5) v.toNat b else thn W 2) else thn W 1) (if isV W v then (if (0 ≤ a ∧ a ≤ 23) ∧ (1 ≤ b ∧ b ≤ 24) then W (3, 0, 5) v.toNat else 0) else 0) := by
  have hV := h.1.1.1
  by_cases c1 : lV w v
  · by_cases c2 : (0 ≤ a ∧ a ≤ 23) ∧ (1 ≤ b ∧ b ≤ 24)
    · rw [if_pos c1, if_pos c2] at hW hk
      have hW : W = st1 (st1 (st1 w (0, v.toNat, 0) 4 a) (0, v.toNat, 0) 5 b) (6, 0, 0) 0 (w (0, v.toNat, 0) 5) := hW
      have hk : k = 0 := hk
      have hR : ∀ t x p j, t ≠ 6 → t ≠ 0 → W (t, x, p) j = w (t, x, p) j := fun t x p j h6 h0 => by rw [hW, k_6 h6, st1_k (by simp [h0]), st1_k (by simp [h0])]
      have hvn : ((v.toNat : Nat) : Int) < w (0, 8, 0) 1 := by have := c1.1; have := c1.2; omega
      have hm : isV W v := (isV_w h (hR 3 0 0 1 (by decide) (by decide))).mpr c1
      rw [if_pos hm, if_pos hm, if_pos c2, if_pos c2, hk]
      obtain ⟨z1, z2, z3, z4, z5⟩ := h.2.2.1.1.2.2.2 v.toNat hvn
      refine ⟨(st1_k (by simp)).trans ((st1_k (by simp)).trans th0_t), fun _ => ?_, GI_set (v := v.toNat) (W0 := st1 (st1 w (0, v.toNat, 0) 4 a) (0, v.toNat, 0) 5 b) h hvn (LI_cell (LI_cell h.up.1 (by omega) (Or.inr (Or.inr (Or.inl ⟨rfl, by omega, by omega⟩)))) (by omega) (Or.inr (Or.inr (Or.inr ⟨rfl, by omega, by omega⟩)))) (fun t x p j hn => ?_) (fun t x p j ht => ?_) (fun t p j h3 h5 hq hn => ?_) ⟨?_, ?_, ?_, ?_⟩⟩
      · rw [st1_k (by simp), st1_k (by simp), th0_6, hW, st1_eq, ← hW, hR 3 0 5 _ (by decide) (by decide)]
        exact z5
      · unfold st1
        rw [if_neg (fun q => hn (by have h1 := q.1; simp at h1; exact ⟨h1.1, h1.2.1, h1.2.2, Or.inr (Or.inr (Or.inr q.2))⟩)), if_neg (fun q => hn (by have h1 := q.1; simp at h1; exact ⟨h1.1, h1.2.1, h1.2.2, Or.inr (Or.inr (Or.inl q.2))⟩))]
      · rw [st1_k (by simp; omega), st1_k (by simp; omega), k_th0 (fun q => by omega), hW, k_6 (by omega)]
      · by_cases e : t = 3 ∧ (p = 4 ∨ p = 5)
        · have hj : j ≠ v.toNat := fun q => hn ⟨q, Or.inr ⟨e.1, by omega⟩⟩
          unfold st1
          rw [if_neg (fun q => hj q.2), if_neg (fun q => hj q.2), k_th0 hq, hR t 0 p j (by omega) (by omega)]
        · rw [st1_k (by simp; intro h1 h2; exact e ⟨h1, Or.inr h2⟩), st1_k (by simp; intro h1 h2; exact e ⟨h1, Or.inl h2⟩), k_th0 hq, hR t 0 p j (by omega) (by omega)]
      · rw [st1_j (by decide), st1_j (by decide), st1_k (by simp), st1_k (by simp), k_th0 (fun q => absurd q (by decide)), hR 4 0 1 _ (by decide) (by decide)]; exact (h.2.2.1.2.1.2.2.2 v.toNat hvn).1
      · rw [st1_j (by decide), st1_j (by decide), st1_k (by simp), st1_k (by simp), k_th0 (fun _ q => absurd q (by decide)), hR 3 0 3 _ (by decide) (by decide)]; exact z3
      · rw [st1_j (by decide), st1_eq, st1_k (by simp), st1_eq]
      · rw [st1_eq, st1_eq]
    · rw [if_pos c1, if_neg c2] at hW hk
      have hW : W = w := hW
      have hk : k = 2 := hk
      have hm : isV W v := (isV_w h (by rw [hW])).mpr c1
      rw [if_pos hm, if_pos hm, if_neg c2, if_neg c2, hk, hW]
      exact OK_thn h (by decide)
  · rw [if_neg c1] at hW hk
    have hW : W = w := hW
    have hk : k = 1 := hk
    have hm : ¬ isV W v := fun q => c1 ((isV_w h (by rw [hW])).mp q)
    rw [if_neg hm, if_neg hm, hk, hW]
    exact OK_thn h (by decide)
