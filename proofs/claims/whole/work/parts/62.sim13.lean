/-! the tie: what stands from call to call, and the calls that only ask -/
abbrev xI : String := "java/lang/IndexOutOfBoundsException"
abbrev xA : String := "java/lang/IllegalArgumentException"
def cd (E1 : String) (o : Option String) : Int := match o with | none => 0 | some E => if E = E1 then 1 else 2
def wr6 (o : Option String) (w w' : Mm) (v : Int) : Mm := match o with | none => st1 w' (6, 0, 0) 0 v | some _ => w
def GC (c : Int) (w : Mm) : Prop := LI w 0 (200 * c) (1600 * c) (fun _ => 22400 * c) ∧ ∃ N1 D1, LI w 1 N1 D1 (fun _ => 300000 * (c + 1))
def GR (c : Int) (w : Mm) : Prop := SI w 4 (200 * c) (1600 * c) (204800 * c) ∧ (∃ a b d, SI w 5 a b d) ∧ MI w
def GI (c : Int) (w : Mm) : Prop := GC c w ∧ GR c w ∧ TT w w 0 4 ∧ UU w w ∧ ∀ p : Nat, (p : Int) < w (0, 8, 0) 4 → w (0, 8, 1) p = w (3, 0, 6) p
theorem SI.k {w w' : Mm} {u : Nat} {N D X N' D' X' : Int} (h : SI w u N D X) (hk : ∀ p j, w' (u, 0, p) j = w (u, 0, p) j) (hN : N ≤ N') (hD : D ≤ D') (hX : X ≤ X') : SI w' u N' D' X' := by
  obtain ⟨a1, a2, a3, a4, a5, a6, a7, a8, a9, a10⟩ := h
  exact ⟨by rw [hk]; omega, by rw [hk]; omega, by rw [hk]; exact a3, a4.cg (hk _), a5.cg (hk _), a6.cg (hk _), a7.cg (hk _), (a8.cg (hk _)).mono (Int.le_refl _) hX, a9.cg (hk _), a10.cg (hk _)⟩
theorem MI.k {w w' : Mm} (h : MI w) (hk : ∀ p j, (p = 0 → j ≠ 0) → w' (3, 0, p) j = w (3, 0, p) j) : MI w' := by
  obtain ⟨a1, a2, a3, a4, a5, a6⟩ := h
  exact ⟨by rw [hk 0 1 (by decide)]; exact a1, by rw [hk 0 2 (by decide)]; exact a2, a3.cg (fun j => hk 1 j (fun q => absurd q (by decide))), a4.cg (fun j => hk 2 j (fun q => absurd q (by decide))), a5.cg (fun j => hk 4 j (fun q => absurd q (by decide))), a6.cg (fun j => hk 7 j (fun q => absurd q (by decide)))⟩
theorem LI.k {w w' : Mm} {t : Nat} {N D N' D' : Int} {X X' : Nat → Int} (h : LI w t N D X) (hk : ∀ v p j, w' (t, v, p) j = w (t, v, p) j) (hN : N ≤ N') (hD : D ≤ D') (hX : ∀ v, v ≤ 7 → X v ≤ X' v) : LI w' t N' D' X' :=
  (h.cg (fun j => hk _ _ j) (fun j => hk _ _ j) (fun v hv => (h.v hv).cg (fun j => hk _ _ j) (hk _ _ 4))).mono hN hD hX
theorem GI_fin {c : Int} {W0 M : Mm} (hL : LI W0 0 (200 * (c + 1)) (1600 * (c + 1)) (fun _ => 22400 * (c + 1))) (hL1 : ∃ N1 D1, LI W0 1 N1 D1 (fun _ => 300000 * (c + 1 + 1))) (hS : SI M 4 (200 * (c + 1)) (1600 * (c + 1)) (204800 * (c + 1))) (hS5 : ∃ a b d, SI M 5 a b d) (hM : MI M) (hT : TT W0 M 0 4) (hU : UU W0 M) (htn : ∀ p : Nat, (p : Int) < W0 (0, 8, 0) 4 → W0 (0, 8, 1) p = M (3, 0, 6) p) (h0 : ∀ t v p j, t ≤ 1 → M (t, v, p) j = W0 (t, v, p) j) : GI (c + 1) M := by
  obtain ⟨N1, D1, hL1⟩ := hL1
  refine ⟨⟨hL.k (fun v p j => h0 0 v p j (by decide)) (Int.le_refl _) (Int.le_refl _) (fun _ _ => Int.le_refl _), N1, D1, hL1.k (fun v p j => h0 1 v p j (by decide)) (Int.le_refl _) (Int.le_refl _) (fun _ _ => Int.le_refl _)⟩, ⟨hS, hS5, hM⟩, hT.mv (CS.of (fun v p j => h0 0 v p j (by decide))) RC.rf hL.1.2 hL.2.1.2 (fun v hv => by have := hL.1; exact (hL.v (v := v) (by omega)).2.2.2.2.2.2.2.1.2) hS.2.2.1.1, fun v h8 hv => ?_, fun p hp => ?_⟩
  · have e : ∀ v p j, M (0, v, p) j = W0 (0, v, p) j := fun v p j => h0 0 v p j (by decide)
    rw [e] at hv
    obtain ⟨u1, u2, u3, u4, u5, u6, u7, u8, u9, u10⟩ := hU v h8 hv
    exact ⟨by rw [e]; exact u1, by rw [e]; exact u2, by rw [e]; exact u3, by rw [e]; exact u4, by rw [e]; exact u5, u6, (DC_cg (e _ _ _) (fun j _ => e _ _ _) (fun j _ => e _ _ _) (e _ _ _)).trans u7, by rw [e]; exact u8, fun p hp => by rw [e]; exact u9 p hp, by rw [e]; exact u10⟩
  · rw [h0 0 8 0 4 (by decide)] at hp
    rw [h0 0 8 1 p (by decide)]
    exact htn p hp
/-- the reference's side of a memory that differs in what was thrown alone -/
theorem GI.rt {c : Int} {w R : Mm} (h : GI c w) (hR : ∀ t p j, 3 ≤ t → t ≤ 4 → (t = 3 → p = 0 → j ≠ 0) → R (t, 0, p) j = w (t, 0, p) j) : TT w R 0 4 ∧ UU w R := by
  obtain ⟨⟨hL, -⟩, ⟨hS, -, -⟩, hT, hU, -⟩ := h
  have h4 : ∀ p j, R (4, 0, p) j = w (4, 0, p) j := fun p j => hR 4 p j (by decide) (by decide) (fun q => absurd q (by decide))
  have h3 : ∀ p j, (p = 0 → j ≠ 0) → R (3, 0, p) j = w (3, 0, p) j := fun p j hp => hR 3 p j (by decide) (by decide) (fun _ => hp)
  refine ⟨hT.mv CS.rf (RC.of h4 h3) hL.1.2 hL.2.1.2 (fun v hv => by have := hL.1; exact (hL.v (v := v) (by omega)).2.2.2.2.2.2.2.1.2) hS.2.2.1.1, fun v h8 hv => ?_⟩
  obtain ⟨u1, u2, u3, u4, u5, u6, u7, u8, u9, u10⟩ := hU v h8 hv
  exact ⟨by rw [h3 3 v (fun q => absurd q (by decide))]; exact u1, by rw [h3 4 v (fun q => absurd q (by decide))]; exact u2, u3, u4, u5, by rw [h4]; exact u6, u7.trans (DR_cg (h4 _ _) (fun j _ => h4 _ _) (fun j _ => h4 _ _) (h4 _ _)).symm, u8, u9, u10⟩
/-- a call that changes nothing but what was thrown, and what is answered -/
theorem GI_ro {c : Int} {w M : Mm} (h : GI c w) (hk : ∀ t v p j, t ≤ 5 → (t = 3 → p = 0 → j ≠ 0) → M (t, v, p) j = w (t, v, p) j) : GI (c + 1) M := by
  have h0 := h
  obtain ⟨⟨hL, N1, D1, hL1⟩, ⟨hS, ⟨a, b, d, hS5⟩, hM⟩, hT, hU, htn⟩ := h
  have hc : 0 ≤ 200 * c := Int.le_trans hL.2.2.1.1 hL.2.2.1.2
  obtain ⟨t1, t2⟩ := h0.rt (R := M) (fun t p j h3 h4 hq => hk t 0 p j (by omega) hq)
  refine GI_fin (W0 := w) (hL.mono (by omega) (by omega) (fun _ _ => by show 22400 * c ≤ 22400 * (c + 1); omega)) ⟨N1, D1, hL1.mono (Int.le_refl _) (Int.le_refl _) (fun _ _ => by show 300000 * (c + 1) ≤ 300000 * (c + 1 + 1); omega)⟩ (hS.k (fun p j => hk 4 0 p j (by decide) (fun q => absurd q (by decide))) (by omega) (by omega) (by omega)) ⟨a, b, d, hS5.k (fun p j => hk 5 0 p j (by decide) (fun q => absurd q (by decide))) (Int.le_refl _) (Int.le_refl _) (Int.le_refl _)⟩ (hM.k (fun p j hp => hk 3 0 p j (by decide) (fun _ => hp))) t1 t2 (fun p hp => ?_) (fun t v p j ht => hk t v p j (by omega) (fun q => by omega))
  rw [hk 3 0 6 p (by decide) (fun _ q => absurd q (by decide))]
  exact htn p hp
theorem k_th0 {W : Mm} {t v p j : Nat} (h : t = 3 → p = 0 → j ≠ 0) : th0 W (t, v, p) j = W (t, v, p) j := by
  unfold th0 st1
  rw [if_neg (fun q => by have h1 := q.1; simp at h1; exact h h1.1 h1.2.2 q.2)]
theorem k_thn {W : Mm} {x : Int} {t v p j : Nat} (h : t = 3 → p = 0 → j ≠ 0) : thn W x (t, v, p) j = W (t, v, p) j := by
  unfold thn st1
  rw [if_neg (fun q => by have h1 := q.1; simp at h1; exact h h1.1 h1.2.2 q.2), if_neg (fun q => by have h1 := q.1; simp at h1; exact h h1.1 h1.2.2 q.2)]
theorem k_6 {w : Mm} {x : Int} {t v p j : Nat} (h : t ≠ 6) : st1 w (6, 0, 0) 0 x (t, v, p) j = w (t, v, p) j := st1_k (by simp [h])
theorem th0_t {W : Mm} : th0 W (3, 0, 0) 0 = 0 := st1_eq _ _ _ _
theorem thn_t {W : Mm} {x : Int} : thn W x (3, 0, 0) 0 = x := st1_eq _ _ _ _
theorem th0_6 {W : Mm} {j : Nat} : th0 W (6, 0, 0) j = W (6, 0, 0) j := k_th0 (fun q => absurd q (by decide))
/-- what a step gives -/
def OKs (c k : Int) (M : Mm) (b : Int) : Prop := M (3, 0, 0) 0 = k ∧ (k = 0 → M (6, 0, 0) 0 = b) ∧ GI (c + 1) M
theorem OK_thn {c k b : Int} {w : Mm} (h : GI c w) (hk : ¬ k = 0) : OKs c k (thn w k) b := ⟨thn_t, fun q => absurd q hk, GI_ro h (fun t v p j _ hq => k_thn hq)⟩
theorem OK_th0 {c b v : Int} {w : Mm} (h : GI c w) (hb : v = b) : OKs c 0 (th0 (st1 w (6, 0, 0) 0 v)) b := ⟨th0_t, fun _ => by rw [th0_6, st1_eq]; exact hb, GI_ro h (fun t v p j ht hq => by rw [k_th0 hq, k_6 (by omega)])⟩
/-- the memory that the reference reads, behind a call that only asks -/
theorem GI.t0 {c : Int} {w : Mm} (h : GI c w) (x : Int) : TT w (th0 (st1 w (6, 0, 0) 0 x)) 0 4 ∧ SI (th0 (st1 w (6, 0, 0) 0 x)) 4 (200 * c) (1600 * c) (204800 * c) := ⟨(h.rt (fun t p j h3 h4 hq => by rw [k_th0 hq, k_6 (by omega)])).1, h.2.1.1.k (fun p j => by rw [k_th0 (fun q => absurd q (by decide)), k_6 (by decide)]) (Int.le_refl _) (Int.le_refl _) (Int.le_refl _)⟩
theorem isV_w {c : Int} {w W : Mm} {v : Int} (h : GI c w) (hW : W (3, 0, 0) 1 = w (3, 0, 0) 1) : isV W v ↔ lV w v := by
  unfold isV lV
  rw [hW, ← h.2.2.1.V]
  omega
theorem isP_w {c : Int} {w W : Mm} {v : Int} (h : GI c w) (hW : W (3, 0, 0) 2 = w (3, 0, 0) 2) : isP W v ↔ lP w v := by
  unfold isP lP
  rw [hW, ← h.2.2.1.1.2.1]
  omega
theorem st_village {c : Int} {w W : Mm} {k v a : Int} (h : GI c w) (hW : W = wr6 (if lV w v then (if 0 ≤ a ∧ a ≤ 9 then none else eI) else eI) w w (s2fig w 0 v.toNat (w (0, 8, 0) 5) a.toNat)) (hk : k = cd xI (if lV w v then (if 0 ≤ a ∧ a ≤ 9 then none else eI) else eI)) :
    OKs c k (if isV W v ∧ (0 ≤ a ∧ a ≤ 9) then th0 W else thn W 1) (if isV W v ∧ (0 ≤ a ∧ a ≤ 9) then rvtold (th0 W) v a.toNat else 0) := by
  by_cases c1 : lV w v
  · rw [if_pos c1] at hW hk
    by_cases c2 : 0 ≤ a ∧ a ≤ 9
    · rw [if_pos c2] at hW hk
      have hW : W = st1 w (6, 0, 0) 0 (s2fig w 0 v.toNat (w (0, 8, 0) 5) a.toNat) := hW
      have hk : k = 0 := hk
      have hR : ∀ t v p j, t ≠ 6 → W (t, v, p) j = w (t, v, p) j := fun t v p j ht => by rw [hW]; exact k_6 ht
      have hm : isV W v ∧ (0 ≤ a ∧ a ≤ 9) := ⟨(isV_w h (hR 3 0 0 1 (by decide))).mpr c1, c2⟩
      rw [if_pos hm, if_pos hm, hk]
      have hvn : ((v.toNat : Nat) : Int) < w (0, 8, 0) 1 := by have := c1.1; have := c1.2; omega
      have hb : s2fig w 0 v.toNat (w (0, 8, 0) 5) a.toNat = rvtold (th0 W) v a.toNat := by
        have e := vfig_eq h.1.1 (h.t0 (s2fig w 0 v.toNat (w (0, 8, 0) 5) a.toNat)).1 (a := a.toNat) hvn
        rw [← hW, Int.toNat_of_nonneg c1.1] at e
        exact e
      rw [hW] at hb ⊢
      exact OK_th0 h hb
    · rw [if_neg c2] at hW hk
      have hW : W = w := hW
      have hk : k = 1 := hk
      have hR : ∀ t v p j, t ≠ 6 → W (t, v, p) j = w (t, v, p) j := fun t v p j _ => by rw [hW]
      have hm : ¬ (isV W v ∧ (0 ≤ a ∧ a ≤ 9)) := fun q => c2 q.2
      rw [if_neg hm, if_neg hm, hk, hW]
      exact OK_thn h (by decide)
  · rw [if_neg c1] at hW hk
    have hW : W = w := hW
    have hk : k = 1 := hk
    have hR : ∀ t v p j, t ≠ 6 → W (t, v, p) j = w (t, v, p) j := fun t v p j _ => by rw [hW]
    have hm : ¬ (isV W v ∧ (0 ≤ a ∧ a ≤ 9)) := fun q => c1 ((isV_w h (hR 3 0 0 1 (by decide))).mp q.1)
    rw [if_neg hm, if_neg hm, hk, hW]
    exact OK_thn h (by decide)

theorem st_queue {c : Int} {w W : Mm} {k v a : Int} (h : GI c w) (hW : W = wr6 (if lV w v then (if 0 ≤ a ∧ a < w (0, v.toNat, 0) 9 then none else eI) else eI) w w (w (0, v.toNat, 1) a.toNat)) (hk : k = cd xI (if lV w v then (if 0 ≤ a ∧ a < w (0, v.toNat, 0) 9 then none else eI) else eI)) :
    OKs c k (if isV W v ∧ (0 ≤ a ∧ a ≤ W (4, 0, 4) v.toNat - 1) then th0 W else thn W 1) (if isV W v ∧ (0 ≤ a ∧ a ≤ W (4, 0, 4) v.toNat - 1) then W (4, 0, 5) (5 * v + a).toNat else 0) := by
  by_cases c1 : lV w v
  · rw [if_pos c1] at hW hk
    by_cases c2 : 0 ≤ a ∧ a < w (0, v.toNat, 0) 9
    · rw [if_pos c2] at hW hk
      have hW : W = st1 w (6, 0, 0) 0 (w (0, v.toNat, 1) a.toNat) := hW
      have hk : k = 0 := hk
      have hR : ∀ t v p j, t ≠ 6 → W (t, v, p) j = w (t, v, p) j := fun t v p j ht => by rw [hW]; exact k_6 ht
      have hqq : lV w v → (0 ≤ a ∧ a ≤ W (4, 0, 4) v.toNat - 1 ↔ 0 ≤ a ∧ a < w (0, v.toNat, 0) 9) := fun c1 => by
        have e := (h.2.2.1.q (v := v.toNat) (by have := c1.1; have := c1.2; omega)).1
        rw [hR 4 0 4 _ (by decide), e]
        omega
      have hm : isV W v ∧ (0 ≤ a ∧ a ≤ W (4, 0, 4) v.toNat - 1) := ⟨(isV_w h (hR 3 0 0 1 (by decide))).mpr c1, (hqq c1).mpr c2⟩
      rw [if_pos hm, if_pos hm, hk]
      have hvn : ((v.toNat : Nat) : Int) < w (0, 8, 0) 1 := by have := c1.1; have := c1.2; omega
      have hb : w (0, v.toNat, 1) a.toNat = W (4, 0, 5) (5 * v + a).toNat := by
        have hq5 := (h.1.1.v (v := v.toNat) (by have := h.1.1.1; omega)).2.2.2.2.2.2.2.1
        have e := (h.2.2.1.q hvn).2.1 a.toNat (by omega)
        rw [e, hR 4 0 5 _ (by decide), show (5 * v + a).toNat = 5 * v.toNat + a.toNat by have := c1.1; omega]
      rw [hW] at hb ⊢
      exact OK_th0 h hb
    · rw [if_neg c2] at hW hk
      have hW : W = w := hW
      have hk : k = 1 := hk
      have hR : ∀ t v p j, t ≠ 6 → W (t, v, p) j = w (t, v, p) j := fun t v p j _ => by rw [hW]
      have hqq : lV w v → (0 ≤ a ∧ a ≤ W (4, 0, 4) v.toNat - 1 ↔ 0 ≤ a ∧ a < w (0, v.toNat, 0) 9) := fun c1 => by
        have e := (h.2.2.1.q (v := v.toNat) (by have := c1.1; have := c1.2; omega)).1
        rw [hR 4 0 4 _ (by decide), e]
        omega
      have hm : ¬ (isV W v ∧ (0 ≤ a ∧ a ≤ W (4, 0, 4) v.toNat - 1)) := fun q => c2 ((hqq c1).mp q.2)
      rw [if_neg hm, if_neg hm, hk, hW]
      exact OK_thn h (by decide)
  · rw [if_neg c1] at hW hk
    have hW : W = w := hW
    have hk : k = 1 := hk
    have hR : ∀ t v p j, t ≠ 6 → W (t, v, p) j = w (t, v, p) j := fun t v p j _ => by rw [hW]
    have hqq : lV w v → (0 ≤ a ∧ a ≤ W (4, 0, 4) v.toNat - 1 ↔ 0 ≤ a ∧ a < w (0, v.toNat, 0) 9) := fun c1 => by
      have e := (h.2.2.1.q (v := v.toNat) (by have := c1.1; have := c1.2; omega)).1
      rw [hR 4 0 4 _ (by decide), e]
      omega
    have hm : ¬ (isV W v ∧ (0 ≤ a ∧ a ≤ W (4, 0, 4) v.toNat - 1)) := fun q => c1 ((isV_w h (hR 3 0 0 1 (by decide))).mp q.1)
    rw [if_neg hm, if_neg hm, hk, hW]
    exact OK_thn h (by decide)

theorem st_knows {c : Int} {w W : Mm} {k v p : Int} (h : GI c w) (hW : W = wr6 (if lV w v ∧ lP w p then none else eI) w w (w (0, v.toNat, 2) p.toNat)) (hk : k = cd xI (if lV w v ∧ lP w p then none else eI)) :
    OKs c k (if isV W v ∧ isP W p then th0 W else thn W 1) (if isV W v ∧ isP W p then W (4, 0, 6) (12 * v + p).toNat else 0) := by
  by_cases c1 : lV w v ∧ lP w p
  · rw [if_pos c1] at hW hk
    have hW : W = st1 w (6, 0, 0) 0 (w (0, v.toNat, 2) p.toNat) := hW
    have hk : k = 0 := hk
    have hR : ∀ t v p j, t ≠ 6 → W (t, v, p) j = w (t, v, p) j := fun t v p j ht => by rw [hW]; exact k_6 ht
    have hm : isV W v ∧ isP W p := ⟨(isV_w h (hR 3 0 0 1 (by decide))).mpr c1.1, (isP_w h (hR 3 0 0 2 (by decide))).mpr c1.2⟩
    rw [if_pos hm, if_pos hm, hk]
    have hvn : ((v.toNat : Nat) : Int) < w (0, 8, 0) 1 := by have := c1.1.1; have := c1.1.2; omega
    have hb : w (0, v.toNat, 2) p.toNat = W (4, 0, 6) (12 * v + p).toNat := by
      have hP := h.1.1.2.1
      have hp1 := c1.2.1
      have hp2 := c1.2.2
      have hv1 := c1.1.1
      have e := (h.2.2.1.q hvn).2.2.1 p.toNat (by omega)
      rw [e, hR 4 0 6 _ (by decide), show (12 * v + p).toNat = 12 * v.toNat + p.toNat by omega]
    rw [hW] at hb ⊢
    exact OK_th0 h hb
  · rw [if_neg c1] at hW hk
    have hW : W = w := hW
    have hk : k = 1 := hk
    have hR : ∀ t v p j, t ≠ 6 → W (t, v, p) j = w (t, v, p) j := fun t v p j _ => by rw [hW]
    have hm : ¬ (isV W v ∧ isP W p) := fun q => c1 ⟨(isV_w h (hR 3 0 0 1 (by decide))).mp q.1, (isP_w h (hR 3 0 0 2 (by decide))).mp q.2⟩
    rw [if_neg hm, if_neg hm, hk, hW]
    exact OK_thn h (by decide)

theorem st_sounds {c : Int} {w W : Mm} {k v : Int} (h : GI c w) (hW : W = wr6 (if lV w v then none else eI) w w (((s1last w 0 v.toNat (w (0, 8, 0) 5) (w (0, v.toNat, 3) 4).toNat : Nat) : Int))) (hk : k = cd xI (if lV w v then none else eI)) :
    OKs c k (if isV W v then th0 W else thn W 1) (if isV W v then ((rlast (th0 W) 4 v (W (4, 0, 0) 2).toNat : Nat) : Int) else 0) := by
  by_cases c1 : lV w v
  · rw [if_pos c1] at hW hk
    have hW : W = st1 w (6, 0, 0) 0 (((s1last w 0 v.toNat (w (0, 8, 0) 5) (w (0, v.toNat, 3) 4).toNat : Nat) : Int)) := hW
    have hk : k = 0 := hk
    have hR : ∀ t v p j, t ≠ 6 → W (t, v, p) j = w (t, v, p) j := fun t v p j ht => by rw [hW]; exact k_6 ht
    have hm : isV W v := (isV_w h (hR 3 0 0 1 (by decide))).mpr c1
    rw [if_pos hm, if_pos hm, hk]
    have hvn : ((v.toNat : Nat) : Int) < w (0, 8, 0) 1 := by have := c1.1; have := c1.2; omega
    have hb : ((s1last w 0 v.toNat (w (0, 8, 0) 5) (w (0, v.toNat, 3) 4).toNat : Nat) : Int) = ((rlast (th0 W) 4 v (W (4, 0, 0) 2).toNat : Nat) : Int) := by
      have e := last_eq (h.t0 ((s1last w 0 v.toNat (w (0, 8, 0) 5) (w (0, v.toNat, 3) 4).toNat : Nat) : Int)).1 hvn
      rw [← hW, Int.toNat_of_nonneg c1.1, k_th0 (fun q => absurd q (by decide))] at e
      rw [e]
    rw [hW] at hb ⊢
    exact OK_th0 h hb
  · rw [if_neg c1] at hW hk
    have hW : W = w := hW
    have hk : k = 1 := hk
    have hR : ∀ t v p j, t ≠ 6 → W (t, v, p) j = w (t, v, p) j := fun t v p j _ => by rw [hW]
    have hm : ¬ (isV W v) := fun q => c1 ((isV_w h (hR 3 0 0 1 (by decide))).mp q)
    rw [if_neg hm, if_neg hm, hk, hW]
    exact OK_thn h (by decide)

theorem st_count {c : Int} {w W : Mm} {k a : Int} (h : GI c w) (hW : W = wr6 (if 0 ≤ a ∧ a ≤ 7 then none else eI) w w (s0fig w 0 a.toNat)) (hk : k = cd xI (if 0 ≤ a ∧ a ≤ 7 then none else eI)) :
    OKs c k (if 0 ≤ a ∧ a ≤ 7 then th0 W else thn W 1) (if 0 ≤ a ∧ a ≤ 7 then rcnt (th0 W) a.toNat else 0) := by
  by_cases c1 : 0 ≤ a ∧ a ≤ 7
  · rw [if_pos c1] at hW hk
    have hW : W = st1 w (6, 0, 0) 0 (s0fig w 0 a.toNat) := hW
    have hk : k = 0 := hk
    have hR : ∀ t v p j, t ≠ 6 → W (t, v, p) j = w (t, v, p) j := fun t v p j ht => by rw [hW]; exact k_6 ht
    have hm : 0 ≤ a ∧ a ≤ 7 := c1
    rw [if_pos hm, if_pos hm, hk]
    have hb : s0fig w 0 a.toNat = rcnt (th0 W) a.toNat := by
      have e := fig_eq h.1.1 (h.t0 (s0fig w 0 a.toNat)).2 (h.t0 (s0fig w 0 a.toNat)).1 (a := a.toNat)
      rw [← hW] at e
      exact e
    rw [hW] at hb ⊢
    exact OK_th0 h hb
  · rw [if_neg c1] at hW hk
    have hW : W = w := hW
    have hk : k = 1 := hk
    have hR : ∀ t v p j, t ≠ 6 → W (t, v, p) j = w (t, v, p) j := fun t v p j _ => by rw [hW]
    have hm : ¬ (0 ≤ a ∧ a ≤ 7) := fun q => c1 q
    rw [if_neg hm, if_neg hm, hk, hW]
    exact OK_thn h (by decide)

theorem st_way {c : Int} {w W : Mm} {k v u : Int} (h : GI c w) (hW : W = wr6 (if lV w v ∧ lV w u then none else eI) w w (wfd (lwm w v.toNat) u.toNat 8 0)) (hk : k = cd xI (if lV w v ∧ lV w u then none else eI)) :
    OKs c k (if isV W v ∧ isV W u then th0 W else thn W 1) (if isV W v ∧ isV W u then wfd (rwm (st1 W (3, 0, 0) 0 0) (W (3, 0, 0) 1).toNat v.toNat) u.toNat (W (3, 0, 0) 1).toNat 0 else 0) := by
  by_cases c1 : lV w v ∧ lV w u
  · rw [if_pos c1] at hW hk
    have hW : W = st1 w (6, 0, 0) 0 (wfd (lwm w v.toNat) u.toNat 8 0) := hW
    have hk : k = 0 := hk
    have hR : ∀ t v p j, t ≠ 6 → W (t, v, p) j = w (t, v, p) j := fun t v p j ht => by rw [hW]; exact k_6 ht
    have hm : isV W v ∧ isV W u := ⟨(isV_w h (hR 3 0 0 1 (by decide))).mpr c1.1, (isV_w h (hR 3 0 0 1 (by decide))).mpr c1.2⟩
    rw [if_pos hm, if_pos hm, hk]
    have hb : wfd (lwm w v.toNat) u.toNat 8 0 = wfd (rwm (st1 W (3, 0, 0) 0 0) (W (3, 0, 0) 1).toNat v.toNat) u.toNat (W (3, 0, 0) 1).toNat 0 := by
      have e := way_eq (v := v.toNat) (o := u.toNat) h.1.1.1.2 (h.t0 (wfd (lwm w v.toNat) u.toNat 8 0)).1 (by have := c1.1.1; have := c1.1.2; omega) (by have := c1.2.1; have := c1.2.2; omega)
      rw [← hW] at e
      exact e
    rw [hW] at hb ⊢
    exact OK_th0 h hb
  · rw [if_neg c1] at hW hk
    have hW : W = w := hW
    have hk : k = 1 := hk
    have hR : ∀ t v p j, t ≠ 6 → W (t, v, p) j = w (t, v, p) j := fun t v p j _ => by rw [hW]
    have hm : ¬ (isV W v ∧ isV W u) := fun q => c1 ⟨(isV_w h (hR 3 0 0 1 (by decide))).mp q.1, (isV_w h (hR 3 0 0 1 (by decide))).mp q.2⟩
    rw [if_neg hm, if_neg hm, hk, hW]
    exact OK_thn h (by decide)
