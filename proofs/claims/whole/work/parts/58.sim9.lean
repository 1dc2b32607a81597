/-! the tie: what the calls set -/
theorem VI_cg {wc wc' : Mm} {t v : Nat} (hv : (v : Int) < wc (t, 8, 0) 1) (hI : ∀ x : Nat, (x : Int) < wc (t, 8, 0) 1 → VI wc t x) (e1 : wc' (t, 8, 0) 1 = wc (t, 8, 0) 1) (e4 : wc (t, 8, 0) 4 ≤ wc' (t, 8, 0) 4) (e5 : wc' (t, 8, 0) 5 = wc (t, 8, 0) 5) (e2 : ∀ j : Nat, (j : Int) < wc (t, 8, 0) 4 → wc' (t, 8, 2) j = wc (t, 8, 2) j) (h67 : ∀ x : Nat, (x : Int) < wc (t, 8, 0) 1 → wc' (t, x, 0) 6 = wc (t, x, 0) 6 ∧ wc' (t, x, 0) 7 = wc (t, x, 0) 7) (hS : SLC wc' t v = SLC wc t v)
    (hq : ∀ j : Nat, (j : Int) < wc' (t, v, 0) 9 → 0 ≤ wc' (t, v, 1) j ∧ wc' (t, v, 1) j < wc' (t, 8, 0) 4) (hk : ∀ p : Nat, p < 12 → wc' (t, 8, 0) 4 ≤ (p : Int) → wc' (t, v, 2) p = -1) : VI wc' t v := by
  obtain ⟨j1, j2, j3, j4, j5⟩ := hI v hv
  have hBu : ∀ x : Nat, (x : Int) < wc (t, 8, 0) 1 → ∀ T, Bu wc' t x T = Bu wc t x T := fun x hx T => by
    unfold Bu
    rw [(h67 x hx).1, (h67 x hx).2, e5]
    rcases (hI x hx).1 with q | q
    · rw [if_pos q.1, if_pos q.1]
    · rw [e2 _ (by omega)]
  have hSB : ∀ T, SB wc' t v T = SB wc t v T := fun T => by
    unfold SB
    rw [e1]
    refine sumI_cg _ (fun x hx => ?_)
    by_cases e : x = v
    · rw [if_pos e, if_pos e]
    · rw [if_neg e, if_neg e, hBu x (by omega)]
  refine ⟨?_, hq, fun s hs => ?_, hk, fun T hT => ?_⟩
  · rw [(h67 v hv).1, (h67 v hv).2]
    rcases j1 with q | q
    · exact Or.inl q
    · rw [e2 _ (by omega)]
      exact Or.inr ⟨⟨q.1.1, by omega⟩, q.2⟩
  · rw [hS] at hs
    obtain ⟨a1, a2, a3⟩ := j3 s hs
    exact ⟨⟨a1.1, by omega⟩, by rw [e5]; exact a2, a3⟩
  · rw [e5] at hT
    rw [hS, hSB]
    exact j5 T hT
/-- a drum, a cliff, an hour that is set -/
theorem upd_TT {wc wc' wr wr' : Mm} {t u : Nat} (hV : wc (t, 8, 0) 1 ≤ 8) (hT : TT wc wr t u) (hC : ∀ x p j, ¬ (p = 0 ∧ (j = 2 ∨ j = 3 ∨ j = 4 ∨ j = 5) ∧ x < 8) → wc' (t, x, p) j = wc (t, x, p) j) (hR : ∀ p j, p ≠ 1 → wr' (u, 0, p) j = wr (u, 0, p) j) (h3 : ∀ p j, p ≠ 3 → p ≠ 4 → p ≠ 5 → (p = 0 → j ≠ 0) → wr' (3, 0, p) j = wr (3, 0, p) j)
    (hx : ∀ x : Nat, (x : Int) < wc (t, 8, 0) 1 → wc' (t, x, 0) 2 = wr' (u, 0, 1) x ∧ wc' (t, x, 0) 3 = wr' (3, 0, 3) x ∧ wc' (t, x, 0) 4 = wr' (3, 0, 4) x ∧ wc' (t, x, 0) 5 = wr' (3, 0, 5) x) : TT wc' wr' t u := by
  obtain ⟨⟨s1, s2, s3, s4⟩, ⟨d1, d2, d3, d4⟩, hI⟩ := hT
  have c8 : ∀ p j, wc' (t, 8, p) j = wc (t, 8, p) j := fun p j => hC 8 p j (fun q => absurd q.2.2 (by decide))
  have c0 : ∀ x j, j ≠ 2 → j ≠ 3 → j ≠ 4 → j ≠ 5 → wc' (t, x, 0) j = wc (t, x, 0) j := fun x j a b c d => hC x 0 j (fun q => by omega)
  have cp : ∀ x p j, p ≠ 0 → wc' (t, x, p) j = wc (t, x, p) j := fun x p j a => hC x p j (fun q => a q.1)
  have eS : ∀ x, SLC wc' t x = SLC wc t x := fun x => SLC_cg (cp x 3 4 (by decide)) (fun j _ => by unfold sdC; rw [cp x 4 j (by decide), cp x 5 j (by decide), cp x 6 j (by decide), cp x 7 j (by decide)])
  refine ⟨⟨by rw [c8, h3 0 1 (by decide) (by decide) (by decide) (by decide)]; exact s1, by rw [c8, h3 0 2 (by decide) (by decide) (by decide) (by decide)]; exact s2, fun p hp => ?_, fun v hv => ?_⟩, ⟨by rw [c8, hR 0 0 (by decide)]; exact d1, by rw [c8, hR 0 1 (by decide)]; exact d2, fun j hj => ?_, fun v hv => ?_⟩, fun v hv => ?_⟩
  · rw [c8] at hp
    rw [c8, h3 7 p (by decide) (by decide) (by decide) (fun q => absurd q (by decide))]
    exact s3 p hp
  · rw [c8] at hv
    obtain ⟨x2, x3, x4, x5⟩ := hx v hv
    refine ⟨?_, ?_, x3, x4, x5⟩
    · rw [c0 v 0 (by decide) (by decide) (by decide) (by decide), h3 1 v (by decide) (by decide) (by decide) (fun q => absurd q (by decide))]
      exact (s4 v hv).1
    · rw [c0 v 1 (by decide) (by decide) (by decide) (by decide), h3 2 v (by decide) (by decide) (by decide) (fun q => absurd q (by decide))]
      exact (s4 v hv).2.1
  · rw [hR 0 2 (by decide)] at hj
    rw [c8, hR 8 j (by decide)]
    exact d3 j hj
  · rw [c8] at hv
    obtain ⟨y1, y2, y3, y4, y5⟩ := d4 v hv
    refine ⟨(hx v hv).1, ?_, ?_, ?_, ?_⟩
    · rw [c0 v 6 (by decide) (by decide) (by decide) (by decide), hR 2 v (by decide)]; exact y2
    · rw [c0 v 7 (by decide) (by decide) (by decide) (by decide), hR 3 v (by decide)]; exact y3
    · rw [DC_cg (x := wc) (t := t) (c0 v 9 (by decide) (by decide) (by decide) (by decide)) (fun j _ => cp v 1 j (by decide)) (fun j _ => cp v 2 j (by decide)) (c0 v 12 (by decide) (by decide) (by decide) (by decide)), DR_cg (x := wr) (u := u) (hR 4 v (by decide)) (fun j _ => hR 5 _ (by decide)) (fun j _ => hR 6 _ (by decide)) (hR 7 v (by decide))]
      exact y4
    · rw [eS, y5]
      unfold SLR
      rw [hR 0 2 (by decide)]
      exact (slR_cg _ (fun j _ => hR 8 j (by decide)) (fun j _ _ => by unfold sdR; rw [hR 9 j (by decide), hR 10 j (by decide), hR 11 j (by decide), hR 12 j (by decide)])).symm
  · rw [c8] at hv
    obtain ⟨j1, j2, j3, j4, j5⟩ := hI v hv
    refine VI_cg hv hI (c8 _ _) (by rw [c8]; exact Int.le_refl _) (c8 _ _) (fun j _ => c8 _ _) (fun x _ => ⟨c0 x 6 (by decide) (by decide) (by decide) (by decide), c0 x 7 (by decide) (by decide) (by decide) (by decide)⟩) (eS v) (fun j hj => ?_) (fun p hp1 hp2 => ?_)
    · rw [c0 v 9 (by decide) (by decide) (by decide) (by decide)] at hj
      rw [cp v 1 j (by decide), c8]
      exact j2 j hj
    · rw [c8] at hp2
      rw [cp v 2 p (by decide)]
      exact j4 p hp1 hp2
theorem DC_take {m : Mm} {t v x p : Nat} {b : Int} (hp : p < 12) (hq0 : 0 ≤ m (t, v, 0) 9) (hq : m (t, v, 0) 9 < 5) : DC (s2take m t v (p : Int) b) t x = if x = v then (m (t, v, 0) 9 + 1, up (tr 5 (fun j => m (t, v, 1) j)) (m (t, v, 0) 9).toNat (p : Int), (if m (t, v, 2) p = -1 then up (tr 12 (fun p => m (t, v, 2) p)) p b else tr 12 (fun p => m (t, v, 2) p)), m (t, v, 0) 12) else DC m t x := by
  have e0 : ((p : Nat) : Int).toNat = p := Int.toNat_natCast p
  unfold s2take
  rw [if_neg (by omega), e0]
  by_cases e : x = v
  · subst e
    rw [if_pos rfl]
    by_cases c : m (t, x, 2) p = -1
    · rw [if_pos c, if_pos hq, if_pos c]
      refine Dt_ext (by simp [st1]) (tr_up (by omega) (fun j hj => by simp [st1])) (tr_up hp (fun j hj => by by_cases e2 : j = p <;> simp [st1, e2])) (by simp [st1])
    · rw [if_neg c, if_pos hq, if_neg c]
      refine Dt_ext (by simp [st1]) (tr_up (by omega) (fun j hj => by simp [st1])) (tr_cg (fun j hj => by simp [st1])) (by simp [st1])
  · rw [if_neg e]
    have h : ∀ p' j, (s2take m t v (p : Int) b) (t, x, p') j = m (t, x, p') j := fun p' j => s2take_loc _ j (fun q => e q.2)
    unfold s2take at h
    rw [if_neg (by omega), e0] at h
    exact DC_cg (h _ _) (fun j _ => h _ _) (fun j _ => h _ _) (h _ _)
theorem DR_take {m : Mm} {u v x p : Nat} {b : Int} (hb : m (u, 0, 0) 0 = b) (hp : p < 12) (hq0 : 0 ≤ m (u, 0, 4) v) (hq : m (u, 0, 4) v < 5) : DR (rput (rlrn m u (v : Int) (p : Int)) u (v : Int) (p : Int)) u x = if x = v then (m (u, 0, 4) v + 1, up (tr 5 (fun j => m (u, 0, 5) (5 * v + j))) (m (u, 0, 4) v).toNat (p : Int), (if m (u, 0, 6) (12 * v + p) = -1 then up (tr 12 (fun p => m (u, 0, 6) (12 * v + p))) p b else tr 12 (fun p => m (u, 0, 6) (12 * v + p))), m (u, 0, 7) v) else DR m u x := by
  have e1 : (12 * (v : Int) + (p : Int)).toNat = 12 * v + p := by omega
  have e4 : rlrn m u (v : Int) (p : Int) (u, 0, 4) v = m (u, 0, 4) v := rlrn_off (by simp)
  unfold rput
  rw [Int.toNat_natCast, e4, show (5 * (v : Int) + m (u, 0, 4) v).toNat = 5 * v + (m (u, 0, 4) v).toNat by omega, DR_put (by omega)]
  unfold rlrn
  rw [e1, hb]
  by_cases c : m (u, 0, 6) (12 * v + p) = -1
  · rw [if_pos c]
    by_cases e : x = v
    · subst e
      rw [if_pos rfl, if_pos rfl, if_pos c]
      refine Dt_ext rfl (up_cg (tr_cg (fun j hj => by simp [st1])) rfl) (tr_up hp (fun j hj => ?_)) (by simp [st1])
      by_cases e3 : j = p
      · simp [st1, e3]
      · have : ¬ 12 * x + j = 12 * x + p := by omega
        simp [st1, e3]
    · rw [if_neg e, if_neg e, DR_learn hp, if_neg e]
  · rw [if_neg c]
    by_cases e : x = v
    · subst e
      rw [if_pos rfl, if_pos rfl, if_neg c]
    · rw [if_neg e, if_neg e]
/-- a phrase that is told -/
theorem tell_sim {wc wr : Mm} {t u v p : Nat} {N D : Int} {X : Nat → Int} (hu : u ≠ 3) (hL : LI wc t N D X) (hT : TT wc wr t u) (hv : (v : Int) < wc (t, 8, 0) 1) (hp : (p : Int) < wc (t, 8, 0) 4) (hq : wc (t, v, 0) 9 < 5) : TT (s2take wc t v (p : Int) (wc (t, 8, 0) 5)) (rput (rlrn wr u (v : Int) (p : Int)) u (v : Int) (p : Int)) t u ∧ s2take wc t v (p : Int) (wc (t, 8, 0) 5) (t, v, 0) 9 = wc (t, v, 0) 9 + 1 := by
  have hV := hL.1
  have hP := hL.2.1
  have hb := hL.v (v := v) (by omega)
  have hq0 := hb.2.2.2.2.2.2.2.1.1
  obtain ⟨⟨s1, s2, s3, s4⟩, ⟨d1, d2, d3, d4⟩, hI⟩ := hT
  obtain ⟨r1, r2, r3, r4, r5⟩ := d4 v hv
  have hqr : wc (t, v, 0) 9 = wr (u, 0, 4) v := congrArg Prod.fst r4
  have hDC := fun x => DC_take (m := wc) (t := t) (v := v) (x := x) (p := p) (b := wc (t, 8, 0) 5) (by omega) hq0 hq
  have hDR := fun x => DR_take (m := wr) (u := u) (v := v) (x := x) (p := p) d1.symm (by omega) (by omega) (by omega)
  have h9 : s2take wc t v (p : Int) (wc (t, 8, 0) 5) (t, v, 0) 9 = wc (t, v, 0) 9 + 1 := by
    have := congrArg Prod.fst (hDC v)
    rw [if_pos rfl] at this
    exact this
  have c0 : ∀ x j, j ≠ 9 → s2take wc t v (p : Int) (wc (t, 8, 0) 5) (t, x, 0) j = wc (t, x, 0) j := fun x j hj => s2take_off (fun q => hj q.2) (by simp) (by simp)
  have cp : ∀ x q j, q ≠ 0 → q ≠ 1 → q ≠ 2 → s2take wc t v (p : Int) (wc (t, 8, 0) 5) (t, x, q) j = wc (t, x, q) j := fun x q j a b c => s2take_off (by simp [a]) (by simp [b]) (by simp [c])
  have c8 : ∀ q j, s2take wc t v (p : Int) (wc (t, 8, 0) 5) (t, 8, q) j = wc (t, 8, q) j := fun q j => s2take_loc _ j (fun z => absurd (show 8 = v from z.2) (by omega))
  have cv : ∀ x q j, x ≠ v → s2take wc t v (p : Int) (wc (t, 8, 0) 5) (t, x, q) j = wc (t, x, q) j := fun x q j hx => s2take_loc _ j (fun z => hx z.2)
  have k0 : ∀ q j, q ≠ 4 → q ≠ 5 → q ≠ 6 → rput (rlrn wr u (v : Int) (p : Int)) u (v : Int) (p : Int) (u, 0, q) j = wr (u, 0, q) j := fun q j a b c => (rput_off (by simp [a]) (by simp [b])).trans (rlrn_off (by simp [c]))
  have k3 : ∀ q j, rput (rlrn wr u (v : Int) (p : Int)) u (v : Int) (p : Int) (3, 0, q) j = wr (3, 0, q) j := fun q j => (rput_off (by simp; intro h; exact absurd h.symm hu) (by simp; intro h; exact absurd h.symm hu)).trans (rlrn_off (by simp; intro h; exact absurd h.symm hu))
  have eS : ∀ x, SLC (s2take wc t v (p : Int) (wc (t, 8, 0) 5)) t x = SLC wc t x := fun x => SLC_cg (cp x 3 4 (by decide) (by decide) (by decide)) (fun j _ => by unfold sdC; rw [cp x 4 j (by decide) (by decide) (by decide), cp x 5 j (by decide) (by decide) (by decide), cp x 6 j (by decide) (by decide) (by decide), cp x 7 j (by decide) (by decide) (by decide)])
  refine ⟨⟨⟨by rw [c8, k3]; exact s1, by rw [c8, k3]; exact s2, fun p' hp' => ?_, fun x hx => ?_⟩, ⟨by rw [c8, k0 0 0 (by decide) (by decide) (by decide)]; exact d1, by rw [c8, k0 0 1 (by decide) (by decide) (by decide)]; exact d2, fun j hj => ?_, fun x hx => ?_⟩, fun x hx => ?_⟩, h9⟩
  · rw [c8] at hp'
    rw [c8, k3]
    exact s3 p' hp'
  · rw [c8] at hx
    rw [c0 x 0 (by decide), c0 x 1 (by decide), c0 x 3 (by decide), c0 x 4 (by decide), c0 x 5 (by decide), k3, k3, k3, k3, k3]
    exact s4 x hx
  · rw [k0 0 2 (by decide) (by decide) (by decide)] at hj
    rw [c8, k0 8 j (by decide) (by decide) (by decide)]
    exact d3 j hj
  · rw [c8] at hx
    obtain ⟨y1, y2, y3, y4, y5⟩ := d4 x hx
    refine ⟨by rw [c0 x 2 (by decide), k0 1 x (by decide) (by decide) (by decide)]; exact y1, by rw [c0 x 6 (by decide), k0 2 x (by decide) (by decide) (by decide)]; exact y2, by rw [c0 x 7 (by decide), k0 3 x (by decide) (by decide) (by decide)]; exact y3, ?_, ?_⟩
    · rw [hDC x, hDR x]
      by_cases e : x = v
      · subst e
        rw [if_pos rfl, if_pos rfl]
        have hK : wc (t, x, 2) p = wr (u, 0, 6) (12 * x + p) := tr_at (n := 12) (f := fun p => wc (t, x, 2) p) (f' := fun p => wr (u, 0, 6) (12 * x + p)) (congrArg (fun e : Dt => e.2.2.1) r4) (by omega)
        have hKf : tr 12 (fun p => wc (t, x, 2) p) = tr 12 (fun p => wr (u, 0, 6) (12 * x + p)) := congrArg (fun e : Dt => e.2.2.1) r4
        have hQf : tr 5 (fun p => wc (t, x, 1) p) = tr 5 (fun j => wr (u, 0, 5) (5 * x + j)) := congrArg (fun e : Dt => e.2.1) r4
        have hdr : wc (t, x, 0) 12 = wr (u, 0, 7) x := congrArg (fun e : Dt => e.2.2.2) r4
        rw [hK, hKf, hQf, hqr, hdr]
      · rw [if_neg e, if_neg e]
        exact y4
    · rw [eS, y5]
      unfold SLR
      rw [k0 0 2 (by decide) (by decide) (by decide)]
      exact (slR_cg _ (fun j _ => k0 8 j (by decide) (by decide) (by decide)) (fun j _ _ => by unfold sdR; rw [k0 9 j (by decide) (by decide) (by decide), k0 10 j (by decide) (by decide) (by decide), k0 11 j (by decide) (by decide) (by decide), k0 12 j (by decide) (by decide) (by decide)])).symm
  · rw [c8] at hx
    obtain ⟨j1, j2, j3, j4, j5⟩ := hI x hx
    refine VI_cg hx hI (c8 _ _) (by rw [c8]; exact Int.le_refl _) (c8 _ _) (fun j _ => c8 _ _) (fun y _ => ⟨c0 y 6 (by decide), c0 y 7 (by decide)⟩) (eS x) (fun j hj => ?_) (fun p' hp1 hp2 => ?_)
    · rw [c8]
      by_cases e : x = v
      · subst e
        rw [h9] at hj
        have hj5 : j < 5 := by omega
        have hQj : s2take wc t x (p : Int) (wc (t, 8, 0) 5) (t, x, 1) j = up (tr 5 (fun j => wc (t, x, 1) j)) (wc (t, x, 0) 9).toNat (p : Int) j := by
          have l1 : (DC (s2take wc t x (p : Int) (wc (t, 8, 0) 5)) t x).2.1 j = s2take wc t x (p : Int) (wc (t, 8, 0) 5) (t, x, 1) j := if_pos hj5
          rw [← l1, hDC x, if_pos rfl]
        rw [hQj]
        show 0 ≤ up _ _ _ j ∧ up _ _ _ j < _
        unfold up
        by_cases c : j = (wc (t, x, 0) 9).toNat
        · rw [if_pos c]
          omega
        · rw [if_neg c]
          unfold tr
          rw [if_pos hj5]
          exact j2 j (by omega)
      · rw [cv x 0 9 e] at hj
        rw [cv x 1 j e]
        exact j2 j hj
    · rw [c8] at hp2
      by_cases e : x = v
      · subst e
        have hKj : s2take wc t x (p : Int) (wc (t, 8, 0) 5) (t, x, 2) p' = (if wc (t, x, 2) p = -1 then up (tr 12 (fun p => wc (t, x, 2) p)) p (wc (t, 8, 0) 5) else tr 12 (fun p => wc (t, x, 2) p)) p' := by
          have l1 : (DC (s2take wc t x (p : Int) (wc (t, 8, 0) 5)) t x).2.2.1 p' = s2take wc t x (p : Int) (wc (t, 8, 0) 5) (t, x, 2) p' := if_pos hp1
          rw [← l1, hDC x, if_pos rfl]
        rw [hKj]
        have h4 := j4 p' hp1 hp2
        show (if wc (t, x, 2) p = -1 then up (tr 12 (fun p => wc (t, x, 2) p)) p (wc (t, 8, 0) 5) else tr 12 (fun p => wc (t, x, 2) p)) p' = -1
        by_cases c : wc (t, x, 2) p = -1
        · rw [if_pos c]
          unfold up tr
          rw [if_neg (by omega), if_pos hp1]
          exact h4
        · rw [if_neg c]
          unfold tr
          rw [if_pos hp1]
          exact h4
      · rw [cv x 2 p' e]
        exact j4 p' hp1 hp2
/-- a new phrase -/
theorem phrase_sim {wc wr : Mm} {n c : Int} {k : Nat} (hV : wc (0, 8, 0) 1 ≤ 8) (hP0 : 0 ≤ wc (0, 8, 0) 4) (hP : wc (0, 8, 0) 4 < 12) (hc : c = (k : Int)) (hT : TT wc wr 0 4) : TT (s0addP wc 0 n c) (rphr wr n k) 0 4 := by
  obtain ⟨⟨s1, s2, s3, s4⟩, ⟨d1, d2, d3, d4⟩, hI⟩ := hT
  have eA : s0addP wc 0 n c = st1 (st1 (st1 wc (0, 8, 1) (wc (0, 8, 0) 4).toNat n) (0, 8, 2) (wc (0, 8, 0) 4).toNat c) (0, 8, 0) 4 (wc (0, 8, 0) 4 + 1) := by
    unfold s0addP
    rw [if_pos hP]
  rw [eA]
  have cv : ∀ x q j, x ≠ 8 → st1 (st1 (st1 wc (0, 8, 1) (wc (0, 8, 0) 4).toNat n) (0, 8, 2) (wc (0, 8, 0) 4).toNat c) (0, 8, 0) 4 (wc (0, 8, 0) 4 + 1) (0, x, q) j = wc (0, x, q) j := fun x q j hx => by simp [st1, hx]
  have c0 : ∀ j, j ≠ 4 → st1 (st1 (st1 wc (0, 8, 1) (wc (0, 8, 0) 4).toNat n) (0, 8, 2) (wc (0, 8, 0) 4).toNat c) (0, 8, 0) 4 (wc (0, 8, 0) 4 + 1) (0, 8, 0) j = wc (0, 8, 0) j := fun j hj => by simp [st1, hj]
  have c4 : st1 (st1 (st1 wc (0, 8, 1) (wc (0, 8, 0) 4).toNat n) (0, 8, 2) (wc (0, 8, 0) 4).toNat c) (0, 8, 0) 4 (wc (0, 8, 0) 4 + 1) (0, 8, 0) 4 = wc (0, 8, 0) 4 + 1 := st1_eq _ _ _ _
  have c2 : ∀ j, j ≠ (wc (0, 8, 0) 4).toNat → st1 (st1 (st1 wc (0, 8, 1) (wc (0, 8, 0) 4).toNat n) (0, 8, 2) (wc (0, 8, 0) 4).toNat c) (0, 8, 0) 4 (wc (0, 8, 0) 4 + 1) (0, 8, 2) j = wc (0, 8, 2) j := fun j hj => by simp [st1, hj]
  have c2e : st1 (st1 (st1 wc (0, 8, 1) (wc (0, 8, 0) 4).toNat n) (0, 8, 2) (wc (0, 8, 0) 4).toNat c) (0, 8, 0) 4 (wc (0, 8, 0) 4 + 1) (0, 8, 2) (wc (0, 8, 0) 4).toNat = c := by simp [st1]
  have k0 : ∀ q j, rphr wr n k (4, 0, q) j = wr (4, 0, q) j := fun q j => by simp [rphr, th0, st1]
  have k3 : ∀ q j, q ≠ 0 → q ≠ 6 → q ≠ 7 → rphr wr n k (3, 0, q) j = wr (3, 0, q) j := fun q j a b c => by simp [rphr, th0, st1, a, b, c]
  have k31 : rphr wr n k (3, 0, 0) 1 = wr (3, 0, 0) 1 := by simp [rphr, th0, st1]
  have k32 : rphr wr n k (3, 0, 0) 2 = wr (3, 0, 0) 2 + 1 := by simp [rphr, th0, st1]
  have k7 : ∀ j, j ≠ (wr (3, 0, 0) 2).toNat → rphr wr n k (3, 0, 7) j = wr (3, 0, 7) j := fun j hj => by simp [rphr, th0, st1, hj]
  have k7e : rphr wr n k (3, 0, 7) (wr (3, 0, 0) 2).toNat = (k : Int) := by simp [rphr, th0, st1]
  have eS : ∀ x : Nat, x < 8 → SLC (st1 (st1 (st1 wc (0, 8, 1) (wc (0, 8, 0) 4).toNat n) (0, 8, 2) (wc (0, 8, 0) 4).toNat c) (0, 8, 0) 4 (wc (0, 8, 0) 4 + 1)) 0 x = SLC wc 0 x := fun x hx => SLC_cg (cv x 3 4 (by omega)) (fun j _ => by unfold sdC; rw [cv x 4 j (by omega), cv x 5 j (by omega), cv x 6 j (by omega), cv x 7 j (by omega)])
  refine ⟨⟨by rw [c0 1 (by decide), k31]; exact s1, by rw [c4, k32, s2], fun p hp => ?_, fun x hx => ?_⟩, ⟨by rw [c0 5 (by decide), k0]; exact d1, by rw [c0 6 (by decide), k0]; exact d2, fun j hj => ?_, fun x hx => ?_⟩, fun x hx => ?_⟩
  · rw [c4] at hp
    by_cases e : p = (wc (0, 8, 0) 4).toNat
    · subst e
      rw [c2e, s2, k7e, hc]
    · rw [c2 p e, k7 p (by rw [← s2]; exact e)]
      exact s3 p (by omega)
  · rw [c0 1 (by decide)] at hx
    rw [cv x 0 0 (by omega), cv x 0 1 (by omega), cv x 0 3 (by omega), cv x 0 4 (by omega), cv x 0 5 (by omega), k3 1 x (by decide) (by decide) (by decide), k3 2 x (by decide) (by decide) (by decide), k3 3 x (by decide) (by decide) (by decide), k3 4 x (by decide) (by decide) (by decide), k3 5 x (by decide) (by decide) (by decide)]
    exact s4 x hx
  · rw [k0] at hj
    rw [c0 1 (by decide), k0]
    exact d3 j hj
  · rw [c0 1 (by decide)] at hx
    obtain ⟨y1, y2, y3, y4, y5⟩ := d4 x hx
    refine ⟨by rw [cv x 0 2 (by omega), k0]; exact y1, by rw [cv x 0 6 (by omega), k0]; exact y2, by rw [cv x 0 7 (by omega), k0]; exact y3, ?_, ?_⟩
    · rw [DC_cg (x := wc) (t := 0) (cv x 0 9 (by omega)) (fun j _ => cv x 1 j (by omega)) (fun j _ => cv x 2 j (by omega)) (cv x 0 12 (by omega)), DR_cg (x := wr) (u := 4) (k0 4 x) (fun j _ => k0 5 _) (fun j _ => k0 6 _) (k0 7 x)]
      exact y4
    · rw [eS x (by omega), y5]
      unfold SLR
      rw [k0]
      exact (slR_cg _ (fun j _ => k0 8 j) (fun j _ _ => by unfold sdR; rw [k0, k0, k0, k0])).symm
  · rw [c0 1 (by decide)] at hx
    obtain ⟨j1, j2, j3, j4, j5⟩ := hI x hx
    refine VI_cg hx hI (c0 1 (by decide)) (by rw [c4]; omega) (c0 5 (by decide)) (fun j hj => c2 j (by omega)) (fun y hy => ⟨cv y 0 6 (by omega), cv y 0 7 (by omega)⟩) (eS x (by omega)) (fun j hj => ?_) (fun p hp1 hp2 => ?_)
    · rw [cv x 0 9 (by omega)] at hj
      rw [cv x 1 j (by omega), c4]
      have := j2 j hj
      omega
    · rw [c4] at hp2
      rw [cv x 2 p (by omega)]
      exact j4 p hp1 (by omega)
