/-! the tie: beats that go by -/
theorem st1_id {w : Mm} {k : Ky} {j : Nat} {x : Int} (h : w k j = x) : st1 w k j x = w := by
  funext k' j'
  unfold st1
  split
  · rename_i q
    rw [q.1, q.2, h]
  · rfl
theorem st1_2 {w : Mm} {k : Ky} {j : Nat} {x y : Int} : st1 (st1 w k j x) k j y = st1 w k j y := by
  funext k' j'
  unfold st1
  split <;> rfl
theorem quiet_beat {w : Mm} {t : Nat} {N D : Int} {X : Nat → Int} (hL : LI w t N D X) (hq : s0quiet w t) : s0beat w t = st1 w (t, 8, 0) 5 (w (t, 8, 0) 5 + 1) ∧ (s0w3 w t).2 = 0 := by
  have hV := hL.1
  have h1 : ∀ n, n ≤ (w (t, 8, 0) 1).toNat → s0b1 w t n = w := by
    intro n
    induction n with
    | zero => intro _; rfl
    | succ n ih =>
      intro hn
      unfold s0b1
      rw [ih (by omega), if_neg (fun q => by have := (hq n (by omega)).2.1; have := q.2.1; omega)]
  have h2 : ∀ n, n ≤ (w (t, 8, 0) 1).toNat → s0b2 w t n = w := by
    intro n
    induction n with
    | zero => intro _; rfl
    | succ n ih =>
      intro hn
      show s2dr (s0b2 w t n) t n _ = w
      rw [ih (by omega)]
      unfold s2dr
      rw [show (w (t, n, 3) 4).toNat = 0 by have := (hq n (by omega)).2.2; omega]
      split <;> rfl
  have h3 : ∀ n, n ≤ (w (t, 8, 0) 1).toNat → s0b3 w t n = (w, 0) := by
    intro n
    induction n with
    | zero => intro _; rfl
    | succ n ih =>
      intro hn
      show (s2end (s0b3 w t n).1 t n _, (s0b3 w t n).2 + _) = _
      rw [ih (by omega)]
      have h4 := (hq n (by omega)).2.2
      have h5 := (hL.v (v := n) (by omega)).2.2.2.2.2.2.2.2.2
      have e : s2end w t n (w (t, 8, 0) 5) = w := by
        unfold s2end
        rw [show (w (t, n, 3) 4).toNat = 0 by omega]
        exact st1_id (by show w (t, n, 3) 4 = ((0 : Nat) : Int); omega)
      show (s2end w t n (w (t, 8, 0) 5), (0 : Int) + (((s2endL w t n (w (t, 8, 0) 5) (w (t, n, 3) 4).toNat).2.1 : Nat) : Int)) = _
      rw [e, show (w (t, n, 3) 4).toNat = 0 by omega]
      rfl
  have h4 : ∀ n, n ≤ (w (t, 8, 0) 1).toNat → s0b4 w t n = w := by
    intro n
    induction n with
    | zero => intro _; rfl
    | succ n ih =>
      intro hn
      show s2edb (s0b4 w t n) t n = w
      rw [ih (by omega)]
      unfold s2edb
      rw [if_pos (hq n (by omega)).1]
  have e1 : s0w1 w t = w := h1 _ (Nat.le_refl _)
  have e2 : s0w2 w t = w := by unfold s0w2; rw [e1]; exact h2 _ (Nat.le_refl _)
  have e3 : s0w3 w t = (w, 0) := by unfold s0w3; rw [e2]; exact h3 _ (Nat.le_refl _)
  have e4 : s0w4 w t = w := by unfold s0w4; rw [e3]; exact h4 _ (Nat.le_refl _)
  exact ⟨by unfold s0beat; rw [e4], by rw [e3]⟩
theorem quiet_st {w : Mm} {t : Nat} {x : Int} (hV : w (t, 8, 0) 1 ≤ 8) (hq : s0quiet w t) : s0quiet (st1 w (t, 8, 0) 5 x) t := by
  intro i hi
  rw [st1_j (by decide)] at hi
  rw [st1_k (by simp; omega), st1_k (by simp; omega), st1_k (by simp)]
  exact hq i hi
theorem go_cons {w : Mm} {t n : Nat} {N D : Int} {X : Nat → Int} (hL : LI w t N D X) : s0go t (n + 1) w = ((s0go t n (s0beat w t)).1, (s0w3 w t).2 + (s0go t n (s0beat w t)).2) := by
  by_cases c : s0quiet w t
  · obtain ⟨e1, e2⟩ := quiet_beat hL c
    rw [e1, e2]
    have hl : s0go t (n + 1) w = (st1 w (t, 8, 0) 5 (w (t, 8, 0) 5 + ((n + 1 : Nat) : Int)), 0) := by
      show (if s0quiet w t then _ else _) = _
      rw [if_pos c]
    rw [hl]
    cases n with
    | zero => rfl
    | succ n =>
      have hr : s0go t (n + 1) (st1 w (t, 8, 0) 5 (w (t, 8, 0) 5 + 1)) = (st1 (st1 w (t, 8, 0) 5 (w (t, 8, 0) 5 + 1)) (t, 8, 0) 5 (st1 w (t, 8, 0) 5 (w (t, 8, 0) 5 + 1) (t, 8, 0) 5 + ((n + 1 : Nat) : Int)), 0) := by
        show (if s0quiet _ t then _ else _) = _
        rw [if_pos (quiet_st hL.1.2 c)]
      rw [hr, st1_2, st1_eq]
      rw [show w (t, 8, 0) 5 + ((n + 1 + 1 : Nat) : Int) = w (t, 8, 0) 5 + 1 + ((n + 1 : Nat) : Int) by omega]
      rfl
  · show (if s0quiet w t then _ else _) = _
    rw [if_neg c]
theorem rgo_cons {u : Nat} : ∀ (n : Nat) {w : Mm}, rgo w u (n + 1) = rgo (rbeat w u) u n
  | 0, _ => rfl
  | n + 1, w => by
    show rbeat (rgo w u (n + 1)) u = rbeat (rgo (rbeat w u) u n) u
    rw [rgo_cons n]
theorem rgl_cons {u : Nat} : ∀ (n : Nat) {w : Mm}, rgl w u (n + 1) = (rv3 w u).2.1 + rgl (rbeat w u) u n
  | 0, w => by
    show 0 + (rv3 w u).2.1 = (rv3 w u).2.1 + 0
    omega
  | n + 1, w => by
    show rgl w u (n + 1) + (rv3 (rgo w u (n + 1)) u).2.1 = (rv3 w u).2.1 + (rgl (rbeat w u) u n + (rv3 (rgo (rbeat w u) u n) u).2.1)
    rw [rgl_cons n, rgo_cons n]
    omega
theorem rgo_add {u : Nat} : ∀ (m n : Nat) {w : Mm}, rgo w u (n + m) = rgo (rgo w u n) u m
  | 0, _, _ => rfl
  | m + 1, n, w => by
    show rbeat (rgo w u (n + m)) u = rbeat (rgo (rgo w u n) u m) u
    rw [rgo_add m n]
/-- all that is held of a land and a state that go together -/
def TT (wc wr : Mm) (t u : Nat) : Prop := RS wc wr t ∧ RD wc wr t u ∧ ∀ v : Nat, (v : Int) < wc (t, 8, 0) 1 → VI wc t v
theorem TT.V {wc wr : Mm} {t u : Nat} (h : TT wc wr t u) : wc (t, 8, 0) 1 = wr (3, 0, 0) 1 := h.1.1
theorem go_sim {t u : Nat} (hu : u ≠ 3) : ∀ (n : Nat) {wc wr : Mm} {N D N' D' X' : Int} {X : Nat → Int}, LI wc t N D X → SI wr u N' D' X' → MI wr → TT wc wr t u → TT (s0go t n wc).1 (rgo wr u n) t u ∧ (s0go t n wc).2 = ((rgl wr u n : Nat) : Int) ∧ ∀ i, i ≤ n → rgo wr u i (u, 0, 0) 2 ≤ 896
  | 0, wc, wr, N, D, N', D', X', X, hL, hR, hM, hT => ⟨hT, rfl, fun i hi => by
      rw [show i = 0 by omega]
      exact size_896 hR.2.2.1.1 hL.1.1 hL.1.2 hT.2.1 hT.2.2⟩
  | n + 1, wc, wr, N, D, N', D', X', X, hL, hR, hM, hT => by
    have h896 := size_896 hR.2.2.1.1 hL.1.1 hL.1.2 hT.2.1 hT.2.2
    obtain ⟨b1, b2, b3, b4⟩ := beat_sim hu hL hR hM hT.1 hT.2.1 hT.2.2
    have hR2 := (SI_beat (fun q => hu q.symm) hR hM h896).2.2.2.2.2
    have hsl := rbeat_sl (fun q => hu q.symm) hR hM h896
    have eV : s0beat wc t (t, 8, 0) 1 = wc (t, 8, 0) 1 := b1.1.trans ((hsl _ _ (fun q => hu q.symm)).trans hT.V.symm)
    obtain ⟨i1, i2, i3⟩ := go_sim hu n (LI_beat hL).1 hR2 (hM.sl hsl (fun q => hu q.symm)) ⟨b1, b2, by rw [eV]; exact b3⟩
    rw [go_cons hL, rgo_cons n, rgl_cons n]
    refine ⟨i1, ?_, fun i hi => ?_⟩
    · show (s0w3 wc t).2 + (s0go t n (s0beat wc t)).2 = _
      rw [i2, b4, Int.natCast_add]
    · cases i with
      | zero => exact h896
      | succ i =>
        rw [rgo_cons i]
        exact i3 i (by omega)
/-! what does not reach them -/
def CS (wc wc' : Mm) (t t' : Nat) : Prop :=
  (∀ j, j = 1 ∨ j = 4 ∨ j = 5 ∨ j = 6 → wc' (t', 8, 0) j = wc (t, 8, 0) j) ∧ (∀ j, j < 12 → wc' (t', 8, 2) j = wc (t, 8, 2) j) ∧
  ∀ v : Nat, (v : Int) < wc (t, 8, 0) 1 → (∀ j, j < 13 → j ≠ 8 → j ≠ 10 → j ≠ 11 → wc' (t', v, 0) j = wc (t, v, 0) j) ∧ (∀ j, j < 5 → wc' (t', v, 1) j = wc (t, v, 1) j) ∧ (∀ j, j < 12 → wc' (t', v, 2) j = wc (t, v, 2) j) ∧ wc' (t', v, 3) 4 = wc (t, v, 3) 4 ∧ ∀ j : Nat, (j : Int) < wc (t, v, 3) 4 → sdC wc' t' v j = sdC wc t v j
def RC (wr wr' : Mm) (u u' : Nat) : Prop :=
  (∀ j, j = 1 ∨ j = 2 → wr' (3, 0, 0) j = wr (3, 0, 0) j) ∧ (∀ q j, 1 ≤ q → q ≤ 7 → j < 12 → wr' (3, 0, q) j = wr (3, 0, q) j) ∧ (∀ j, j < 3 → wr' (u', 0, 0) j = wr (u, 0, 0) j) ∧ (∀ q j, (q = 1 ∨ q = 2 ∨ q = 3 ∨ q = 4 ∨ q = 7) → j < 8 → wr' (u', 0, q) j = wr (u, 0, q) j) ∧ (∀ j, j < 40 → wr' (u', 0, 5) j = wr (u, 0, 5) j) ∧ (∀ j, j < 96 → wr' (u', 0, 6) j = wr (u, 0, 6) j) ∧ ∀ j : Nat, (j : Int) < wr (u, 0, 0) 2 → wr' (u', 0, 8) j = wr (u, 0, 8) j ∧ sdR wr' u' j = sdR wr u j
theorem CS.vi {wc wc' : Mm} {t t' v : Nat} (h : CS wc wc' t t') (hP : wc (t, 8, 0) 4 ≤ 12) (hq : wc (t, v, 0) 9 ≤ 5) (hv : (v : Int) < wc (t, 8, 0) 1) (hI : ∀ x : Nat, (x : Int) < wc (t, 8, 0) 1 → VI wc t x) : VI wc' t' v := by
  obtain ⟨h1, h2, h3⟩ := h
  obtain ⟨j1, j2, j3, j4, j5⟩ := hI v hv
  obtain ⟨g1, g2, g3, g4, g5⟩ := h3 v hv
  have e5 := h1 5 (by decide)
  have e4 := h1 4 (by decide)
  have e1 := h1 1 (by decide)
  have eS : SLC wc' t' v = SLC wc t v := SLC_cg g4 g5
  have hBu : ∀ x : Nat, (x : Int) < wc (t, 8, 0) 1 → ∀ T, Bu wc' t' x T = Bu wc t x T := fun x hx T => by
    obtain ⟨k1, -, -, -, -⟩ := h3 x hx
    unfold Bu
    rw [k1 6 (by decide) (by decide) (by decide) (by decide), k1 7 (by decide) (by decide) (by decide) (by decide), e5]
    rcases (hI x hx).1 with q | q
    · rw [if_pos q.1, if_pos q.1]
    · rw [h2 _ (by omega)]
  have hSB : ∀ T, SB wc' t' v T = SB wc t v T := fun T => by
    unfold SB
    rw [e1]
    refine sumI_cg _ (fun x hx => ?_)
    by_cases e : x = v
    · rw [if_pos e, if_pos e]
    · rw [if_neg e, if_neg e, hBu x (by omega)]
  unfold VI
  rw [g1 6 (by decide) (by decide) (by decide) (by decide), g1 7 (by decide) (by decide) (by decide) (by decide), g1 9 (by decide) (by decide) (by decide) (by decide), e4, e5, eS]
  refine ⟨?_, fun j hj => ?_, j3, fun p hp1 hp2 => ?_, fun T hT => ?_⟩
  · rcases j1 with q | q
    · exact Or.inl q
    · rw [h2 _ (by omega)]
      exact Or.inr q
  · rw [g2 j (by omega)]
    exact j2 j hj
  · rw [g3 p hp1]
    exact j4 p hp1 hp2
  · rw [hSB]
    exact j5 T hT
theorem TT.mv {wc wc' wr wr' : Mm} {t t' u u' : Nat} (hT : TT wc wr t u) (hC : CS wc wc' t t') (hR : RC wr wr' u u') (hV : wc (t, 8, 0) 1 ≤ 8) (hP : wc (t, 8, 0) 4 ≤ 12) (hq : ∀ v : Nat, (v : Int) < wc (t, 8, 0) 1 → wc (t, v, 0) 9 ≤ 5) (h0 : 0 ≤ wr (u, 0, 0) 2) : TT wc' wr' t' u' := by
  obtain ⟨⟨s1, s2, s3, s4⟩, ⟨d1, d2, d3, d4⟩, hI⟩ := hT
  have hC0 := hC
  obtain ⟨c1, c2, c3⟩ := hC
  obtain ⟨r1, r2, r3, r4, r5, r6, r7⟩ := hR
  have e1 := c1 1 (by decide)
  have e4 := c1 4 (by decide)
  refine ⟨⟨?_, ?_, fun p hp => ?_, fun v hv => ?_⟩, ⟨?_, ?_, fun j hj => ?_, fun v hv => ?_⟩, fun v hv => ?_⟩
  · rw [e1, r1 1 (by decide)]; exact s1
  · rw [e4, r1 2 (by decide)]; exact s2
  · rw [e4] at hp
    rw [c2 p (by omega), r2 7 p (by decide) (by decide) (by omega)]
    exact s3 p hp
  · rw [e1] at hv
    obtain ⟨g1, -, -, -, -⟩ := c3 v hv
    rw [g1 0 (by decide) (by decide) (by decide) (by decide), g1 1 (by decide) (by decide) (by decide) (by decide), g1 3 (by decide) (by decide) (by decide) (by decide), g1 4 (by decide) (by decide) (by decide) (by decide), g1 5 (by decide) (by decide) (by decide) (by decide), r2 1 v (by decide) (by decide) (by omega), r2 2 v (by decide) (by decide) (by omega), r2 3 v (by decide) (by decide) (by omega), r2 4 v (by decide) (by decide) (by omega), r2 5 v (by decide) (by decide) (by omega)]
    exact s4 v hv
  · rw [c1 5 (by decide), r3 0 (by decide)]; exact d1
  · rw [c1 6 (by decide), r3 1 (by decide)]; exact d2
  · rw [r3 2 (by decide)] at hj
    rw [e1, (r7 j hj).1]
    exact d3 j hj
  · rw [e1] at hv
    obtain ⟨g1, g2, g3, g4, g5⟩ := c3 v hv
    obtain ⟨y1, y2, y3, y4, y5⟩ := d4 v hv
    refine ⟨?_, ?_, ?_, ?_, ?_⟩
    · rw [g1 2 (by decide) (by decide) (by decide) (by decide), r4 1 v (by decide) (by omega)]; exact y1
    · rw [g1 6 (by decide) (by decide) (by decide) (by decide), r4 2 v (by decide) (by omega)]; exact y2
    · rw [g1 7 (by decide) (by decide) (by decide) (by decide), r4 3 v (by decide) (by omega)]; exact y3
    · rw [DC_cg (x := wc) (t := t) (g1 9 (by decide) (by decide) (by decide) (by decide)) g2 g3 (g1 12 (by decide) (by decide) (by decide) (by decide)), DR_cg (x := wr) (u := u) (r4 4 v (by decide) (by omega)) (fun j hj => r5 _ (by omega)) (fun j hj => r6 _ (by omega)) (r4 7 v (by decide) (by omega))]
      exact y4
    · rw [SLC_cg g4 g5, y5]
      unfold SLR
      rw [r3 2 (by decide)]
      exact (slR_cg _ (fun j hj => (r7 j (by omega)).1) (fun j hj _ => (r7 j (by omega)).2)).symm
  · rw [e1] at hv
    exact hC0.vi hP (hq v hv) hv hI
theorem CS.rf {wc : Mm} {t : Nat} : CS wc wc t t := ⟨fun _ _ => rfl, fun _ _ => rfl, fun _ _ => ⟨fun _ _ _ _ _ => rfl, fun _ _ => rfl, fun _ _ => rfl, rfl, fun _ _ => rfl⟩⟩
theorem RC.rf {wr : Mm} {u : Nat} : RC wr wr u u := ⟨fun _ _ => rfl, fun _ _ _ _ _ => rfl, fun _ _ => rfl, fun _ _ _ _ => rfl, fun _ _ => rfl, fun _ _ => rfl, fun _ _ => ⟨rfl, rfl⟩⟩
theorem CS.of {wc wc' : Mm} {t : Nat} (h : ∀ v p j, wc' (t, v, p) j = wc (t, v, p) j) : CS wc wc' t t := ⟨fun _ _ => h _ _ _, fun _ _ => h _ _ _, fun _ _ => ⟨fun _ _ _ _ _ => h _ _ _, fun _ _ => h _ _ _, fun _ _ => h _ _ _, h _ _ _, fun _ _ => by unfold sdC; rw [h, h, h, h]⟩⟩
theorem RC.of {wr wr' : Mm} {u : Nat} (h : ∀ p j, wr' (u, 0, p) j = wr (u, 0, p) j) (h3 : ∀ p j, (p = 0 → j ≠ 0) → wr' (3, 0, p) j = wr (3, 0, p) j) : RC wr wr' u u := ⟨fun j hj => h3 _ _ (fun _ => by omega), fun _ _ h1 _ _ => h3 _ _ (fun q => by omega), fun _ _ => h _ _, fun _ _ _ _ => h _ _, fun _ _ => h _ _, fun _ _ => h _ _, fun _ _ => ⟨h _ _, by unfold sdR; rw [h, h, h, h]⟩⟩
/-! the copy that goes ahead -/
theorem cp_CS {w : Mm} {N D : Int} {X : Nat → Int} (hL : LI w 0 N D X) : CS w (s0cp w 1 0) 0 1 := by
  have hV := hL.1
  have kV : ∀ n, n ≤ 8 → ∀ v, v < n → (∀ j, j < 13 → j ≠ 8 → j ≠ 10 → j ≠ 11 → s0cpV w 1 0 n (1, v, 0) j = w (0, v, 0) j) ∧ (∀ j, j < 5 → s0cpV w 1 0 n (1, v, 1) j = w (0, v, 1) j) ∧ (∀ j, j < 12 → s0cpV w 1 0 n (1, v, 2) j = w (0, v, 2) j) ∧ s0cpV w 1 0 n (1, v, 3) 4 = w (0, v, 3) 4 ∧ ∀ j : Nat, (j : Int) < w (0, v, 3) 4 → sdC (s0cpV w 1 0 n) 1 v j = sdC w 0 v j := by
    intro n
    induction n with
    | zero => intro _ v hv; omega
    | succ n ih =>
      intro hn v hv
      by_cases e : v = n
      · subst e
        have e0 : ∀ p j, s0cpV w 1 0 v (0, v, p) j = w (0, v, p) j := fun p j => s0cpV_off (show (0 : Nat) ≠ 1 by decide) v
        have e1 : ∀ p j, p ≠ 0 → p ≠ 1 → p ≠ 2 → s0cpV w 1 0 (v + 1) (1, v, p) j = s1cp (cpy (st1 (cpy (st1 (st1 (st1 (st1 (st1 (st1 (st1 (st1 (s0cpV w 1 0 v) (1, v, 0) 0 (s0cpV w 1 0 v (0, v, 0) 0)) (1, v, 0) 1 (s0cpV w 1 0 v (0, v, 0) 1)) (1, v, 0) 2 (s0cpV w 1 0 v (0, v, 0) 2)) (1, v, 0) 3 (s0cpV w 1 0 v (0, v, 0) 3)) (1, v, 0) 4 (s0cpV w 1 0 v (0, v, 0) 4)) (1, v, 0) 5 (s0cpV w 1 0 v (0, v, 0) 5)) (1, v, 0) 6 (s0cpV w 1 0 v (0, v, 0) 6)) (1, v, 0) 7 (s0cpV w 1 0 v (0, v, 0) 7)) (0, v, 1) (1, v, 1) 0 0 5) (1, v, 0) 9 (s0cpV w 1 0 v (0, v, 0) 9)) (0, v, 2) (1, v, 2) 0 0 12) 1 v 0 v (1, v, p) j := fun p j h0 _ _ => by
          show s2cp (s0cpV w 1 0 v) 1 v 0 v (1, v, p) j = _
          unfold s2cp
          rw [st1_k (by simp [h0])]
        refine ⟨fun j h13 h8 h10 h11 => ?_, fun j hj => ?_, fun j hj => ?_, ?_, fun j hj => ?_⟩
        · exact (s2cp_0 (by decide) ⟨h8, h13, h10, h11⟩).trans (e0 0 j)
        · show s2cp (s0cpV w 1 0 v) 1 v 0 v (1, v, 1) j = _
          unfold s2cp
          rw [st1_k (by simp), s1cp_off (by simp) (by simp) (by simp) (by simp) (by simp)]
          simp [st1, cpy, hj, e0]
        · show s2cp (s0cpV w 1 0 v) 1 v 0 v (1, v, 2) j = _
          unfold s2cp
          rw [st1_k (by simp), s1cp_off (by simp) (by simp) (by simp) (by simp) (by simp)]
          simp [st1, cpy, hj, e0]
        · exact ((s2cp_3 (w := s0cpV w 1 0 v) (t := 1) (v := v) (t2 := 0) (v2 := v)).resolve_right (by decide)).trans (e0 3 4)
        · have hj2 : j < (w (0, v, 3) 4).toNat := by omega
          unfold sdC
          rw [e1 4 j (by decide) (by decide) (by decide), e1 5 j (by decide) (by decide) (by decide), e1 6 j (by decide) (by decide) (by decide), e1 7 j (by decide) (by decide) (by decide)]
          simp [s1cp, st1, cpy, e0, hj2]
      · have hl : ∀ p j, s0cpV w 1 0 (n + 1) (1, v, p) j = s0cpV w 1 0 n (1, v, p) j := fun p j => s2cp_loc _ j (fun q => e q.2)
        obtain ⟨i1, i2, i3, i4, i5⟩ := ih (by omega) v (by omega)
        exact ⟨fun j a b c d => (hl 0 j).trans (i1 j a b c d), fun j a => (hl 1 j).trans (i2 j a), fun j a => (hl 2 j).trans (i3 j a), (hl 3 4).trans i4, fun j a => by rw [← i5 j a]; unfold sdC; rw [hl, hl, hl, hl]⟩
  have e8 : ∀ p j, s0cpV w 1 0 (w (0, 8, 0) 1).toNat (0, 8, p) j = w (0, 8, p) j := fun p j => s0cpV_off (show (0 : Nat) ≠ 1 by decide) _
  have ev : ∀ v p j, v < 8 → s0cp w 1 0 (1, v, p) j = s0cpV w 1 0 (w (0, 8, 0) 1).toNat (1, v, p) j := fun v p j hv => by
    unfold s0cp
    rw [st1_k (by simp; omega), st1_k (by simp; omega), st1_k (by simp; omega), congrFun (cpy_off _ (by simp; omega)) j, congrFun (cpy_off _ (by simp; omega)) j, st1_k (by simp; omega)]
  refine ⟨fun j hj => ?_, fun j hj => ?_, fun v hv => ?_⟩
  · rcases hj with rfl | rfl | rfl | rfl <;> simp [s0cp, st1, cpy]
  · simp [s0cp, st1, cpy, hj, e8]
  · obtain ⟨k1, k2, k3, k4, k5⟩ := kV (w (0, 8, 0) 1).toNat (by omega) v (by omega)
    have hv8 : v < 8 := by omega
    exact ⟨fun j a b c d => (ev v 0 j hv8).trans (k1 j a b c d), fun j a => (ev v 1 j hv8).trans (k2 j a), fun j a => (ev v 2 j hv8).trans (k3 j a), (ev v 3 4 hv8).trans k4, fun j a => by rw [← k5 j a]; unfold sdC; rw [ev v 4 j hv8, ev v 5 j hv8, ev v 6 j hv8, ev v 7 j hv8]⟩
theorem bec_RC {w : Mm} : RC w (rbec w 5 4) 4 5 := by
  refine ⟨fun j hj => by simp [rbec, cpy, st1], fun q j _ _ _ => by simp [rbec, cpy, st1], fun j hj => ?_, fun q j hq hj => ?_, fun j hj => by simp [rbec, cpy, st1, hj], fun j hj => by simp [rbec, cpy, st1, hj], fun j hj => ?_⟩
  · rcases (show j = 0 ∨ j = 1 ∨ j = 2 by omega) with rfl | rfl | rfl <;> simp [rbec, cpy, st1]
  · rcases hq with rfl | rfl | rfl | rfl | rfl <;> simp [rbec, cpy, st1, hj]
  · have hj2 : j < (w (4, 0, 0) 2).toNat := by omega
    exact ⟨by simp [rbec, cpy, st1, hj2], by simp [sdR, rbec, cpy, st1, hj2]⟩
