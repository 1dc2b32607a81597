/-! the tie: a beat, and beats -/
theorem rb3_off {w : Mm} {u q j : Nat} (hq : q < 4) (h0 : ¬ q = 0) : ∀ n, (rb3 w u n).1 (u, 0, q) j = w (u, 0, q) j
  | 0 => rfl
  | n + 1 => by
    have ih := rb3_off (w := w) (u := u) (j := j) hq h0 n
    have hl : ∀ (y : Mm) (a b : Int), rlrn y u a b (u, 0, q) j = y (u, 0, q) j := fun y a b => rlrn_off (by simp; omega)
    have hp : ∀ (y : Mm) (a b : Int), rput y u a b (u, 0, q) j = y (u, 0, q) j := fun y a b => rput_off (by simp; omega) (by simp; omega)
    unfold rb3
    split
    · split
      · exact (st1_k (by simp; omega)).trans ih
      · split
        · split
          · exact (hp _ _ _).trans ((hl _ _ _).trans ih)
          · exact (hl _ _ _).trans ih
        · exact (hl _ _ _).trans ih
    · refine Eq.trans ?_ ih
      show rmv _ _ _ _ _ _ = _
      unfold rmv
      rw [st1_k (by simp; omega), st1_k (by simp; omega), st1_k (by simp; omega), st1_k (by simp; omega), st1_k (by simp; omega)]
theorem s2edb_off {w : Mm} {t n : Nat} {k : Ky} {j : Nat} (h : k ≠ (t, n, 0) ∨ (j ≠ 6 ∧ j ≠ 7)) : s2edb w t n k j = w k j := by
  unfold s2edb
  split
  · rfl
  · split
    · unfold st1
      rcases h with h | h
      · rw [if_neg (fun q => h q.1), if_neg (fun q => h q.1)]
      · rw [if_neg (fun q => h.1 q.2), if_neg (fun q => h.2 q.2)]
    · unfold st1
      rcases h with h | h
      · rw [if_neg (fun q => h q.1)]
      · rw [if_neg (fun q => h.2 q.2)]
theorem s2edb_67 {w : Mm} {t n : Nat} : s2edb w t n (t, n, 0) 6 = (if w (t, n, 0) 6 = -1 then -1 else if w (t, n, 0) 7 - 1 = 0 then -1 else w (t, n, 0) 6) ∧ s2edb w t n (t, n, 0) 7 = (if w (t, n, 0) 6 = -1 then w (t, n, 0) 7 else w (t, n, 0) 7 - 1) := by
  unfold s2edb
  by_cases c : w (t, n, 0) 6 = -1
  · rw [if_pos c, if_pos c, if_pos c]
    exact ⟨c, rfl⟩
  · rw [if_neg c, if_neg c, if_neg c]
    by_cases c2 : w (t, n, 0) 7 - 1 = 0
    · rw [if_pos c2, if_pos c2]
      exact ⟨by rw [st1_eq], by rw [st1_j (by decide), st1_eq]⟩
    · rw [if_neg c2, if_neg c2]
      exact ⟨by rw [st1_j (by decide)], by rw [st1_eq]⟩
theorem s0b4_off {w : Mm} {t : Nat} {k : Ky} {j : Nat} : ∀ n, (k.1 = t → k.2.1 < n → k.2.2 ≠ 0 ∨ (j ≠ 6 ∧ j ≠ 7)) → s0b4 w t n k j = w k j
  | 0, _ => rfl
  | n + 1, h => by
    have ih := s0b4_off (w := w) (t := t) (k := k) (j := j) n (fun h1 h2 => h h1 (by omega))
    show s2edb (s0b4 w t n) t n k j = _
    rw [s2edb_off, ih]
    by_cases e : k = (t, n, 0)
    · subst e
      rcases h rfl (Nat.lt_succ_self _) with q | q
      · exact absurd rfl q
      · exact Or.inr q
    · exact Or.inl e
theorem s0b4_67 {w : Mm} {t v : Nat} : ∀ n, v < n → s0b4 w t n (t, v, 0) 6 = (if w (t, v, 0) 6 = -1 then -1 else if w (t, v, 0) 7 - 1 = 0 then -1 else w (t, v, 0) 6) ∧ s0b4 w t n (t, v, 0) 7 = (if w (t, v, 0) 6 = -1 then w (t, v, 0) 7 else w (t, v, 0) 7 - 1)
  | n + 1, hv => by
    show s2edb (s0b4 w t n) t n (t, v, 0) 6 = _ ∧ s2edb (s0b4 w t n) t n (t, v, 0) 7 = _
    by_cases e : v = n
    · subst e
      have h6 : s0b4 w t v (t, v, 0) 6 = w (t, v, 0) 6 := s0b4_off v (fun _ q => absurd q (Nat.lt_irrefl v))
      have h7 : s0b4 w t v (t, v, 0) 7 = w (t, v, 0) 7 := s0b4_off v (fun _ q => absurd q (Nat.lt_irrefl v))
      have g := s2edb_67 (w := s0b4 w t v) (t := t) (n := v)
      rw [h6, h7] at g
      exact g
    · obtain ⟨i1, i2⟩ := s0b4_67 (w := w) (t := t) (v := v) n (by omega)
      rw [s2edb_off (Or.inl (by simp [e])), s2edb_off (Or.inl (by simp [e]))]
      exact ⟨i1, i2⟩
theorem rb4_off {w : Mm} {u : Nat} {k : Ky} {j : Nat} (h2 : k ≠ (u, 0, 2)) (h3 : k ≠ (u, 0, 3)) : ∀ n, rb4 w u n k j = w k j
  | 0 => rfl
  | n + 1 => by
    have ih := rb4_off (w := w) (u := u) (k := k) (j := j) h2 h3 n
    unfold rb4
    split
    · rw [st1_k h2, st1_k h3]; exact ih
    · rw [st1_k h3]; exact ih
theorem rb4_ge {w : Mm} {u v : Nat} : ∀ n, n ≤ v → rb4 w u n (u, 0, 2) v = w (u, 0, 2) v ∧ rb4 w u n (u, 0, 3) v = w (u, 0, 3) v
  | 0, _ => ⟨rfl, rfl⟩
  | n + 1, h => by
    obtain ⟨i1, i2⟩ := rb4_ge (w := w) (u := u) (v := v) n (by omega)
    have hv : v ≠ n := by omega
    unfold rb4
    split
    · exact ⟨by rw [st1_j hv, st1_k (by simp)]; exact i1, by rw [st1_k (by simp), st1_j hv]; exact i2⟩
    · exact ⟨by rw [st1_k (by simp)]; exact i1, by rw [st1_j hv]; exact i2⟩
theorem rb4_23 {w : Mm} {u v : Nat} : ∀ n, v < n → rb4 w u n (u, 0, 2) v = (if max 0 (w (u, 0, 3) v - 1) = 0 then -1 else w (u, 0, 2) v) ∧ rb4 w u n (u, 0, 3) v = max 0 (w (u, 0, 3) v - 1)
  | n + 1, hv => by
    by_cases e : v = n
    · subst e
      obtain ⟨i1, i2⟩ := rb4_ge (w := w) (u := u) (v := v) v (Nat.le_refl v)
      unfold rb4
      rw [i2]
      split
      · rename_i c
        exact ⟨by rw [st1_eq], by rw [st1_k (by simp), st1_eq]⟩
      · rename_i c
        exact ⟨by rw [st1_k (by simp)]; exact i1, by rw [st1_eq]⟩
    · obtain ⟨i1, i2⟩ := rb4_23 (w := w) (u := u) (v := v) n (by omega)
      unfold rb4
      split
      · exact ⟨by rw [st1_j e, st1_k (by simp)]; exact i1, by rw [st1_k (by simp), st1_j e]; exact i2⟩
      · exact ⟨by rw [st1_k (by simp)]; exact i1, by rw [st1_j e]; exact i2⟩
theorem nT_filter {T : Int} {q : Sd → Bool} {l : List Sd} : nT T (l.filter q) ≤ nT T l := by
  unfold nT cnt
  exact List.Sublist.length_le (List.Sublist.filter _ List.filter_sublist)
/-- the second half of a beat, behind the drowning -/
theorem end_sim {wc wr : Mm} {t u : Nat} {N D N' D' X' : Int} {X : Nat → Int} (hu : u ≠ 3) (hL : LI wc t N D X) (hR : SI wr u N' D' X') (hs : RS wc wr t) (hd : RD wc wr t u) (hv : ∀ v : Nat, (v : Int) < wc (t, 8, 0) 1 → VI wc t v) {V : Nat} (hVV : V = (wc (t, 8, 0) 1).toNat) {z4 : Mm} (hz4 : z4 = s0b4 (s0b3 wc t V).1 t V) {y4 : Mm} (hy4 : y4 = rb4 (st1 (rb3 wr u (wr (u, 0, 0) 2).toNat).1 (u, 0, 0) 2 (((rb3 wr u (wr (u, 0, 0) 2).toNat).2.2 : Nat) : Int)) u V) :
    RS (st1 z4 (t, 8, 0) 5 (z4 (t, 8, 0) 5 + 1)) (st1 y4 (u, 0, 0) 0 (y4 (u, 0, 0) 0 + 1)) t ∧ RD (st1 z4 (t, 8, 0) 5 (z4 (t, 8, 0) 5 + 1)) (st1 y4 (u, 0, 0) 0 (y4 (u, 0, 0) 0 + 1)) t u ∧ (∀ v : Nat, (v : Int) < wc (t, 8, 0) 1 → VI (st1 z4 (t, 8, 0) 5 (z4 (t, 8, 0) 5 + 1)) t v) ∧ (s0b3 wc t V).2 = (((rb3 wr u (wr (u, 0, 0) 2).toNat).2.1 : Nat) : Int) := by
  have hV := hL.1
  have hP := hL.2.1
  have hS0 := hR.2.2.1
  obtain ⟨s1, s2, s3, s4⟩ := hs
  obtain ⟨d1, d2, d3, d4⟩ := hd
  obtain ⟨c1, c2, c3⟩ := s0b3_sim hL (fun v hv1 s hs => by
    have := (hv v hv1).2.2.1 s hs
    have h1 := hP.2
    exact ⟨this.1.1, by omega⟩) V (by omega)
  have hmem : ∀ j : Nat, (j : Int) < wr (u, 0, 0) 2 → sdR wr u j ∈ SLR wr u (wr (u, 0, 8) j).toNat := by
    intro j hj
    have hj8 := d3 j hj
    have aux : ∀ m, j < m → sdR wr u j ∈ slR wr u (wr (u, 0, 8) j).toNat m := by
      intro m
      induction m with
      | zero => intro h; omega
      | succ m im =>
        intro h
        simp only [slR]
        by_cases c : j < m
        · split
          · exact List.mem_append.mpr (Or.inl (im c))
          · exact im c
        · have e : j = m := by omega
          subst e
          rw [if_pos (by omega)]
          exact List.mem_append.mpr (Or.inr (List.mem_singleton.mpr rfl))
    exact aux _ (by omega)
  have hwr : ∀ j : Nat, (j : Int) < wr (u, 0, 0) 2 → (0 ≤ wr (u, 0, 8) j ∧ wr (u, 0, 8) j < (V : Int)) ∧ wc (t, 8, 0) 5 ≤ wr (u, 0, 11) j ∧ (wr (u, 0, 12) j = 0 ∨ wr (u, 0, 12) j = 1) := by
    intro j hj
    have hj8 := d3 j hj
    have hm := hmem j hj
    have hv0 : ((wr (u, 0, 8) j).toNat : Int) < wc (t, 8, 0) 1 := by omega
    rw [← (d4 _ hv0).2.2.2.2] at hm
    have h9 := (hv _ hv0).2.2.1 _ hm
    exact ⟨⟨hj8.1, by omega⟩, h9.2.1, h9.2.2⟩
  obtain ⟨e1, e2, e3, e4, e5, e6⟩ := rb3_sim (w := wr) (u := u) (V := V) (b := wc (t, 8, 0) 5) hR d1 (by omega) hwr (wr (u, 0, 0) 2).toNat (by omega)
  obtain ⟨fS, fl, f0, -, -⟩ := rb3_facts hR (wr (u, 0, 0) 2).toNat (by omega)
  have hE : ∀ v : Nat, (v : Int) < wc (t, 8, 0) 1 → (SLC wc t v).foldl (efE (wc (t, 8, 0) 5)) (DC wc t v, 0) = (slR wr u v (wr (u, 0, 0) 2).toNat).foldl (efE (wc (t, 8, 0) 5)) (DR wr u v, 0) := fun v hv1 => by
    have h9 := d4 v hv1
    rw [h9.2.2.2.1, h9.2.2.2.2]
    rfl
  have hlearn : (s0b3 wc t V).2 = (((rb3 wr u (wr (u, 0, 0) 2).toNat).2.1 : Nat) : Int) := by
    rw [c3, e2]
    exact sumI_cg V (fun v hv1 => by rw [hE v (by omega)])
  -- the keys
  have z8 : ∀ p j, z4 (t, 8, p) j = wc (t, 8, p) j := fun p j => by
    rw [hz4, s0b4_off V (fun _ q => absurd (show 8 < V from q) (by omega))]
    exact c2 8 p j (by omega)
  have zk : ∀ v j, v < V → j ≠ 6 → j ≠ 7 → j ≠ 9 → j ≠ 12 → z4 (t, v, 0) j = wc (t, v, 0) j := fun v j hv1 h6 h7 h9 h12 => by
    rw [hz4, s0b4_off V (fun _ _ => Or.inr ⟨h6, h7⟩)]
    exact (c1 v hv1).2.2 j h9 h12
  have zp : ∀ v p j, p ≠ 0 → z4 (t, v, p) j = (s0b3 wc t V).1 (t, v, p) j := fun v p j hp => by
    rw [hz4, s0b4_off V (fun _ _ => Or.inl hp)]
  have z67 : ∀ v, v < V → z4 (t, v, 0) 6 = (if wc (t, v, 0) 6 = -1 then -1 else if wc (t, v, 0) 7 - 1 = 0 then -1 else wc (t, v, 0) 6) ∧ z4 (t, v, 0) 7 = (if wc (t, v, 0) 6 = -1 then wc (t, v, 0) 7 else wc (t, v, 0) 7 - 1) := fun v hv1 => by
    have g := s0b4_67 (w := (s0b3 wc t V).1) (t := t) (v := v) V hv1
    rw [(c1 v hv1).2.2 6 (by decide) (by decide), (c1 v hv1).2.2 7 (by decide) (by decide), ← hz4] at g
    exact g
  have zDC : ∀ v, v < V → DC z4 t v = ((SLC wc t v).foldl (efE (wc (t, 8, 0) 5)) (DC wc t v, 0)).1 := fun v hv1 => by
    rw [← (c1 v hv1).1]
    refine DC_cg ?_ (fun j _ => zp v 1 j (by decide)) (fun j _ => zp v 2 j (by decide)) ?_
    · rw [hz4, s0b4_off V (fun _ _ => Or.inr (by decide))]
    · rw [hz4, s0b4_off V (fun _ _ => Or.inr (by decide))]
  have zSL : ∀ v, v < V → SLC z4 t v = (SLC wc t v).filter (kp (wc (t, 8, 0) 5)) := fun v hv1 => by
    rw [← (c1 v hv1).2.1]
    exact SLC_cg (zp v 3 4 (by decide)) (fun j _ => by unfold sdC; rw [zp v 4 j (by decide), zp v 5 j (by decide), zp v 6 j (by decide), zp v 7 j (by decide)])
  -- the reference's keys
  have y3 : ∀ q j, y4 (3, 0, q) j = wr (3, 0, q) j := fun q j => by
    rw [hy4, rb4_off (by simp; intro h; exact absurd h.symm hu) (by simp; intro h; exact absurd h.symm hu), st1_k (by simp; intro h; exact absurd h.symm hu)]
    exact fl _ j (fun h => hu h.symm)
  have y0 : ∀ j, j ≠ 2 → y4 (u, 0, 0) j = wr (u, 0, 0) j := fun j hj => by
    rw [hy4, rb4_off (by simp) (by simp), st1_j hj]
    exact f0 j
  have yS : y4 (u, 0, 0) 2 = (((rb3 wr u (wr (u, 0, 0) 2).toNat).2.2 : Nat) : Int) := by
    rw [hy4, rb4_off (by simp) (by simp), st1_eq]
  have yq : ∀ q j, q ≠ 0 → q ≠ 2 → q ≠ 3 → y4 (u, 0, q) j = (rb3 wr u (wr (u, 0, 0) 2).toNat).1 (u, 0, q) j := fun q j q0 q2 q3 => by
    rw [hy4, rb4_off (by simp [q2]) (by simp [q3]), st1_k (by simp [q0])]
  have y23 : ∀ v, v < V → y4 (u, 0, 2) v = (if max 0 (wr (u, 0, 3) v - 1) = 0 then -1 else wr (u, 0, 2) v) ∧ y4 (u, 0, 3) v = max 0 (wr (u, 0, 3) v - 1) := fun v hv1 => by
    have g := rb4_23 (w := st1 (rb3 wr u (wr (u, 0, 0) 2).toNat).1 (u, 0, 0) 2 (((rb3 wr u (wr (u, 0, 0) 2).toNat).2.2 : Nat) : Int)) (u := u) (v := v) V hv1
    rw [st1_k (by simp), st1_k (by simp), rb3_off (by decide) (by decide), rb3_off (by decide) (by decide), ← hy4] at g
    exact g
  have yDR : ∀ v, v < 8 → DR y4 u v = DR (rb3 wr u (wr (u, 0, 0) 2).toNat).1 u v := fun v _ => DR_cg (yq 4 v (by decide) (by decide) (by decide)) (fun j _ => yq 5 _ (by decide) (by decide) (by decide)) (fun j _ => yq 6 _ (by decide) (by decide) (by decide)) (yq 7 v (by decide) (by decide) (by decide))
  have ySL : ∀ v, SLR y4 u v = (SLR wr u v).filter (kp (wc (t, 8, 0) 5)) := fun v => by
    unfold SLR
    rw [yS, ← e3 v, Int.toNat_natCast]
    exact slR_cg _ (fun j _ => yq 8 j (by decide) (by decide) (by decide)) (fun j _ _ => by unfold sdR; rw [yq 9 j (by decide) (by decide) (by decide), yq 10 j (by decide) (by decide) (by decide), yq 11 j (by decide) (by decide) (by decide), yq 12 j (by decide) (by decide) (by decide)])
  -- the new beat
  have F8 : ∀ p j, ¬ (p = 0 ∧ j = 5) → st1 z4 (t, 8, 0) 5 (z4 (t, 8, 0) 5 + 1) (t, 8, p) j = wc (t, 8, p) j := fun p j hpj => by
    unfold st1
    rw [if_neg (fun q => hpj ⟨by have := q.1; simp at this; exact this, q.2⟩)]
    exact z8 p j
  have F5 : st1 z4 (t, 8, 0) 5 (z4 (t, 8, 0) 5 + 1) (t, 8, 0) 5 = wc (t, 8, 0) 5 + 1 := by rw [st1_eq, z8]
  have Fv : ∀ v p j, v < V → st1 z4 (t, 8, 0) 5 (z4 (t, 8, 0) 5 + 1) (t, v, p) j = z4 (t, v, p) j := fun v p j hv1 => st1_k (by simp; omega)
  have G3 : ∀ q j, st1 y4 (u, 0, 0) 0 (y4 (u, 0, 0) 0 + 1) (3, 0, q) j = wr (3, 0, q) j := fun q j => by
    rw [st1_k (by simp; intro h; exact absurd h.symm hu)]
    exact y3 q j
  have Gq : ∀ q j, q ≠ 0 → st1 y4 (u, 0, 0) 0 (y4 (u, 0, 0) 0 + 1) (u, 0, q) j = y4 (u, 0, q) j := fun q j hq => st1_k (by simp [hq])
  have G0 : ∀ j, j ≠ 0 → st1 y4 (u, 0, 0) 0 (y4 (u, 0, 0) 0 + 1) (u, 0, 0) j = y4 (u, 0, 0) j := fun j hj => st1_j hj
  have FDC : ∀ v, v < V → DC (st1 z4 (t, 8, 0) 5 (z4 (t, 8, 0) 5 + 1)) t v = DC z4 t v := fun v hv1 => DC_cg (Fv v 0 9 hv1) (fun j _ => Fv v 1 j hv1) (fun j _ => Fv v 2 j hv1) (Fv v 0 12 hv1)
  have FSL : ∀ v, v < V → SLC (st1 z4 (t, 8, 0) 5 (z4 (t, 8, 0) 5 + 1)) t v = SLC z4 t v := fun v hv1 => SLC_cg (Fv v 3 4 hv1) (fun j _ => by unfold sdC; rw [Fv v 4 j hv1, Fv v 5 j hv1, Fv v 6 j hv1, Fv v 7 j hv1])
  refine ⟨⟨?_, ?_, ?_, ?_⟩, ⟨?_, ?_, ?_, ?_⟩, ?_, hlearn⟩
  · rw [F8 0 1 (by decide), G3]; exact s1
  · rw [F8 0 4 (by decide), G3]; exact s2
  · intro p hp
    rw [F8 0 4 (by decide)] at hp
    rw [F8 2 p (by omega), G3]
    exact s3 p hp
  · intro v hv1
    rw [F8 0 1 (by decide)] at hv1
    have hvV : v < V := by omega
    rw [Fv v 0 0 hvV, Fv v 0 1 hvV, Fv v 0 3 hvV, Fv v 0 4 hvV, Fv v 0 5 hvV, G3, G3, G3, G3, G3, zk v 0 hvV (by decide) (by decide) (by decide) (by decide), zk v 1 hvV (by decide) (by decide) (by decide) (by decide), zk v 3 hvV (by decide) (by decide) (by decide) (by decide), zk v 4 hvV (by decide) (by decide) (by decide) (by decide), zk v 5 hvV (by decide) (by decide) (by decide) (by decide)]
    exact s4 v hv1
  · rw [F5, st1_eq, y0 0 (by decide), d1]
  · rw [F8 0 6 (by decide), G0 1 (by decide), y0 1 (by decide)]; exact d2
  · intro j hj
    rw [G0 2 (by decide), yS] at hj
    rw [F8 0 1 (by decide), Gq 8 j (by decide), yq 8 j (by decide) (by decide) (by decide)]
    have := e6 j (by omega)
    omega
  · intro v hv1
    rw [F8 0 1 (by decide)] at hv1
    have hvV : v < V := by omega
    obtain ⟨r1, r2, r3, r4, r5⟩ := d4 v hv1
    obtain ⟨j1, j2, j3, j4, j5⟩ := hv v hv1
    refine ⟨?_, ?_, ?_, ?_, ?_⟩
    · rw [Fv v 0 2 hvV, zk v 2 hvV (by decide) (by decide) (by decide) (by decide), Gq 1 v (by decide), yq 1 v (by decide) (by decide) (by decide), rb3_off (by decide) (by decide)]
      exact r1
    · rw [Fv v 0 6 hvV, (z67 v hvV).1, Gq 2 v (by decide), (y23 v hvV).1, ← r2, ← r3]
      rcases j1 with q | q
      · rw [if_pos q.1, if_pos (by omega)]
      · rw [if_neg (by omega)]
        by_cases c : wc (t, v, 0) 7 - 1 = 0
        · rw [if_pos c, if_pos (by omega)]
        · rw [if_neg c, if_neg (by omega)]
    · rw [Fv v 0 7 hvV, (z67 v hvV).2, Gq 3 v (by decide), (y23 v hvV).2, ← r3]
      rcases j1 with q | q
      · rw [if_pos q.1]
        omega
      · rw [if_neg (by omega)]
        omega
    · rw [FDC v hvV, zDC v hvV, hE v hv1, ← e1 v (by omega), ← yDR v (by omega)]
      exact (DR_cg (Gq 4 v (by decide)) (fun j _ => Gq 5 _ (by decide)) (fun j _ => Gq 6 _ (by decide)) (Gq 7 v (by decide))).symm
    · rw [FSL v hvV, zSL v hvV, r5, ← ySL v]
      unfold SLR
      rw [G0 2 (by decide)]
      exact (slR_cg _ (fun j _ => Gq 8 j (by decide)) (fun j _ _ => by unfold sdR; rw [Gq 9 j (by decide), Gq 10 j (by decide), Gq 11 j (by decide), Gq 12 j (by decide)])).symm
  · intro v hv1
    have hvV : v < V := by omega
    obtain ⟨j1, j2, j3, j4, j5⟩ := hv v hv1
    have hb := hL.v (v := v) (by omega)
    have hEI : EI (wc (t, 8, 0) 4) (DC (st1 z4 (t, 8, 0) 5 (z4 (t, 8, 0) 5 + 1)) t v) := by
      rw [FDC v hvV, zDC v hvV]
      refine fold_EI _ _ ⟨hb.2.2.2.2.2.2.2.1, fun j hj => ?_, fun p hp1 hp2 => ?_⟩ (fun s hs => (j3 s hs).1)
      · have hj' : (j : Int) < wc (t, v, 0) 9 := hj
        have h5 := hb.2.2.2.2.2.2.2.1.2
        show 0 ≤ tr 5 _ j ∧ tr 5 _ j < _
        unfold tr
        rw [if_pos (by omega)]
        exact j2 j hj'
      · show tr 12 _ p = -1
        unfold tr
        rw [if_pos hp1]
        exact j4 p hp1 hp2
    unfold VI
    rw [F8 0 4 (by decide), F5, FSL v hvV, zSL v hvV]
    refine ⟨?_, fun j hj => ?_, fun s hs => ?_, fun p hp1 hp2 => ?_, fun T hT => ?_⟩
    · rw [Fv v 0 6 hvV, Fv v 0 7 hvV, (z67 v hvV).1, (z67 v hvV).2]
      rcases j1 with q | q
      · rw [if_pos q.1, if_pos q.1]
        exact Or.inl ⟨rfl, q.2⟩
      · rw [if_neg (show ¬ wc (t, v, 0) 6 = -1 by omega), if_neg (show ¬ wc (t, v, 0) 6 = -1 by omega)]
        by_cases c : wc (t, v, 0) 7 - 1 = 0
        · rw [if_pos c]
          exact Or.inl ⟨rfl, c⟩
        · rw [if_neg c, F8 2 _ (by omega)]
          exact Or.inr ⟨q.1, by omega, by omega⟩
    · have h5 := hEI.1.2
      have h9 := hEI.2.1 j hj
      have hj5 : j < 5 := by have : (j : Int) < (DC (st1 z4 (t, 8, 0) 5 (z4 (t, 8, 0) 5 + 1)) t v).1 := hj; omega
      have e : (DC (st1 z4 (t, 8, 0) 5 (z4 (t, 8, 0) 5 + 1)) t v).2.1 j = st1 z4 (t, 8, 0) 5 (z4 (t, 8, 0) 5 + 1) (t, v, 1) j := if_pos hj5
      rw [e] at h9
      exact h9
    · obtain ⟨hs1, hs2⟩ := List.mem_filter.mp hs
      have h9 := j3 s hs1
      have hk : ¬ s.2.2.1 = wc (t, 8, 0) 5 := of_decide_eq_true hs2
      exact ⟨h9.1, by omega, h9.2.2⟩
    · have h9 := hEI.2.2 p hp1 hp2
      have e : (DC (st1 z4 (t, 8, 0) 5 (z4 (t, 8, 0) 5 + 1)) t v).2.2.1 p = st1 z4 (t, 8, 0) 5 (z4 (t, 8, 0) 5 + 1) (t, v, 2) p := if_pos hp1
      rw [e] at h9
      exact h9
    · have h5 := j5 T (by omega)
      have hf := nT_filter (T := T) (q := kp (wc (t, 8, 0) 5)) (l := SLC wc t v)
      have hSB : SB wc t v T ≤ SB (st1 z4 (t, 8, 0) 5 (z4 (t, 8, 0) 5 + 1)) t v T := by
        unfold SB
        rw [F8 0 1 (by decide)]
        refine sumI_le _ (fun x hx => ?_)
        by_cases e : x = v
        · rw [if_pos e, if_pos e]
          exact Int.le_refl _
        · rw [if_neg e, if_neg e]
          have hxV : x < V := by omega
          unfold Bu
          rw [Fv x 0 6 hxV, Fv x 0 7 hxV, (z67 x hxV).1, (z67 x hxV).2, F5]
          rcases (hv x (by omega)).1 with q | q
          · rw [if_pos q.1, if_pos q.1, if_pos rfl]
            have := hT_m (T := T) (show wc (t, 8, 0) 5 ≤ wc (t, 8, 0) 5 + 1 by omega)
            omega
          · rw [if_neg (show ¬ wc (t, x, 0) 6 = -1 by omega), if_neg (show ¬ wc (t, x, 0) 6 = -1 by omega), if_neg (show ¬ wc (t, x, 0) 6 = -1 by omega)]
            by_cases c : wc (t, x, 0) 7 - 1 = 0
            · rw [if_pos c, if_pos rfl]
              have hl := hL.2.2.2.2.1 (wc (t, x, 0) 6).toNat (by omega)
              have hh := hT_e (T := T) (a := wc (t, 8, 0) 5 + wc (t, x, 0) 7 - wc (t, 8, 2) (wc (t, x, 0) 6).toNat) (e := wc (t, 8, 0) 5 + 1) (by omega)
              rw [show wc (t, 8, 0) 5 + wc (t, x, 0) 7 = wc (t, 8, 0) 5 + 1 by omega] at hh ⊢
              omega
            · rw [if_neg c, if_neg (show ¬ wc (t, x, 0) 6 = -1 by omega), F8 2 _ (by omega), show wc (t, 8, 0) 5 + 1 + (wc (t, x, 0) 7 - 1) = wc (t, 8, 0) 5 + wc (t, x, 0) 7 by omega]
              exact Int.le_refl _
      omega
theorem beat_sim {wc wr : Mm} {t u : Nat} {N D N' D' X' : Int} {X : Nat → Int} (hu : u ≠ 3) (hL : LI wc t N D X) (hR : SI wr u N' D' X') (hM : MI wr) (hs : RS wc wr t) (hd : RD wc wr t u) (hv : ∀ v : Nat, (v : Int) < wc (t, 8, 0) 1 → VI wc t v) :
    RS (s0beat wc t) (rbeat wr u) t ∧ RD (s0beat wc t) (rbeat wr u) t u ∧ (∀ v : Nat, (v : Int) < wc (t, 8, 0) 1 → VI (s0beat wc t) t v) ∧ (s0w3 wc t).2 = (((rv3 wr u).2.1 : Nat) : Int) := by
  have hV := hL.1
  have h896 := size_896 hR.2.2.1.1 hV.1 hV.2 hd hv
  obtain ⟨a1, a2, a3⟩ := b1_sim hu hL hR hM hs hd hv (wc (t, 8, 0) 1).toNat (by omega)
  obtain ⟨l1, l2⟩ := LI_b1 hL (wc (t, 8, 0) 1).toNat (by omega)
  have eV := l2 1 (by decide)
  obtain ⟨q1, q2, -⟩ := SI_beat (fun q => hu q.symm) hR hM h896
  have eVr : (wr (3, 0, 0) 1).toNat = (wc (t, 8, 0) 1).toNat := by rw [hs.1]
  have e1 : rb1 wr u (wc (t, 8, 0) 1).toNat = rv1 wr u := by unfold rv1; rw [eVr]
  rw [e1] at a1 a2
  obtain ⟨b1, b2, b3⟩ := b2_sim hu l1 a1 a2 (by rw [eV]; exact a3) (wc (t, 8, 0) 1).toNat (by rw [eV]; omega)
  obtain ⟨m1, m2⟩ := LI_b2 l1 (wc (t, 8, 0) 1).toNat (by omega)
  have e2 : rb2 (rv1 wr u) u (wc (t, 8, 0) 1).toNat = rv2 wr u := by unfold rv2; rw [eVr]
  rw [e2] at b1 b2
  have eV2 : s0b2 (s0b1 wc t (wc (t, 8, 0) 1).toNat) t (wc (t, 8, 0) 1).toNat (t, 8, 0) 1 = wc (t, 8, 0) 1 := (m2 1).trans eV
  rw [eV] at b3
  obtain ⟨c1, c2, c3, c4⟩ := end_sim hu m1 q2 b1 b2 (by rw [eV2]; exact b3) (V := (wc (t, 8, 0) 1).toNat) (by rw [eV2]) rfl (y4 := rv4 wr u) (by unfold rv4 rv3b rv3; rw [eVr])
  rw [eV2] at c3
  exact ⟨c1, c2, c3, c4⟩
