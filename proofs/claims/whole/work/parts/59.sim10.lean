/-! the tie: villages that are not yet there; a village that is founded -/
def UU (wc wr : Mm) : Prop := ∀ v : Nat, v < 8 → wc (0, 8, 0) 1 ≤ (v : Int) → wc (0, v, 0) 3 = wr (3, 0, 3) v ∧ wc (0, v, 0) 4 = wr (3, 0, 4) v ∧ wc (0, v, 0) 5 = 24 ∧ wc (0, v, 0) 6 = -1 ∧ wc (0, v, 0) 7 = 0 ∧ wr (4, 0, 3) v = 0 ∧ DC wc 0 v = DR wr 4 v ∧ wc (0, v, 0) 9 = 0 ∧ (∀ p, p < 12 → wc (0, v, 2) p = -1) ∧ wc (0, v, 3) 4 = 0
theorem s0snd_hi {w : Mm} {t n v q j : Nat} {p b : Int} : ∀ k, k ≤ v → s0snd w t n p b k (t, v, q) j = w (t, v, q) j
  | 0, _ => rfl
  | k + 1, hk => by
    have ih := s0snd_hi (w := w) (t := t) (n := n) (v := v) (q := q) (j := j) (p := p) (b := b) k (by omega)
    have al : ∀ (y : Mm) (f : Int), s1add y t k p f b (t, v, q) j = y (t, v, q) j := fun y f => s1add_loc _ j (fun z => absurd (show v = k from z.2) (by omega))
    unfold s0snd
    split
    · split
      · rw [al]; exact ih
      · rw [al, al]; exact ih
    · exact ih
theorem s0beg_hi {w : Mm} {t n v q j : Nat} (hn : v ≠ n) (h8 : v ≠ 8) (hV : w (t, 8, 0) 1 ≤ (v : Int)) (hn8 : n ≠ 8) : s0beg w t n (t, v, q) j = w (t, v, q) j := by
  have hp : s2pop w t n (t, v, q) j = w (t, v, q) j := s2pop_loc _ j (fun z => hn z.2)
  unfold s0beg
  split
  · exact hp
  · rw [s0snd_hi _ (by omega)]
    unfold s0set
    rw [st1_k (by simp [h8]), st1_k (by simp [hn]), st1_k (by simp [hn])]
    exact hp
theorem s0beat_hi {w : Mm} {t v q j : Nat} {N D : Int} {X : Nat → Int} (hL : LI w t N D X) (h8 : v < 8) (hV : w (t, 8, 0) 1 ≤ (v : Int)) : s0beat w t (t, v, q) j = w (t, v, q) j := by
  have hV0 := hL.1
  have k1 : ∀ n : Nat, (n : Int) ≤ w (t, 8, 0) 1 → s0b1 w t n (t, v, q) j = w (t, v, q) j := by
    intro n
    induction n with
    | zero => intro _; rfl
    | succ n ih =>
      intro hn
      have e1 := (LI_b1 hL n (by omega)).2 1 (by decide)
      unfold s0b1
      split
      · rw [s0beg_hi (by omega) (by omega) (by rw [e1]; exact hV) (by omega)]
        exact ih (by omega)
      · exact ih (by omega)
  have k2 : ∀ (x : Mm) (n : Nat), (n : Int) ≤ w (t, 8, 0) 1 → s0b2 x t n (t, v, q) j = x (t, v, q) j := by
    intro x n
    induction n with
    | zero => intro _; rfl
    | succ n ih =>
      intro hn
      exact (s2dr_loc _ j (fun z => absurd (show v = n from z.2) (by omega))).trans (ih (by omega))
  have k3 : ∀ (x : Mm) (n : Nat), (n : Int) ≤ w (t, 8, 0) 1 → (s0b3 x t n).1 (t, v, q) j = x (t, v, q) j := by
    intro x n
    induction n with
    | zero => intro _; rfl
    | succ n ih =>
      intro hn
      exact (s2end_loc _ j (fun z => absurd (show v = n from z.2) (by omega))).trans (ih (by omega))
  have k4 : ∀ (x : Mm) (n : Nat), (n : Int) ≤ w (t, 8, 0) 1 → s0b4 x t n (t, v, q) j = x (t, v, q) j := by
    intro x n
    induction n with
    | zero => intro _; rfl
    | succ n ih =>
      intro hn
      exact (s2edb_loc _ j (fun z => absurd (show v = n from z.2) (by omega))).trans (ih (by omega))
  unfold s0beat
  rw [st1_k (by simp; omega)]
  unfold s0w4 s0w3 s0w2 s0w1
  rw [k4 _ _ (by omega), k3 _ _ (by omega), k2 _ _ (by omega), k1 _ (by omega)]
theorem rbeg_hi {w : Mm} {u n v : Nat} (hu : u ≠ 3) (hv : v ≠ n) (hq : 0 ≤ w (u, 0, 4) n ∧ w (u, 0, 4) n ≤ 5) : rbeg w u n (u, 0, 3) v = w (u, 0, 3) v ∧ DR (rbeg w u n) u v = DR w u v := by
  unfold rbeg
  split
  · obtain ⟨g1, g2, g3, g4, g5, g6, g7⟩ := rset_facts (w := w) (u := u) (n := n)
    refine ⟨by rw [rsnd_off (by decide) (by decide)]; exact (g1 v hv).2.2, DR_cg ?_ (fun j hj => ?_) (fun j hj => ?_) ?_⟩
    · rw [rsnd_off (by decide) (by decide)]; exact (g1 v hv).1
    · rw [rsnd_off (by decide) (by decide), g5, if_neg (by omega)]
    · rw [rsnd_off (by decide) (by decide)]; exact g7 6 _ (by decide) (by decide) (by decide) (by decide) (by decide)
    · rw [rsnd_off (by decide) (by decide)]; exact g7 7 _ (by decide) (by decide) (by decide) (by decide) (by decide)
  · exact ⟨rfl, rfl⟩
theorem beat_hi {wc wr : Mm} {t u : Nat} {N D N' D' X' : Int} {X : Nat → Int} (hu : u ≠ 3) (hL : LI wc t N D X) (hR : SI wr u N' D' X') (hM : MI wr) (hT : TT wc wr t u) {v : Nat} (h8 : v < 8) (hv : wc (t, 8, 0) 1 ≤ (v : Int)) : rbeat wr u (u, 0, 3) v = wr (u, 0, 3) v ∧ DR (rbeat wr u) u v = DR wr u v := by
  have hV := hL.1
  have h896 := size_896 hR.2.2.1.1 hV.1 hV.2 hT.2.1 hT.2.2
  obtain ⟨a1, a2, a3⟩ := b1_sim hu hL hR hM hT.1 hT.2.1 hT.2.2 (wc (t, 8, 0) 1).toNat (by omega)
  obtain ⟨l1, l2⟩ := LI_b1 hL (wc (t, 8, 0) 1).toNat (by omega)
  have eV := l2 1 (by decide)
  obtain ⟨q1, q2, -⟩ := SI_beat (fun q => hu q.symm) hR hM h896
  have eVr : (wr (3, 0, 0) 1).toNat = (wc (t, 8, 0) 1).toNat := by rw [hT.1.1]
  have e1 : rb1 wr u (wc (t, 8, 0) 1).toNat = rv1 wr u := by unfold rv1; rw [eVr]
  have k1 : ∀ n : Nat, (n : Int) ≤ wc (t, 8, 0) 1 → rb1 wr u n (u, 0, 3) v = wr (u, 0, 3) v ∧ DR (rb1 wr u n) u v = DR wr u v := by
    intro n
    induction n with
    | zero => intro _; exact ⟨rfl, rfl⟩
    | succ n ih =>
      intro hn
      obtain ⟨i1, i2⟩ := ih (by omega)
      have r1 := (SI_b1 (fun q => hu q.symm) hR hM h896 n (by omega)).1
      obtain ⟨g1, g2⟩ := rbeg_hi (w := rb1 wr u n) (u := u) (n := n) (v := v) hu (by omega) (r1.2.2.2.2.2.1 n (by omega))
      exact ⟨g1.trans i1, g2.trans i2⟩
  rw [e1] at a1 a2
  obtain ⟨b1, b2, b3⟩ := b2_sim hu l1 a1 a2 (by rw [eV]; exact a3) (wc (t, 8, 0) 1).toNat (by rw [eV]; omega)
  obtain ⟨m1, m2⟩ := LI_b2 l1 (wc (t, 8, 0) 1).toNat (by omega)
  have e2 : rb2 (rv1 wr u) u (wc (t, 8, 0) 1).toNat = rv2 wr u := by unfold rv2; rw [eVr]
  rw [e2] at b1 b2
  have eV2 : s0b2 (s0b1 wc t (wc (t, 8, 0) 1).toNat) t (wc (t, 8, 0) 1).toNat (t, 8, 0) 1 = wc (t, 8, 0) 1 := (m2 1).trans eV
  rw [eV] at b3
  have f1 : rv1 wr u (u, 0, 3) v = wr (u, 0, 3) v ∧ DR (rv1 wr u) u v = DR wr u v := by rw [← e1]; exact k1 _ (by omega)
  have o2 : ∀ k j, k ≠ (u, 0, 12) → rv2 wr u k j = rv1 wr u k j := fun k j hk => rb2_off hk _
  have f2 : rv2 wr u (u, 0, 3) v = wr (u, 0, 3) v ∧ DR (rv2 wr u) u v = DR wr u v := ⟨(o2 _ _ (by simp)).trans f1.1, (DR_cg (o2 _ _ (by simp)) (fun j _ => o2 _ _ (by simp)) (fun j _ => o2 _ _ (by simp)) (o2 _ _ (by simp))).trans f1.2⟩
  have hS0 := q2.2.2.1
  have hmem : ∀ j : Nat, (j : Int) < rv2 wr u (u, 0, 0) 2 → (0 ≤ rv2 wr u (u, 0, 8) j ∧ rv2 wr u (u, 0, 8) j < (((wc (t, 8, 0) 1).toNat : Nat) : Int)) := fun j hj => by
    have := b2.2.2.1 j hj
    rw [eV2] at this
    omega
  have hwr : ∀ j : Nat, (j : Int) < rv2 wr u (u, 0, 0) 2 → (0 ≤ rv2 wr u (u, 0, 8) j ∧ rv2 wr u (u, 0, 8) j < (((wc (t, 8, 0) 1).toNat : Nat) : Int)) ∧ rv2 wr u (u, 0, 0) 0 ≤ rv2 wr u (u, 0, 11) j ∧ (rv2 wr u (u, 0, 12) j = 0 ∨ rv2 wr u (u, 0, 12) j = 1) := by
    intro j hj
    have hj8 := hmem j hj
    have hm : sdR (rv2 wr u) u j ∈ SLR (rv2 wr u) u (rv2 wr u (u, 0, 8) j).toNat := by
      have aux : ∀ m, j < m → sdR (rv2 wr u) u j ∈ slR (rv2 wr u) u (rv2 wr u (u, 0, 8) j).toNat m := by
        intro m
        induction m with
        | zero => intro h; omega
        | succ m im =>
          intro h
          simp only [slR]
          by_cases c : j < m
          · split
            · exact List.mem_append.mpr (Or.inl (im c))
            · exact im c
          · have e : j = m := by omega
            subst e
            rw [if_pos (by omega)]
            exact List.mem_append.mpr (Or.inr (List.mem_singleton.mpr rfl))
      exact aux _ (by omega)
    have hv0 : ((rv2 wr u (u, 0, 8) j).toNat : Int) < wc (t, 8, 0) 1 := by omega
    rw [← (b2.2.2.2 _ (by rw [eV2]; exact hv0)).2.2.2.2] at hm
    have h9 := (b3 _ hv0).2.2.1 _ hm
    rw [← b2.1]
    exact ⟨hj8, h9.2.1, h9.2.2⟩
  obtain ⟨k3, -⟩ := rb3_sim (w := rv2 wr u) (u := u) (V := (wc (t, 8, 0) 1).toNat) (b := rv2 wr u (u, 0, 0) 0) q2 rfl (by omega) hwr (rv2 wr u (u, 0, 0) 2).toNat (by omega)
  have f3 : (rv3 wr u).1 (u, 0, 3) v = wr (u, 0, 3) v ∧ DR (rv3 wr u).1 u v = DR wr u v := by
    refine ⟨(rb3_off (by decide) (by decide) _).trans f2.1, ?_⟩
    have h := k3 v h8
    rw [slR_nil _ (fun j hj => by have := hmem j (by omega); omega)] at h
    exact h.trans f2.2
  unfold rbeat rv4 rv3b
  rw [eVr]
  obtain ⟨p1, p2⟩ := rb4_ge (w := st1 (rv3 wr u).1 (u, 0, 0) 2 (((rv3 wr u).2.2 : Nat) : Int)) (u := u) (v := v) (wc (t, 8, 0) 1).toNat (by omega)
  refine ⟨?_, ?_⟩
  · rw [st1_k (by simp), p2, st1_k (by simp)]
    exact f3.1
  · have o4 : ∀ q j, q ≠ 0 → q ≠ 2 → q ≠ 3 → st1 (rb4 (st1 (rv3 wr u).1 (u, 0, 0) 2 (((rv3 wr u).2.2 : Nat) : Int)) u (wc (t, 8, 0) 1).toNat) (u, 0, 0) 0 (rb4 (st1 (rv3 wr u).1 (u, 0, 0) 2 (((rv3 wr u).2.2 : Nat) : Int)) u (wc (t, 8, 0) 1).toNat (u, 0, 0) 0 + 1) (u, 0, q) j = (rv3 wr u).1 (u, 0, q) j := fun q j a b c => by
      rw [st1_k (by simp [a]), rb4_off (by simp [b]) (by simp [c]), st1_k (by simp [a])]
    rw [DR_cg (x := (rv3 wr u).1) (u := u) (o4 4 v (by decide) (by decide) (by decide)) (fun j _ => o4 5 _ (by decide) (by decide) (by decide)) (fun j _ => o4 6 _ (by decide) (by decide) (by decide)) (o4 7 v (by decide) (by decide) (by decide))]
    exact f3.2
theorem go_UU : ∀ (n : Nat) {wc wr : Mm} {N D N' D' X' : Int} {X : Nat → Int}, LI wc 0 N D X → SI wr 4 N' D' X' → MI wr → TT wc wr 0 4 → UU wc wr → UU (s0go 0 n wc).1 (rgo wr 4 n)
  | 0, _, _, _, _, _, _, _, _, _, _, _, _, hU => hU
  | n + 1, wc, wr, N, D, N', D', X', X, hL, hR, hM, hT, hU => by
    have h896 := size_896 hR.2.2.1.1 hL.1.1 hL.1.2 hT.2.1 hT.2.2
    obtain ⟨b1, b2, b3, b4⟩ := beat_sim (by decide) hL hR hM hT.1 hT.2.1 hT.2.2
    have hR2 := (SI_beat (by decide) hR hM h896).2.2.2.2.2
    have hsl := rbeat_sl (by decide) hR hM h896
    have eV : s0beat wc 0 (0, 8, 0) 1 = wc (0, 8, 0) 1 := b1.1.trans ((hsl _ _ (by decide)).trans hT.V.symm)
    have hU2 : UU (s0beat wc 0) (rbeat wr 4) := by
      intro v h8 hv
      rw [eV] at hv
      obtain ⟨u1, u2, u3, u4, u5, u6, u7, u8, u9, u10⟩ := hU v h8 hv
      obtain ⟨g1, g2⟩ := beat_hi (by decide) hL hR hM hT h8 hv
      have hk : ∀ q j, s0beat wc 0 (0, v, q) j = wc (0, v, q) j := fun q j => s0beat_hi hL h8 hv
      have h3 : ∀ q j, rbeat wr 4 (3, 0, q) j = wr (3, 0, q) j := fun q j => hsl _ _ (show (3 : Nat) ≠ 4 by decide)
      refine ⟨by rw [hk, h3]; exact u1, by rw [hk, h3]; exact u2, by rw [hk]; exact u3, by rw [hk]; exact u4, by rw [hk]; exact u5, g1.trans u6, ?_, by rw [hk]; exact u8, fun p hp => by rw [hk]; exact u9 p hp, by rw [hk]; exact u10⟩
      rw [g2, ← u7]
      exact DC_cg (hk _ _) (fun j _ => hk _ _) (fun j _ => hk _ _) (hk _ _)
    rw [go_cons hL, rgo_cons n]
    exact go_UU n (LI_beat hL).1 hR2 (hM.sl hsl (by decide)) ⟨b1, b2, by rw [eV]; exact b3⟩ hU2
theorem Bu_0 {w : Mm} {t v : Nat} {T : Int} : 0 ≤ Bu w t v T := by
  unfold Bu
  split
  · have := hT_0 (w (t, 8, 0) 5) T
    omega
  · have := hT_0 (w (t, 8, 0) 5 + w (t, v, 0) 7 - w (t, 8, 2) (w (t, v, 0) 6).toNat) T
    split <;> omega
theorem SB_0 {w : Mm} {t v : Nat} {T : Int} : ∀ n : Nat, 0 ≤ sumI (fun x => if x = v then 0 else Bu w t x T) n
  | 0 => Int.le_refl 0
  | n + 1 => by
    have ih := SB_0 (w := w) (t := t) (v := v) (T := T) n
    have h := Bu_0 (w := w) (t := t) (v := n) (T := T)
    simp only [sumI]
    split <;> omega
theorem found_sim {wc wr : Mm} {x y d : Int} (hV0 : 0 ≤ wc (0, 8, 0) 1) (hV : wc (0, 8, 0) 1 < 8) (hT : TT wc wr 0 4) (hU : UU wc wr) : TT (s0addV wc 0 x y d) (rfnd wr x y d) 0 4 ∧ UU (s0addV wc 0 x y d) (rfnd wr x y d) := by
  obtain ⟨⟨s1, s2, s3, s4⟩, ⟨d1, d2, d3, d4⟩, hI⟩ := hT
  obtain ⟨n, hn⟩ : ∃ n : Nat, wc (0, 8, 0) 1 = (n : Int) := ⟨(wc (0, 8, 0) 1).toNat, by omega⟩
  have hn8 : n < 8 := by omega
  have hnr : wr (3, 0, 0) 1 = (n : Int) := by omega
  have e0 : (wc (0, 8, 0) 1).toNat = n := by omega
  have e0r : (wr (3, 0, 0) 1).toNat = n := by omega
  have n8 : ¬ n = 8 := by omega
  have n8' : ¬ 8 = n := by omega
  have eA : s0addV wc 0 x y d = st1 (st1 (st1 (st1 wc (0, n, 0) 0 x) (0, n, 0) 1 y) (0, n, 0) 2 d) (0, 8, 0) 1 (wc (0, 8, 0) 1 + 1) := by
    unfold s0addV
    rw [if_pos hV, e0]
  have eR : rfnd wr x y d = st1 (st1 (st1 (st1 (st1 (st1 (th0 wr) (3, 0, 1) n x) (3, 0, 2) n y) (3, 0, 5) n 24) (4, 0, 1) n d) (4, 0, 2) n (-1)) (3, 0, 0) 1 (wr (3, 0, 0) 1 + 1) := by
    unfold rfnd
    rw [e0r]
  rw [eA, eR]
  generalize hA : st1 (st1 (st1 (st1 wc (0, n, 0) 0 x) (0, n, 0) 1 y) (0, n, 0) 2 d) (0, 8, 0) 1 (wc (0, 8, 0) 1 + 1) = A
  generalize hB : st1 (st1 (st1 (st1 (st1 (st1 (th0 wr) (3, 0, 1) n x) (3, 0, 2) n y) (3, 0, 5) n 24) (4, 0, 1) n d) (4, 0, 2) n (-1)) (3, 0, 0) 1 (wr (3, 0, 0) 1 + 1) = B
  have c1 : A (0, 8, 0) 1 = wc (0, 8, 0) 1 + 1 := by rw [← hA]; exact st1_eq _ _ _ _
  have c8 : ∀ q j, ¬ (q = 0 ∧ j = 1) → A (0, 8, q) j = wc (0, 8, q) j := fun q j h => by
    rw [← hA]
    by_cases e : q = 0
    · subst e
      have hj : j ≠ 1 := fun e => h ⟨rfl, e⟩
      simp [st1, n8', hj]
    · simp [st1, e]
  have cq : ∀ v q j, v ≠ 8 → q ≠ 0 → A (0, v, q) j = wc (0, v, q) j := fun v q j h8 hq => by rw [← hA]; simp [st1, hq]
  have cv : ∀ v j, v ≠ 8 → v ≠ n → A (0, v, 0) j = wc (0, v, 0) j := fun v j h8 hvn => by rw [← hA]; simp [st1, h8, hvn]
  have cn : ∀ j, j ≠ 0 → j ≠ 1 → j ≠ 2 → A (0, n, 0) j = wc (0, n, 0) j := fun j h0 h1 h2 => by rw [← hA]; simp [st1, n8, h0, h1, h2]
  have cn0 : A (0, n, 0) 0 = x := by rw [← hA]; simp [st1, n8]
  have cn1 : A (0, n, 0) 1 = y := by rw [← hA]; simp [st1, n8]
  have cn2 : A (0, n, 0) 2 = d := by rw [← hA]; simp [st1, n8]
  have k1 : B (3, 0, 0) 1 = wr (3, 0, 0) 1 + 1 := by rw [← hB]; exact st1_eq _ _ _ _
  have k2 : B (3, 0, 0) 2 = wr (3, 0, 0) 2 := by rw [← hB]; simp [st1, th0]
  have k3 : ∀ q j, q ≠ 0 → ¬ (j = n ∧ (q = 1 ∨ q = 2 ∨ q = 5)) → B (3, 0, q) j = wr (3, 0, q) j := fun q j hq h => by
    rw [← hB]
    by_cases e : j = n
    · have h1 : q ≠ 1 := fun z => h ⟨e, Or.inl z⟩
      have h2 : q ≠ 2 := fun z => h ⟨e, Or.inr (Or.inl z)⟩
      have h5 : q ≠ 5 := fun z => h ⟨e, Or.inr (Or.inr z)⟩
      simp [st1, th0, hq, h1, h2, h5]
    · simp [st1, th0, hq, e]
  have k31 : B (3, 0, 1) n = x := by rw [← hB]; simp [st1, th0]
  have k32 : B (3, 0, 2) n = y := by rw [← hB]; simp [st1, th0]
  have k35 : B (3, 0, 5) n = 24 := by rw [← hB]; simp [st1, th0]
  have k4 : ∀ q j, ¬ (j = n ∧ (q = 1 ∨ q = 2)) → B (4, 0, q) j = wr (4, 0, q) j := fun q j h => by
    rw [← hB]
    by_cases e : j = n
    · have h1 : q ≠ 1 := fun z => h ⟨e, Or.inl z⟩
      have h2 : q ≠ 2 := fun z => h ⟨e, Or.inr z⟩
      simp [st1, th0, h1, h2]
    · simp [st1, th0, e]
  have k41 : B (4, 0, 1) n = d := by rw [← hB]; simp [st1, th0]
  have k42 : B (4, 0, 2) n = -1 := by rw [← hB]; simp [st1, th0]
  have k4o : ∀ q j, q ≠ 1 → q ≠ 2 → B (4, 0, q) j = wr (4, 0, q) j := fun q j h1 h2 => k4 q j (fun z => z.2.elim h1 h2)
  obtain ⟨u1, u2, u3, u4, u5, u6, u7, u8, u9, u10⟩ := hU n hn8 (by omega)
  have eS : ∀ v : Nat, v < 8 → SLC A 0 v = SLC wc 0 v := fun v h8 => SLC_cg (cq v 3 4 (by omega) (by decide)) (fun j _ => by unfold sdC; rw [cq v 4 j (by omega) (by decide), cq v 5 j (by omega) (by decide), cq v 6 j (by omega) (by decide), cq v 7 j (by omega) (by decide)])
  have eSR : ∀ v, SLR B 4 v = SLR wr 4 v := fun v => by
    unfold SLR
    rw [k4o 0 2 (by decide) (by decide)]
    exact slR_cg _ (fun j _ => k4o 8 j (by decide) (by decide)) (fun j _ _ => by unfold sdR; rw [k4o 9 j (by decide) (by decide), k4o 10 j (by decide) (by decide), k4o 11 j (by decide) (by decide), k4o 12 j (by decide) (by decide)])
  have eDR : ∀ v, DR B 4 v = DR wr 4 v := fun v => DR_cg (k4o 4 v (by decide) (by decide)) (fun j _ => k4o 5 _ (by decide) (by decide)) (fun j _ => k4o 6 _ (by decide) (by decide)) (k4o 7 v (by decide) (by decide))
  have c9 : ∀ v j, v ≠ 8 → j ≠ 0 → j ≠ 1 → j ≠ 2 → A (0, v, 0) j = wc (0, v, 0) j := fun v j h8 a b c => by
    by_cases e : v = n
    · subst e
      exact cn j a b c
    · exact cv v j h8 e
  have eDC : ∀ v, v ≠ 8 → DC A 0 v = DC wc 0 v := fun v h8 => DC_cg (c9 v 9 h8 (by decide) (by decide) (by decide)) (fun j _ => cq v 1 j h8 (by decide)) (fun j _ => cq v 2 j h8 (by decide)) (c9 v 12 h8 (by decide) (by decide) (by decide))
  have hsn : SLC wc 0 n = [] := by
    unfold SLC
    rw [u10]
    rfl
  have hsr : SLR wr 4 n = [] := slR_nil _ (fun j hj => by have := d3 j (by omega); omega)
  refine ⟨⟨⟨by rw [c1, k1, s1], by rw [c8 0 4 (by decide), k2]; exact s2, fun p hp => ?_, fun v hv => ?_⟩, ⟨by rw [c8 0 5 (by decide), k4o 0 0 (by decide) (by decide)]; exact d1, by rw [c8 0 6 (by decide), k4o 0 1 (by decide) (by decide)]; exact d2, fun j hj => ?_, fun v hv => ?_⟩, fun v hv => ?_⟩, fun v h8 hv => ?_⟩
  · rw [c8 0 4 (by decide)] at hp
    rw [c8 2 p (by omega), k3 7 p (by decide) (by omega)]
    exact s3 p hp
  · rw [c1] at hv
    by_cases e : v = n
    · subst e
      rw [cn0, cn1, cn 3 (by decide) (by decide) (by decide), cn 4 (by decide) (by decide) (by decide), cn 5 (by decide) (by decide) (by decide), k31, k32, k35, k3 3 v (by decide) (by omega), k3 4 v (by decide) (by omega)]
      exact ⟨rfl, rfl, u1, u2, u3⟩
    · have h8 : v ≠ 8 := by omega
      rw [cv v 0 h8 e, cv v 1 h8 e, cv v 3 h8 e, cv v 4 h8 e, cv v 5 h8 e, k3 1 v (by decide) (by omega), k3 2 v (by decide) (by omega), k3 3 v (by decide) (by omega), k3 4 v (by decide) (by omega), k3 5 v (by decide) (by omega)]
      exact s4 v (by omega)
  · rw [k4o 0 2 (by decide) (by decide)] at hj
    rw [c1, k4o 8 j (by decide) (by decide)]
    have := d3 j hj
    omega
  · rw [c1] at hv
    have h8 : v ≠ 8 := by omega
    by_cases e : v = n
    · subst e
      refine ⟨by rw [cn2, k41], by rw [cn 6 (by decide) (by decide) (by decide), k42]; exact u4, by rw [cn 7 (by decide) (by decide) (by decide), k4o 3 v (by decide) (by decide), u5, u6], by rw [eDC v h8, eDR]; exact u7, by rw [eS v (by omega), eSR, hsn, hsr]⟩
    · obtain ⟨y1, y2, y3, y4, y5⟩ := d4 v (by omega)
      exact ⟨by rw [cv v 2 h8 e, k4 1 v (by omega)]; exact y1, by rw [cv v 6 h8 e, k4 2 v (by omega)]; exact y2, by rw [cv v 7 h8 e, k4o 3 v (by decide) (by decide)]; exact y3, by rw [eDC v h8, eDR]; exact y4, by rw [eS v (by omega), eSR]; exact y5⟩
  · rw [c1] at hv
    have h8 : v ≠ 8 := by omega
    by_cases e : v = n
    · subst e
      refine ⟨Or.inl ⟨by rw [cn 6 (by decide) (by decide) (by decide)]; exact u4, by rw [cn 7 (by decide) (by decide) (by decide)]; exact u5⟩, fun j hj => ?_, fun s hs => ?_, fun p hp1 _ => ?_, fun T _ => ?_⟩
      · rw [cn 9 (by decide) (by decide) (by decide), u8] at hj
        omega
      · rw [eS v (by omega), hsn] at hs
        exact absurd hs List.not_mem_nil
      · rw [cq v 2 p h8 (by decide)]
        exact u9 p hp1
      · rw [eS v (by omega), hsn]
        exact SB_0 _
    · obtain ⟨j1, j2, j3, j4, j5⟩ := hI v (by omega)
      have e4 : A (0, 8, 0) 4 = wc (0, 8, 0) 4 := c8 0 4 (by decide)
      have e5 : A (0, 8, 0) 5 = wc (0, 8, 0) 5 := c8 0 5 (by decide)
      have hBu : ∀ z, z ≠ 8 → ∀ T, Bu A 0 z T = Bu wc 0 z T := fun z hz T => by
        unfold Bu
        rw [c9 z 6 hz (by decide) (by decide) (by decide), c9 z 7 hz (by decide) (by decide) (by decide), e5, c8 2 _ (by omega)]
      refine ⟨?_, fun j hj => ?_, fun s hs => ?_, fun p hp1 hp2 => ?_, fun T hT => ?_⟩
      · rw [cv v 6 h8 e, cv v 7 h8 e, e4, c8 2 _ (by omega)]
        exact j1
      · rw [cv v 9 h8 e] at hj
        rw [cq v 1 j h8 (by decide), e4]
        exact j2 j hj
      · rw [eS v (by omega)] at hs
        rw [e4, e5]
        exact j3 s hs
      · rw [e4] at hp2
        rw [cq v 2 p h8 (by decide)]
        exact j4 p hp1 hp2
      · rw [e5] at hT
        rw [eS v (by omega)]
        refine Int.le_trans (j5 T hT) ?_
        unfold SB
        rw [c1, hn, show ((n : Int) + 1).toNat = n + 1 by omega, Int.toNat_natCast]
        simp only [sumI]
        rw [if_neg (show ¬ n = v from fun q => e q.symm), hBu n (by omega)]
        have hb := Bu_0 (w := wc) (t := 0) (v := n) (T := T)
        have hsame : sumI (fun z => if z = v then 0 else Bu A 0 z T) n = sumI (fun z => if z = v then 0 else Bu wc 0 z T) n := sumI_cg _ (fun z hz => by
          by_cases e2 : z = v
          · rw [if_pos e2, if_pos e2]
          · rw [if_neg e2, if_neg e2, hBu z (by omega)])
        omega
  · rw [c1] at hv
    have h8' : v ≠ 8 := by omega
    have e : v ≠ n := by omega
    obtain ⟨w1, w2, w3, w4, w5, w6, w7, w8, w9, w10⟩ := hU v h8 (by omega)
    exact ⟨by rw [cv v 3 h8' e, k3 3 v (by decide) (by omega)]; exact w1, by rw [cv v 4 h8' e, k3 4 v (by decide) (by omega)]; exact w2, by rw [cv v 5 h8' e]; exact w3, by rw [cv v 6 h8' e]; exact w4, by rw [cv v 7 h8' e]; exact w5, by rw [k4o 3 v (by decide) (by decide)]; exact w6, by rw [eDC v h8', eDR]; exact w7, by rw [cv v 9 h8' e]; exact w8, fun p hp => by rw [cq v 2 p h8' (by decide)]; exact w9 p hp, by rw [cq v 3 4 h8' (by decide)]; exact w10⟩
