/-! the tie: a whole beat -/
theorem size_896 {wc wr : Mm} {t u : Nat} (h0 : 0 ≤ wr (u, 0, 0) 2) (hV1 : 0 ≤ wc (t, 8, 0) 1) (hV : wc (t, 8, 0) 1 ≤ 8) (hd : RD wc wr t u) (hv : ∀ v : Nat, (v : Int) < wc (t, 8, 0) 1 → VI wc t v) : wr (u, 0, 0) 2 ≤ 896 := by
  obtain ⟨-, -, d3, d4⟩ := hd
  have h := slR_sum (w := wr) (u := u) (V := (wc (t, 8, 0) 1).toNat) (wr (u, 0, 0) 2).toNat (fun j hj => by have := d3 j (by omega); omega)
  have h2 := sumI_kn (f := fun v => ((slR wr u v (wr (u, 0, 0) 2).toNat).length : Int)) (b := 112) (wc (t, 8, 0) 1).toNat (fun v hv1 => by
    have h9 := (VI_size (n := v) hV (show (v : Int) < wc (t, 8, 0) 1 by omega) hv).1
    rw [(d4 v (by omega)).2.2.2.2] at h9
    exact ⟨by omega, h9⟩)
  omega
theorem b1_sim {wc wr : Mm} {t u : Nat} {N D N' D' X' : Int} {X : Nat → Int} (hu : u ≠ 3) (hL : LI wc t N D X) (hR : SI wr u N' D' X') (hM : MI wr) (hs : RS wc wr t) (hd : RD wc wr t u) (hv : ∀ v : Nat, (v : Int) < wc (t, 8, 0) 1 → VI wc t v) : ∀ n : Nat, (n : Int) ≤ wc (t, 8, 0) 1 → RS (s0b1 wc t n) (rb1 wr u n) t ∧ RD (s0b1 wc t n) (rb1 wr u n) t u ∧ ∀ v : Nat, (v : Int) < wc (t, 8, 0) 1 → VI (s0b1 wc t n) t v
  | 0, _ => ⟨hs, hd, hv⟩
  | n + 1, hn => by
    obtain ⟨i1, i2, i3⟩ := b1_sim hu hL hR hM hs hd hv n (by omega)
    have hV := hL.1
    obtain ⟨l1, l2⟩ := LI_b1 hL n (by omega)
    have h896 := size_896 hR.2.2.1.1 hV.1 hV.2 hd hv
    obtain ⟨r1, -⟩ := SI_b1 (fun q => hu q.symm) hR hM h896 n (by omega)
    have eV := l2 1 (by decide)
    have g := begin_sim hu l1 r1 i1 i2 (by rw [eV]; exact i3) (n := n) (by rw [eV]; omega)
    rw [eV] at g
    exact g
/-! drowning, on both sides -/
theorem cnt_map {p : Sd → Bool} {g : Sd → Sd} {l : List Sd} (h : ∀ s, p (g s) = p s) : cnt p (l.map g) = cnt p l := by
  unfold cnt
  rw [List.filter_map, List.length_map]
  congr 2
  funext s
  exact h s
theorem dwn_1 {b : Int} {s : Sd} : (dwn b s).1 = s.1 ∧ (dwn b s).2.1 = s.2.1 ∧ (dwn b s).2.2.1 = s.2.2.1 ∧ ((dwn b s).2.2.2 = s.2.2.2 ∨ (dwn b s).2.2.2 = 1) := by
  unfold dwn
  split
  · exact ⟨rfl, rfl, rfl, Or.inr rfl⟩
  · exact ⟨rfl, rfl, rfl, Or.inl rfl⟩
theorem drown_sim {wc wr : Mm} {t u n : Nat} {N D : Int} {X : Nat → Int} (hu : u ≠ 3) (hL : LI wc t N D X) (hs : RS wc wr t) (hd : RD wc wr t u) (hv : ∀ v : Nat, (v : Int) < wc (t, 8, 0) 1 → VI wc t v) (hn : (n : Int) < wc (t, 8, 0) 1) :
    RS (s2dr wc t n (wc (t, 8, 0) 5)) (if rawk wr u n ∧ wr (u, 0, 2) n = -1 ∧ rlast wr u n (wr (u, 0, 0) 2).toNat < 2 then wr else rmark wr u n (wr (u, 0, 0) 2).toNat) t ∧ RD (s2dr wc t n (wc (t, 8, 0) 5)) (if rawk wr u n ∧ wr (u, 0, 2) n = -1 ∧ rlast wr u n (wr (u, 0, 0) 2).toNat < 2 then wr else rmark wr u n (wr (u, 0, 0) 2).toNat) t u ∧ ∀ v : Nat, (v : Int) < wc (t, 8, 0) 1 → VI (s2dr wc t n (wc (t, 8, 0) 5)) t v := by
  have hV := hL.1
  have hn7 : n ≤ 7 := by omega
  obtain ⟨s1, s2, s3, s4⟩ := hs
  obtain ⟨d1, d2, d3, d4⟩ := hd
  obtain ⟨r1, r2, r3, r4, r5⟩ := d4 n hn
  obtain ⟨z1, z2, z3, z4, z5⟩ := s4 n hn
  have b4 := (hL.v hn7).2.2.2.1
  have ha : awk wc t n (wc (t, 8, 0) 5) ↔ rawk wr u n := by
    unfold awk rawk
    rw [← z4, ← z5, ← d1]
    exact awk_eq b4
  have hlast : s1last wc t n (wc (t, 8, 0) 5) (wc (t, n, 3) 4).toNat = rlast wr u (n : Int) (wr (u, 0, 0) 2).toNat := by
    rw [s1last_cnt, rlast_cnt]
    show cnt _ (SLC wc t n) = cnt _ (SLR wr u n)
    rw [← r5, ← d1]
    refine cnt_cg (fun s hs => ?_)
    have h9 := ((hv n hn).2.2.1 s hs).2.1
    by_cases c : s.2.1 ≤ wc (t, 8, 0) 5
    · rw [decide_eq_true c, decide_eq_true (show s.2.1 ≤ wc (t, 8, 0) 5 ∧ wc (t, 8, 0) 5 ≤ s.2.2.1 from ⟨c, h9⟩)]
    · rw [decide_eq_false c, decide_eq_false (fun q => c q.1)]
  unfold s2dr
  by_cases c : awk wc t n (wc (t, 8, 0) 5) ∧ wc (t, n, 0) 6 = -1 ∧ s1last wc t n (wc (t, 8, 0) 5) (wc (t, n, 3) 4).toNat < 2
  · rw [if_pos c, if_pos (show rawk wr u n ∧ wr (u, 0, 2) n = -1 ∧ rlast wr u n (wr (u, 0, 0) 2).toNat < 2 from ⟨ha.mp c.1, by rw [← r2]; exact c.2.1, by rw [← hlast]; exact c.2.2⟩)]
    exact ⟨⟨s1, s2, s3, s4⟩, ⟨d1, d2, d3, d4⟩, hv⟩
  · rw [if_neg c, if_neg (show ¬ (rawk wr u n ∧ wr (u, 0, 2) n = -1 ∧ rlast wr u n (wr (u, 0, 0) 2).toNat < 2) from fun q => c ⟨ha.mpr q.1, by rw [r2]; exact q.2.1, by rw [hlast]; exact q.2.2⟩)]
    have eC : ∀ k j, k ≠ (t, n, 7) → s1drown wc t n (wc (t, 8, 0) 5) (wc (t, n, 3) 4).toNat k j = wc k j := fun k j hk => s1drown_off hk _
    have eR : ∀ k j, k ≠ (u, 0, 12) → rmark wr u (n : Int) (wr (u, 0, 0) 2).toNat k j = wr k j := fun k j hk => rmark_off hk _
    have c0 : ∀ x q j, q ≠ 7 → s1drown wc t n (wc (t, 8, 0) 5) (wc (t, n, 3) 4).toNat (t, x, q) j = wc (t, x, q) j := fun x q j hq => eC _ j (by simp [hq])
    have q0 : ∀ q j, q ≠ 12 → rmark wr u (n : Int) (wr (u, 0, 0) 2).toNat (u, 0, q) j = wr (u, 0, q) j := fun q j hq => eR _ j (by simp [hq])
    have q3 : ∀ q j, rmark wr u (n : Int) (wr (u, 0, 0) 2).toNat (3, 0, q) j = wr (3, 0, q) j := fun q j => eR _ j (by simp; intro h; exact absurd h.symm hu)
    have eSn : SLC (s1drown wc t n (wc (t, 8, 0) 5) (wc (t, n, 3) 4).toNat) t n = (SLC wc t n).map (dwn (wc (t, 8, 0) 5)) := by
      unfold SLC
      rw [c0 n 3 4 (by decide)]
      exact s1drown_sl _
    have eSv : ∀ v, v ≠ n → SLC (s1drown wc t n (wc (t, 8, 0) 5) (wc (t, n, 3) 4).toNat) t v = SLC wc t v := fun v hvn => SLC_cg (c0 v 3 4 (by decide)) (fun j _ => by
      unfold sdC
      rw [c0 v 4 j (by decide), c0 v 5 j (by decide), c0 v 6 j (by decide), eC (t, v, 7) j (by simp [hvn])])
    have eRn : SLR (rmark wr u (n : Int) (wr (u, 0, 0) 2).toNat) u n = (SLR wr u n).map (dwn (wr (u, 0, 0) 0)) := by
      unfold SLR
      rw [q0 0 2 (by decide)]
      exact rmark_sl _
    have eRv : ∀ v, v ≠ n → SLR (rmark wr u (n : Int) (wr (u, 0, 0) 2).toNat) u v = SLR wr u v := fun v hvn => by
      unfold SLR
      rw [q0 0 2 (by decide)]
      exact rmark_sl2 hvn _
    refine ⟨⟨?_, ?_, ?_, ?_⟩, ⟨?_, ?_, ?_, ?_⟩, ?_⟩
    · rw [c0 8 0 1 (by decide), q3]; exact s1
    · rw [c0 8 0 4 (by decide), q3]; exact s2
    · intro p hp
      rw [c0 8 0 4 (by decide)] at hp
      rw [c0 8 2 p (by decide), q3]
      exact s3 p hp
    · intro v hv1
      rw [c0 8 0 1 (by decide)] at hv1
      rw [c0 v 0 0 (by decide), c0 v 0 1 (by decide), c0 v 0 3 (by decide), c0 v 0 4 (by decide), c0 v 0 5 (by decide), q3, q3, q3, q3, q3]
      exact s4 v hv1
    · rw [c0 8 0 5 (by decide), q0 0 0 (by decide)]; exact d1
    · rw [c0 8 0 6 (by decide), q0 0 1 (by decide)]; exact d2
    · intro j hj
      rw [q0 0 2 (by decide)] at hj
      rw [c0 8 0 1 (by decide), q0 8 j (by decide)]
      exact d3 j hj
    · intro v hv1
      rw [c0 8 0 1 (by decide)] at hv1
      obtain ⟨y1, y2, y3, y4, y5⟩ := d4 v hv1
      refine ⟨by rw [c0 v 0 2 (by decide), q0 1 v (by decide)]; exact y1, by rw [c0 v 0 6 (by decide), q0 2 v (by decide)]; exact y2, by rw [c0 v 0 7 (by decide), q0 3 v (by decide)]; exact y3, ?_, ?_⟩
      · rw [DC_cg (x := wc) (t := t) (c0 v 0 9 (by decide)) (fun j _ => c0 v 1 j (by decide)) (fun j _ => c0 v 2 j (by decide)) (c0 v 0 12 (by decide)), DR_cg (x := wr) (u := u) (q0 4 v (by decide)) (fun j _ => q0 5 _ (by decide)) (fun j _ => q0 6 _ (by decide)) (q0 7 v (by decide))]
        exact y4
      · by_cases e : v = n
        · subst e
          rw [eSn, eRn, y5, d1]
        · rw [eSv v e, eRv v e, y5]
    · intro v hv1
      obtain ⟨j1, j2, j3, j4, j5⟩ := hv v hv1
      have hBu : ∀ x T, Bu (s1drown wc t n (wc (t, 8, 0) 5) (wc (t, n, 3) 4).toNat) t x T = Bu wc t x T := fun x T => by
        unfold Bu
        rw [c0 x 0 6 (by decide), c0 x 0 7 (by decide), c0 8 0 5 (by decide), c0 8 2 _ (by decide)]
      have hSB : ∀ T, SB (s1drown wc t n (wc (t, 8, 0) 5) (wc (t, n, 3) 4).toNat) t v T = SB wc t v T := fun T => by
        unfold SB
        rw [c0 8 0 1 (by decide)]
        exact sumI_cg _ (fun x _ => by rw [hBu])
      refine ⟨by rw [c0 v 0 6 (by decide), c0 v 0 7 (by decide), c0 8 0 4 (by decide), c0 8 2 _ (by decide)]; exact j1, fun j hj => ?_, fun s hs => ?_, fun p hp1 hp2 => ?_, fun T hT => ?_⟩
      · rw [c0 v 0 9 (by decide)] at hj
        rw [c0 v 1 j (by decide), c0 8 0 4 (by decide)]
        exact j2 j hj
      · rw [c0 8 0 4 (by decide), c0 8 0 5 (by decide)]
        by_cases e : v = n
        · subst e
          rw [eSn] at hs
          obtain ⟨s', hs', rfl⟩ := List.mem_map.mp hs
          obtain ⟨w1, w2, w3, w4⟩ := dwn_1 (b := wc (t, 8, 0) 5) (s := s')
          obtain ⟨h1, h2, h3⟩ := j3 s' hs'
          rw [w1, w3]
          refine ⟨h1, h2, ?_⟩
          rcases w4 with w4 | w4
          · rw [w4]; exact h3
          · exact Or.inr w4
        · rw [eSv v e] at hs
          exact j3 s hs
      · rw [c0 8 0 4 (by decide)] at hp2
        rw [c0 v 2 p (by decide)]
        exact j4 p hp1 hp2
      · rw [c0 8 0 5 (by decide)] at hT
        rw [hSB]
        have h9 := j5 T hT
        by_cases e : v = n
        · subst e
          rw [eSn]
          unfold nT at h9 ⊢
          rw [cnt_map (fun s => by rw [(dwn_1 (b := wc (t, 8, 0) 5) (s := s)).2.2.1])]
          exact h9
        · rw [eSv v e]
          exact h9
theorem b2_sim {wc wr : Mm} {t u : Nat} {N D : Int} {X : Nat → Int} (hu : u ≠ 3) (hL : LI wc t N D X) (hs : RS wc wr t) (hd : RD wc wr t u) (hv : ∀ v : Nat, (v : Int) < wc (t, 8, 0) 1 → VI wc t v) : ∀ n : Nat, (n : Int) ≤ wc (t, 8, 0) 1 → RS (s0b2 wc t n) (rb2 wr u n) t ∧ RD (s0b2 wc t n) (rb2 wr u n) t u ∧ ∀ v : Nat, (v : Int) < wc (t, 8, 0) 1 → VI (s0b2 wc t n) t v
  | 0, _ => ⟨hs, hd, hv⟩
  | n + 1, hn => by
    obtain ⟨i1, i2, i3⟩ := b2_sim hu hL hs hd hv n (by omega)
    have hV := hL.1
    obtain ⟨l1, l2⟩ := LI_b2 hL n (by omega)
    have eV := l2 1
    have g := drown_sim hu l1 i1 i2 (by rw [eV]; exact i3) (n := n) (by rw [eV]; omega)
    rw [eV] at g
    exact g
/-! what stands of a village's data through the end of a beat -/
def EI (P : Int) (D : Dt) : Prop := (0 ≤ D.1 ∧ D.1 ≤ 5) ∧ (∀ j : Nat, (j : Int) < D.1 → 0 ≤ D.2.1 j ∧ D.2.1 j < P) ∧ ∀ p : Nat, p < 12 → P ≤ (p : Int) → D.2.2.1 p = -1
theorem efE_EI {P b : Int} {e : Dt × Nat} {s : Sd} (h : EI P e.1) (hs : 0 ≤ s.1 ∧ s.1 < P) : EI P (efE b e s).1 := by
  obtain ⟨h1, h2, h3⟩ := h
  have hk : ∀ p : Nat, p < 12 → P ≤ (p : Int) → up e.1.2.2.1 s.1.toNat b p = -1 := fun p q1 q2 => by
    unfold up
    rw [if_neg (by omega)]
    exact h3 p q1 q2
  unfold efE
  split
  · split
    · split
      · split
        · refine ⟨⟨by show 0 ≤ e.1.1 + 1; omega, by show e.1.1 + 1 ≤ 5; omega⟩, fun j hj => ?_, hk⟩
          have hj' : (j : Int) < e.1.1 + 1 := hj
          show 0 ≤ up e.1.2.1 e.1.1.toNat s.1 j ∧ up e.1.2.1 e.1.1.toNat s.1 j < P
          unfold up
          by_cases c : j = e.1.1.toNat
          · rw [if_pos c]; exact hs
          · rw [if_neg c]; exact h2 j (by omega)
        · exact ⟨h1, h2, hk⟩
      · exact ⟨h1, h2, h3⟩
    · exact ⟨h1, h2, h3⟩
  · exact ⟨h1, h2, h3⟩
theorem fold_EI {P b : Int} : ∀ (l : List Sd) (e : Dt × Nat), EI P e.1 → (∀ s, s ∈ l → 0 ≤ s.1 ∧ s.1 < P) → EI P (l.foldl (efE b) e).1
  | [], _, h, _ => h
  | s :: l, e, h, hs => fold_EI l (efE b e s) (efE_EI h (hs s List.mem_cons_self)) (fun s' h' => hs s' (List.mem_cons_of_mem _ h'))
/-- the class' villages, one after another -/
theorem s0b3_sim {w : Mm} {t : Nat} {N D : Int} {X : Nat → Int} (hL : LI w t N D X) (hp : ∀ v : Nat, (v : Int) < w (t, 8, 0) 1 → ∀ s, s ∈ SLC w t v → 0 ≤ s.1 ∧ s.1 < 12) : ∀ n : Nat, (n : Int) ≤ w (t, 8, 0) 1 →
    (∀ v, v < n → DC (s0b3 w t n).1 t v = ((SLC w t v).foldl (efE (w (t, 8, 0) 5)) (DC w t v, 0)).1 ∧ SLC (s0b3 w t n).1 t v = (SLC w t v).filter (kp (w (t, 8, 0) 5)) ∧ ∀ j, j ≠ 9 → j ≠ 12 → (s0b3 w t n).1 (t, v, 0) j = w (t, v, 0) j) ∧ (∀ v p j, n ≤ v → (s0b3 w t n).1 (t, v, p) j = w (t, v, p) j) ∧ (s0b3 w t n).2 = sumI (fun v => ((((SLC w t v).foldl (efE (w (t, 8, 0) 5)) (DC w t v, 0)).2 : Nat) : Int)) n
  | 0, _ => ⟨fun v hv => absurd hv (Nat.not_lt_zero v), fun _ _ _ _ => rfl, rfl⟩
  | n + 1, hn => by
    obtain ⟨i1, i2, i3⟩ := s0b3_sim hL hp n (by omega)
    have hV := hL.1
    have e5 : (s0b3 w t n).1 (t, 8, 0) 5 = w (t, 8, 0) 5 := i2 8 0 5 (by omega)
    have ek : ∀ p j, (s0b3 w t n).1 (t, n, p) j = w (t, n, p) j := fun p j => i2 n p j (Nat.le_refl n)
    have eSn : ∀ m, slC (s0b3 w t n).1 t n m = slC w t n m := fun m => slC_cg m (fun j _ => by unfold sdC; rw [ek, ek, ek, ek])
    have eDn : DC (s0b3 w t n).1 t n = DC w t n := DC_cg (ek _ _) (fun j _ => ek _ _) (fun j _ => ek _ _) (ek _ _)
    have hLn := hL.v (v := n) (by omega)
    obtain ⟨k1, k2, k3, k4, k5⟩ := s2end_sim (w := (s0b3 w t n).1) (t := t) (v := n) (b := w (t, 8, 0) 5) (by rw [ek]; exact hLn.2.2.2.2.2.2.2.1) (fun j hj => by
      rw [ek] at hj
      rw [ek]
      have hm : sdC w t n j ∈ SLC w t n := by
        have aux : ∀ m, j < m → sdC w t n j ∈ slC w t n m := by
          intro m
          induction m with
          | zero => intro h; omega
          | succ m im =>
            intro h
            simp only [slC, List.mem_append, List.mem_singleton]
            by_cases c : j < m
            · exact Or.inl (im c)
            · exact Or.inr (by rw [show j = m by omega])
        exact aux _ (by omega)
      exact hp n (by omega) _ hm) ((s0b3 w t n).1 (t, n, 3) 4).toNat (by rw [ek]; have := hLn.2.2.2.2.2.2.2.2.2; omega)
    have hloc : ∀ k j, ¬ (k.1 = t ∧ k.2.1 = n) → s2end (s0b3 w t n).1 t n ((s0b3 w t n).1 (t, 8, 0) 5) k j = (s0b3 w t n).1 k j := fun k j hk => s2end_loc k j hk
    have eE : s2end (s0b3 w t n).1 t n (w (t, 8, 0) 5) = st1 (s2endL (s0b3 w t n).1 t n (w (t, 8, 0) 5) ((s0b3 w t n).1 (t, n, 3) 4).toNat).1 (t, n, 3) 4 (((s2endL (s0b3 w t n).1 t n (w (t, 8, 0) 5) ((s0b3 w t n).1 (t, n, 3) 4).toNat).2.2 : Nat) : Int) := rfl
    rw [eSn, eDn] at k1 k2
    rw [eSn] at k3
    have eSL : slC w t n ((s0b3 w t n).1 (t, n, 3) 4).toNat = SLC w t n := by rw [ek]; rfl
    rw [eSL] at k1 k2 k3
    rw [e5] at hloc
    have e1 : (s0b3 w t (n + 1)).1 = s2end (s0b3 w t n).1 t n (w (t, 8, 0) 5) := by
      show s2end (s0b3 w t n).1 t n ((s0b3 w t n).1 (t, 8, 0) 5) = _
      rw [e5]
    rw [e1]
    refine ⟨fun v hv => ?_, fun v p j hv => ?_, ?_⟩
    · by_cases e : v = n
      · subst e
        refine ⟨?_, ?_, fun j h9 h12 => ?_⟩
        · rw [eE, ← k1]
          exact DC_cg (st1_k (by simp)) (fun j _ => st1_k (by simp)) (fun j _ => st1_k (by simp)) (st1_k (by simp))
        · rw [eE, ← k3]
          unfold SLC
          rw [st1_eq, show ((((s2endL (s0b3 w t v).1 t v (w (t, 8, 0) 5) ((s0b3 w t v).1 (t, v, 3) 4).toNat).2.2 : Nat) : Int)).toNat = (s2endL (s0b3 w t v).1 t v (w (t, 8, 0) 5) ((s0b3 w t v).1 (t, v, 3) 4).toNat).2.2 from Int.toNat_natCast _]
          exact slC_cg _ (fun j _ => by simp [sdC, st1])
        · rw [eE, st1_k (by simp), s2endL_0 h9 h12, ek]
      · obtain ⟨g1, g2, g3⟩ := i1 v (by omega)
        have hk : ∀ p j, s2end (s0b3 w t n).1 t n (w (t, 8, 0) 5) (t, v, p) j = (s0b3 w t n).1 (t, v, p) j := fun p j => hloc _ j (fun q => e q.2)
        refine ⟨?_, ?_, fun j h9 h12 => by rw [hk]; exact g3 j h9 h12⟩
        · rw [DC_cg (hk _ _) (fun j _ => hk _ _) (fun j _ => hk _ _) (hk _ _)]
          exact g1
        · rw [SLC_cg (hk _ _) (fun j _ => by unfold sdC; rw [hk, hk, hk, hk])]
          exact g2
    · rw [hloc (t, v, p) j (fun q => absurd (show v = n from q.2) (by omega))]
      exact i2 v p j (by omega)
    · show (s0b3 w t n).2 + _ = _
      simp only [sumI]
      rw [i3, e5, k2]
