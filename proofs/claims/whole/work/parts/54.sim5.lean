/-! the tie: a village begins to drum -/
theorem cnt_add {p : Sd → Bool} {l l' : List Sd} : cnt p (l ++ l') = cnt p l + cnt p l' := by
  unfold cnt
  rw [List.filter_append, List.length_append]
theorem cnt_le {p : Sd → Bool} {l : List Sd} : cnt p l ≤ l.length := List.length_filter_le p l
theorem cnt_0 {p : Sd → Bool} {l : List Sd} (h : ∀ s, s ∈ l → ¬ p s = true) : cnt p l = 0 := by
  unfold cnt
  rw [List.filter_eq_nil_iff.mpr h]
  rfl
theorem s0set_facts {w : Mm} {t n : Nat} (hn : n ≤ 7) (hq : 0 < w (t, n, 0) 9) :
    (∀ k j, k ≠ (t, n, 0) → k ≠ (t, n, 1) → k ≠ (t, 8, 0) → s0set w t n k j = w k j) ∧ (∀ j, j ≠ 6 → j ≠ 7 → j ≠ 9 → s0set w t n (t, n, 0) j = w (t, n, 0) j) ∧ s0set w t n (t, n, 0) 6 = w (t, n, 1) 0 ∧ s0set w t n (t, n, 0) 7 = w (t, 8, 2) (w (t, n, 1) 0).toNat ∧ s0set w t n (t, n, 0) 9 = w (t, n, 0) 9 - 1 ∧ (∀ j, s0set w t n (t, n, 1) j = if j < (w (t, n, 0) 9 - 1).toNat then w (t, n, 1) (1 + j) else w (t, n, 1) j) ∧ (∀ j, j ≠ 6 → s0set w t n (t, 8, 0) j = w (t, 8, 0) j) ∧ s0set w t n (t, 8, 0) 6 = w (t, 8, 0) 6 + 1 := by
  have h8 : ¬ n = 8 := by omega
  have h8' : ¬ 8 = n := by omega
  have ht : s2top w t n = w (t, n, 1) 0 := by
    unfold s2top
    rw [if_neg (by omega)]
  have hp : s2pop w t n = cpy (st1 w (t, n, 0) 9 (w (t, n, 0) 9 - 1)) (t, n, 1) (t, n, 1) 1 0 (w (t, n, 0) 9 - 1).toNat := by
    unfold s2pop
    rw [if_neg (by omega)]
  unfold s0set
  rw [ht, hp]
  refine ⟨fun k j h1 h2 h3 => ?_, fun j h1 h2 h3 => ?_, ?_, ?_, ?_, fun j => ?_, fun j hj => ?_, ?_⟩
  · simp [st1, cpy, h1, h2, h3]
  · simp [st1, cpy, h1, h2, h3, h8]
  · simp [st1, cpy, h8]
  · simp [st1, cpy, h8]
  · simp [st1, cpy, h8]
  · by_cases e : j < (w (t, n, 0) 9 - 1).toNat
    · rw [if_pos e]
      simp [st1, cpy]
      intro h9
      omega
    · rw [if_neg e]
      simp [st1, cpy]
      intro h9
      omega
  · simp [st1, cpy, hj, h8']
  · simp [st1]
theorem rset_facts {w : Mm} {u n : Nat} : (∀ j, j ≠ n → rset w u n (u, 0, 4) j = w (u, 0, 4) j ∧ rset w u n (u, 0, 2) j = w (u, 0, 2) j ∧ rset w u n (u, 0, 3) j = w (u, 0, 3) j) ∧ rset w u n (u, 0, 4) n = w (u, 0, 4) n - 1 ∧ rset w u n (u, 0, 2) n = w (u, 0, 5) (5 * n) ∧ rset w u n (u, 0, 3) n = w (3, 0, 7) (w (u, 0, 5) (5 * n)).toNat ∧ (∀ j, rset w u n (u, 0, 5) j = if 5 * n ≤ j ∧ j < 5 * n + (w (u, 0, 4) n - 1).toNat then w (u, 0, 5) (5 * n + 1 + (j - 5 * n)) else w (u, 0, 5) j) ∧ rset w u n (u, 0, 0) 1 = w (u, 0, 0) 1 + 1 ∧ (∀ q j, q ≠ 0 → q ≠ 2 → q ≠ 3 → q ≠ 4 → q ≠ 5 → rset w u n (u, 0, q) j = w (u, 0, q) j) := by
  unfold rset
  refine ⟨fun j hj => ⟨?_, ?_, ?_⟩, ?_, ?_, ?_, fun j => ?_, ?_, fun q j h0 h2 h3 h4 h5 => ?_⟩
  · simp [st1, cpy, hj]
  · simp [st1, cpy, hj]
  · simp [st1, cpy, hj]
  · simp [st1, cpy]
  · simp [st1, cpy]
  · simp [st1, cpy]
  · simp [st1, cpy]
  · simp [st1]
  · simp [st1, cpy, h0, h2, h3, h4, h5]
theorem awk_eq {b f x : Int} (hf : 0 ≤ f ∧ f ≤ 23) : ((b - f) % 24 < x) ↔ ((b % 24 + 24 - f) % 24 < x) := by
  have : (b - f) % 24 = (b % 24 + 24 - f) % 24 := by omega
  rw [this]
theorem adC_nT {w : Mm} {t n v : Nat} {p b T : Int} (h1 : 0 ≤ w (t, n, 0) 2 ∧ w (t, n, 0) 2 ≤ 9) (hb : 2 ≤ b) : ((nT T (adC w t n p b v) : Nat) : Int) ≤ 2 * (if T ≤ w (t, 8, 0) 5 + b + 13 then 1 else 0) ∧ (∀ s, s ∈ adC w t n p b v → s.1 = p ∧ w (t, 8, 0) 5 ≤ s.2.2.1 ∧ s.2.2.2 = 0) := by
  have hd0 : 0 ≤ s2dist w t n t v := by unfold s2dist; omega
  unfold adC
  by_cases c1 : ¬ v = n ∧ hears w t n v
  · rw [if_pos c1]
    have hd : s2dist w t n t v ≤ 27 := by have := c1.2; unfold hears at this; omega
    have hf1 : w (t, 8, 0) 5 + 1 ≤ s0sf w t n v := by unfold s0sf; omega
    have hf2 : s0sf w t n v ≤ w (t, 8, 0) 5 + 10 := by unfold s0sf; omega
    by_cases c2 : w (t, n, 0) 3 = 0
    · rw [if_pos c2]
      refine ⟨?_, fun s hs => ?_⟩
      · by_cases c3 : T ≤ w (t, 8, 0) 5 + b + 13
        · rw [if_pos c3]
          have := cnt_le (p := fun s : Sd => decide (T ≤ s.2.2.1)) (l := [(p, s0sf w t n v, s0sf w t n v + b - 1, 0)])
          unfold nT
          simp only [List.length_cons, List.length_nil] at this
          omega
        · rw [if_neg c3]
          unfold nT
          rw [cnt_0 (fun s hs q => ?_)]
          · exact Int.le_refl 0
          · simp only [List.mem_singleton] at hs
            subst hs
            have : T ≤ s0sf w t n v + b - 1 := of_decide_eq_true q
            omega
      · simp only [List.mem_singleton] at hs
        subst hs
        exact ⟨rfl, by show w (t, 8, 0) 5 ≤ s0sf w t n v + b - 1; omega, rfl⟩
    · rw [if_neg c2]
      refine ⟨?_, fun s hs => ?_⟩
      · by_cases c3 : T ≤ w (t, 8, 0) 5 + b + 13
        · rw [if_pos c3]
          have := cnt_le (p := fun s : Sd => decide (T ≤ s.2.2.1)) (l := [(p, s0sf w t n v, s0sf w t n v + b - 1, 0), (p, s0sf w t n v + 4, s0sf w t n v + 4 + b - 1, 0)])
          unfold nT
          simp only [List.length_cons, List.length_nil] at this
          omega
        · rw [if_neg c3]
          unfold nT
          rw [cnt_0 (fun s hs q => ?_)]
          · exact Int.le_refl 0
          · simp only [List.mem_cons, List.not_mem_nil, or_false] at hs
            rcases hs with hs | hs
            · subst hs
              have : T ≤ s0sf w t n v + b - 1 := of_decide_eq_true q
              omega
            · subst hs
              have : T ≤ s0sf w t n v + 4 + b - 1 := of_decide_eq_true q
              omega
      · simp only [List.mem_cons, List.not_mem_nil, or_false] at hs
        rcases hs with hs | hs
        · subst hs
          exact ⟨rfl, by show w (t, 8, 0) 5 ≤ s0sf w t n v + b - 1; omega, rfl⟩
        · subst hs
          exact ⟨rfl, by show w (t, 8, 0) 5 ≤ s0sf w t n v + 4 + b - 1; omega, rfl⟩
  · rw [if_neg c1]
    refine ⟨?_, fun s hs => absurd hs List.not_mem_nil⟩
    show ((0 : Nat) : Int) ≤ _
    split <;> omega
theorem DC_cg {x y : Mm} {t t' v : Nat} (h9 : y (t', v, 0) 9 = x (t, v, 0) 9) (h1 : ∀ j, j < 5 → y (t', v, 1) j = x (t, v, 1) j) (h2 : ∀ p, p < 12 → y (t', v, 2) p = x (t, v, 2) p) (h12 : y (t', v, 0) 12 = x (t, v, 0) 12) : DC y t' v = DC x t v := Dt_ext h9 (tr_cg h1) (tr_cg h2) h12
theorem SLC_cg {x y : Mm} {t t' v : Nat} (h3 : y (t', v, 3) 4 = x (t, v, 3) 4) (h : ∀ j : Nat, (j : Int) < x (t, v, 3) 4 → sdC y t' v j = sdC x t v j) : SLC y t' v = SLC x t v := by
  unfold SLC
  rw [h3]
  exact slC_cg _ (fun j hj => h j (by omega))
/-- a village that begins, on both sides -/
theorem begin_sim {wc wr : Mm} {t u n : Nat} {N D N' D' X' : Int} {X : Nat → Int} (hu : u ≠ 3) (hL : LI wc t N D X) (hR : SI wr u N' D' X') (hs : RS wc wr t) (hd : RD wc wr t u) (hv : ∀ v : Nat, (v : Int) < wc (t, 8, 0) 1 → VI wc t v) (hn : (n : Int) < wc (t, 8, 0) 1) :
    RS (if s2rdy wc t n (wc (t, 8, 0) 5) then s0beg wc t n else wc) (rbeg wr u n) t ∧ RD (if s2rdy wc t n (wc (t, 8, 0) 5) then s0beg wc t n else wc) (rbeg wr u n) t u ∧ (∀ v : Nat, (v : Int) < wc (t, 8, 0) 1 → VI (if s2rdy wc t n (wc (t, 8, 0) 5) then s0beg wc t n else wc) t v) := by
  obtain ⟨⟨V1, V2⟩, ⟨P1, P2⟩, hb5, hd6, htc, -⟩ := id hL
  have hn7 : n ≤ 7 := by omega
  obtain ⟨s1, s2, s3, s4⟩ := hs
  obtain ⟨d1, d2, d3, d4⟩ := hd
  obtain ⟨r1, r2, r3, r4, r5⟩ := d4 n hn
  obtain ⟨z1, z2, z3, z4, z5⟩ := s4 n hn
  obtain ⟨b1, b2, b3, b4, b5, b6, b7, b8, b9, b10⟩ := hL.v hn7
  have hq : wc (t, n, 0) 9 = wr (u, 0, 4) n := congrArg Prod.fst r4
  have hQ : ∀ j, j < 5 → wc (t, n, 1) j = wr (u, 0, 5) (5 * n + j) := fun j hj => tr_at (congrArg (fun e : Dt => e.2.1) r4) hj
  have hcond : s2rdy wc t n (wc (t, 8, 0) 5) ↔ (wr (u, 0, 2) n = -1 ∧ rawk wr u n ∧ ¬ wr (u, 0, 4) n = 0) := by
    have ha : awk wc t n (wc (t, 8, 0) 5) ↔ rawk wr u n := by
      unfold awk rawk
      rw [← z4, ← z5, ← d1]
      exact awk_eq b4
    constructor
    · intro q
      exact ⟨by rw [← r2]; exact q.1, ha.mp q.2.2, by have := q.2.1; omega⟩
    · intro q
      exact ⟨by rw [r2]; exact q.1, by have := q.2.2; omega, ha.mpr q.2.1⟩
  by_cases c : s2rdy wc t n (wc (t, 8, 0) 5)
  · rw [if_pos c]
    have hq0 : 0 < wc (t, n, 0) 9 := c.2.1
    obtain ⟨i1, i2, i3, i4, i5⟩ := hv n hn
    have hp := i2 0 (by omega)
    have hp0 : wr (u, 0, 5) (5 * n) = wc (t, n, 1) 0 := (hQ 0 (by decide)).symm
    have htop : s2top wc t n = wc (t, n, 1) 0 := by
      unfold s2top
      rw [if_neg (by omega)]
    have hlen := htc (wc (t, n, 1) 0).toNat (by omega)
    have hl7 := s3 (wc (t, n, 1) 0).toNat (by omega)
    have ebC : s0beg wc t n = s0snd (s0set wc t n) t n (wc (t, n, 1) 0) (wc (t, 8, 2) (wc (t, n, 1) 0).toNat) (wc (t, 8, 0) 1).toNat := by
      unfold s0beg
      rw [htop, if_neg (by omega)]
    have ebR : rbeg wr u n = rsnd (rset wr u n) u n (wc (t, n, 1) 0) (wr (3, 0, 0) 1).toNat := by
      unfold rbeg
      rw [if_pos (hcond.mp c), hp0]
    rw [ebC, ebR]
    obtain ⟨f1, f2, f3, f4, f5, f6, f7, f8⟩ := s0set_facts hn7 hq0
    obtain ⟨g1, g2, g3, g4, g5, g6, g7⟩ := rset_facts (w := wr) (u := u) (n := n)
    have k0 : ∀ x j, x ≠ n → x ≠ 8 → s0set wc t n (t, x, 0) j = wc (t, x, 0) j := fun x j hx h8 => f1 _ j (by simp [hx]) (by simp) (by simp [h8])
    have k38 : ∀ x q j, 2 ≤ q → s0set wc t n (t, x, q) j = wc (t, x, q) j := fun x q j hq2 => f1 _ j (by simp; omega) (by simp; omega) (by simp; omega)
    have hszC : ∀ x, SLC (s0set wc t n) t x = SLC wc t x := fun x => SLC_cg (k38 x 3 4 (by decide)) (fun j _ => by unfold sdC; rw [k38 x 4 j (by decide), k38 x 5 j (by decide), k38 x 6 j (by decide), k38 x 7 j (by decide)])
    have e2C : ∀ x q j, q < 3 → s0snd (s0set wc t n) t n (wc (t, n, 1) 0) (wc (t, 8, 2) (wc (t, n, 1) 0).toNat) (wc (t, 8, 0) 1).toNat (t, x, q) j = s0set wc t n (t, x, q) j := fun x q j hq3 => s0snd_0 n hq3
    have eV1 : s0set wc t n (t, 8, 0) 1 = wc (t, 8, 0) 1 := f7 1 (by decide)
    have eV5 : s0set wc t n (t, 8, 0) 5 = wc (t, 8, 0) 5 := f7 5 (by decide)
    have eV4 : s0set wc t n (t, 8, 0) 4 = wc (t, 8, 0) 4 := f7 4 (by decide)
    have hsz : ∀ v : Nat, (v : Int) < s0set wc t n (t, 8, 0) 1 → v ≠ n → 0 ≤ s0set wc t n (t, v, 3) 4 ∧ s0set wc t n (t, v, 3) 4 ≤ 110 := by
      intro v hv1 hvn
      rw [eV1] at hv1
      rw [k38 v 3 4 (by decide)]
      have h0 := (hL.v (v := v) (by omega)).2.2.2.2.2.2.2.2.2
      have h1 := (VI_size V2 hv1 hv).2 hvn hn c.1
      unfold SLC at h1
      rw [slC_len] at h1
      omega
    have hSC := s0snd_sim (w := s0set wc t n) (t := t) (n := n) (p := wc (t, n, 1) 0) (b := wc (t, 8, 2) (wc (t, n, 1) 0).toNat) hsz (wc (t, 8, 0) 1).toNat (by rw [eV1]; omega)
    have hS0 := hR.2.2.1
    have g02 : rset wr u n (u, 0, 0) 2 = wr (u, 0, 0) 2 := rset_0 (by decide)
    have g00 : rset wr u n (u, 0, 0) 0 = wr (u, 0, 0) 0 := rset_0 (by decide)
    have g8 : ∀ q j, q ≠ 0 → q ≠ 2 → q ≠ 3 → q ≠ 4 → q ≠ 5 → rset wr u n (u, 0, q) j = wr (u, 0, q) j := g7
    obtain ⟨hSR, hr2, hr3⟩ := rsnd_sim (w := rset wr u n) (u := u) (n := n) (V := (wc (t, 8, 0) 1).toNat) (p := wc (t, n, 1) 0) hu (by rw [g02]; exact hS0.1) (fun j hj => by
      rw [g02] at hj
      rw [g8 8 j (by decide) (by decide) (by decide) (by decide) (by decide)]
      have := d3 j hj
      omega) (wc (t, 8, 0) 1).toNat (Nat.le_refl _)
    rw [← s1]
    have e3R : ∀ q j, rsnd (rset wr u n) u n (wc (t, n, 1) 0) (wc (t, 8, 0) 1).toNat (3, 0, q) j = wr (3, 0, q) j := fun q j => (rsnd_sl _ _ _ (fun z => hu z.symm)).trans (rset_sl _ _ (fun z => hu z.symm))
    have eoR : ∀ q j, q < 8 → ¬ q = 0 → rsnd (rset wr u n) u n (wc (t, n, 1) 0) (wc (t, 8, 0) 1).toNat (u, 0, q) j = rset wr u n (u, 0, q) j := fun q j h1 h2 => rsnd_off h1 h2 _
    have e0R : ∀ j, j ≠ 2 → rsnd (rset wr u n) u n (wc (t, n, 1) 0) (wc (t, 8, 0) 1).toNat (u, 0, 0) j = rset wr u n (u, 0, 0) j := fun j hj => rsnd_0 hj _
    have hszR : ∀ x, SLR (rset wr u n) u x = SLR wr u x := fun x => by
      unfold SLR
      rw [g02]
      refine slR_cg _ (fun j _ => g8 8 j (by decide) (by decide) (by decide) (by decide) (by decide)) (fun j _ _ => ?_)
      unfold sdR
      rw [g8 9 j (by decide) (by decide) (by decide) (by decide) (by decide), g8 10 j (by decide) (by decide) (by decide) (by decide) (by decide), g8 11 j (by decide) (by decide) (by decide) (by decide) (by decide), g8 12 j (by decide) (by decide) (by decide) (by decide) (by decide)]
    have kn0 : ∀ j, j ≠ 6 → j ≠ 7 → j ≠ 9 → ∀ x, x ≠ 8 → s0set wc t n (t, x, 0) j = wc (t, x, 0) j := fun j h6 h7 h9 x h8 => by
      by_cases e : x = n
      · subst e
        exact f2 j h6 h7 h9
      · exact k0 x j e h8
    have had : ∀ v : Nat, (v : Int) < wc (t, 8, 0) 1 → adC (s0set wc t n) t n (wc (t, n, 1) 0) (wc (t, 8, 2) (wc (t, n, 1) 0).toNat) v = adR (rset wr u n) u n (wc (t, n, 1) 0) v := by
      intro v hv1
      obtain ⟨y1, y2, y3, y4, y5⟩ := s4 v hv1
      have e3 : ∀ q j, rset wr u n (3, 0, q) j = wr (3, 0, q) j := fun q j => rset_sl _ _ (fun z => hu z.symm)
      have ed : s2dist (s0set wc t n) t n t v = rfar (rset wr u n) n v := by
        unfold s2dist rfar
        rw [kn0 0 (by decide) (by decide) (by decide) n (by omega), kn0 1 (by decide) (by decide) (by decide) n (by omega), kn0 0 (by decide) (by decide) (by decide) v (by omega), kn0 1 (by decide) (by decide) (by decide) v (by omega), e3, e3, e3, e3, z1, z2, y1, y2]
      have e21 : s0set wc t n (t, n, 0) 2 = rset wr u n (u, 0, 1) n := by
        rw [kn0 2 (by decide) (by decide) (by decide) n (by omega), g8 1 n (by decide) (by decide) (by decide) (by decide) (by decide), r1]
      have esf : s0sf (s0set wc t n) t n v = rsf (rset wr u n) u n v := by
        unfold s0sf rsf
        rw [ed, eV5, g00, d1]
      have e33 : s0set wc t n (t, n, 0) 3 = rset wr u n (3, 0, 3) n := by
        rw [kn0 3 (by decide) (by decide) (by decide) n (by omega), e3, z3]
      have e7 : rset wr u n (3, 0, 7) (wc (t, n, 1) 0).toNat = wc (t, 8, 2) (wc (t, n, 1) 0).toNat := by
        rw [e3, hl7]
      have b3' : s0set wc t n (t, n, 0) 3 = 0 ∨ s0set wc t n (t, n, 0) 3 = 1 := by
        rw [kn0 3 (by decide) (by decide) (by decide) n (by omega)]
        exact b3
      unfold adC adR
      rw [e7, ← esf, ← e33]
      have hh : hears (s0set wc t n) t n v ↔ rhears (rset wr u n) u n v := by
        unfold hears rhears
        rw [ed, e21]
      by_cases c1 : ¬ v = n ∧ hears (s0set wc t n) t n v
      · rw [if_pos c1, if_pos (show ¬ v = n ∧ rhears (rset wr u n) u n v from ⟨c1.1, hh.mp c1.2⟩)]
        by_cases c2 : s0set wc t n (t, n, 0) 3 = 0
        · rw [if_pos c2, if_neg (by omega)]
        · rw [if_neg c2, if_pos (by omega)]
      · rw [if_neg c1, if_neg (fun q => c1 ⟨q.1, hh.mpr q.2⟩)]
    have eSL : ∀ v : Nat, (v : Int) < wc (t, 8, 0) 1 → SLC (s0snd (s0set wc t n) t n (wc (t, n, 1) 0) (wc (t, 8, 2) (wc (t, n, 1) 0).toNat) (wc (t, 8, 0) 1).toNat) t v = SLC wc t v ++ adC (s0set wc t n) t n (wc (t, n, 1) 0) (wc (t, 8, 2) (wc (t, n, 1) 0).toNat) v := fun v hv1 => by
      rw [hSC, hszC, if_pos (by omega)]
    refine ⟨⟨?_, ?_, ?_, ?_⟩, ⟨?_, ?_, ?_, ?_⟩, ?_⟩
    · rw [e2C 8 0 1 (by decide), eV1, e3R, s1]
    · rw [e2C 8 0 4 (by decide), eV4, e3R, s2]
    · intro p hp1
      rw [e2C 8 0 4 (by decide), eV4] at hp1
      rw [e2C 8 2 p (by decide), k38 8 2 p (by decide), e3R]
      exact s3 p hp1
    · intro v hv1
      rw [e2C 8 0 1 (by decide), eV1] at hv1
      have h8 : v ≠ 8 := by omega
      rw [e2C v 0 0 (by decide), e2C v 0 1 (by decide), e2C v 0 3 (by decide), e2C v 0 4 (by decide), e2C v 0 5 (by decide), e3R, e3R, e3R, e3R, e3R, kn0 0 (by decide) (by decide) (by decide) v h8, kn0 1 (by decide) (by decide) (by decide) v h8, kn0 3 (by decide) (by decide) (by decide) v h8, kn0 4 (by decide) (by decide) (by decide) v h8, kn0 5 (by decide) (by decide) (by decide) v h8]
      exact s4 v hv1
    · rw [e2C 8 0 5 (by decide), eV5, e0R 0 (by decide), g00, d1]
    · rw [e2C 8 0 6 (by decide), f8, e0R 1 (by decide), g6, d2]
    · intro j hj
      rw [e2C 8 0 1 (by decide), eV1]
      have := hr3 j hj
      omega
    · intro v hv1
      rw [e2C 8 0 1 (by decide), eV1] at hv1
      have h8 : v ≠ 8 := by omega
      obtain ⟨y1, y2, y3, y4, y5⟩ := d4 v hv1
      refine ⟨?_, ?_, ?_, ?_, ?_⟩
      · rw [e2C v 0 2 (by decide), kn0 2 (by decide) (by decide) (by decide) v h8, eoR 1 v (by decide) (by decide), g8 1 v (by decide) (by decide) (by decide) (by decide) (by decide), y1]
      · rw [e2C v 0 6 (by decide), eoR 2 v (by decide) (by decide)]
        by_cases e : v = n
        · subst e
          rw [f3, g3, hp0]
        · rw [k0 v 6 e h8, (g1 v e).2.1, y2]
      · rw [e2C v 0 7 (by decide), eoR 3 v (by decide) (by decide)]
        by_cases e : v = n
        · subst e
          rw [f4, g4, hp0, hl7]
        · rw [k0 v 7 e h8, (g1 v e).2.2, y3]
      · by_cases e : v = n
        · subst e
          refine Dt_ext ?_ (tr_cg (fun j hj => ?_)) (tr_cg (fun j hj => ?_)) ?_
          · rw [e2C v 0 9 (by decide), f5, eoR 4 v (by decide) (by decide), g2, hq]
          · show _ = _
            rw [e2C v 1 j (by decide), f6 j, eoR 5 (5 * v + j) (by decide) (by decide), g5, ← hq]
            by_cases e4 : j < (wc (t, v, 0) 9 - 1).toNat
            · rw [if_pos e4, if_pos (by omega), hQ (1 + j) (by omega)]
              congr 1
              omega
            · rw [if_neg e4, if_neg (by omega), hQ j hj]
          · show _ = _
            rw [e2C v 2 j (by decide), k38 v 2 j (by decide), eoR 6 (12 * v + j) (by decide) (by decide), g8 6 _ (by decide) (by decide) (by decide) (by decide) (by decide)]
            exact tr_at (congrArg (fun e : Dt => e.2.2.1) r4) hj
          · rw [e2C v 0 12 (by decide), f2 12 (by decide) (by decide) (by decide), eoR 7 v (by decide) (by decide), g8 7 v (by decide) (by decide) (by decide) (by decide) (by decide)]
            exact congrArg (fun e : Dt => e.2.2.2) r4
        · have hC : DC (s0snd (s0set wc t n) t n (wc (t, n, 1) 0) (wc (t, 8, 2) (wc (t, n, 1) 0).toNat) (wc (t, 8, 0) 1).toNat) t v = DC wc t v := DC_cg (by rw [e2C v 0 9 (by decide), k0 v 9 e h8]) (fun j _ => by rw [e2C v 1 j (by decide)]; exact f1 _ j (by simp) (by simp [e]) (by simp)) (fun j _ => by rw [e2C v 2 j (by decide)]; exact k38 v 2 j (by decide)) (by rw [e2C v 0 12 (by decide), k0 v 12 e h8])
          have hD : DR (rsnd (rset wr u n) u n (wc (t, n, 1) 0) (wc (t, 8, 0) 1).toNat) u v = DR wr u v := DR_cg (by rw [eoR 4 v (by decide) (by decide), (g1 v e).1]) (fun j hj => by rw [eoR 5 _ (by decide) (by decide), g5, if_neg (by omega)]) (fun j hj => by rw [eoR 6 _ (by decide) (by decide), g8 6 _ (by decide) (by decide) (by decide) (by decide) (by decide)]) (by rw [eoR 7 v (by decide) (by decide), g8 7 v (by decide) (by decide) (by decide) (by decide) (by decide)])
          rw [hC, hD, y4]
      · rw [eSL v hv1, hSR, hszR, if_pos (by omega), had v hv1, y5]
    · intro v hv1
      have h8 : v ≠ 8 := by omega
      obtain ⟨j1, j2, j3, j4, j5⟩ := hv v hv1
      have hBu : ∀ x, x ≠ n → x ≠ 8 → ∀ T, Bu (s0snd (s0set wc t n) t n (wc (t, n, 1) 0) (wc (t, 8, 2) (wc (t, n, 1) 0).toNat) (wc (t, 8, 0) 1).toNat) t x T = Bu wc t x T := fun x hx hx8 T => by
        unfold Bu
        rw [e2C x 0 6 (by decide), e2C x 0 7 (by decide), e2C 8 0 5 (by decide), k0 x 6 hx hx8, k0 x 7 hx hx8, eV5, e2C 8 2 _ (by decide), k38 8 2 _ (by decide)]
      have hBn : ∀ T, Bu (s0snd (s0set wc t n) t n (wc (t, n, 1) 0) (wc (t, 8, 2) (wc (t, n, 1) 0).toNat) (wc (t, 8, 0) 1).toNat) t n T = Bu wc t n T + 2 * (if T ≤ wc (t, 8, 0) 5 + wc (t, 8, 2) (wc (t, n, 1) 0).toNat + 13 then 1 else 0) := fun T => by
        unfold Bu
        rw [if_pos c.1, e2C n 0 6 (by decide), f3, if_neg (by omega), e2C n 0 7 (by decide), f4, e2C 8 0 5 (by decide), eV5, e2C 8 2 _ (by decide), k38 8 2 _ (by decide), show wc (t, 8, 0) 5 + wc (t, 8, 2) (wc (t, n, 1) 0).toNat - wc (t, 8, 2) (wc (t, n, 1) 0).toNat = wc (t, 8, 0) 5 by omega, Int.mul_add]
      have hdrn : 0 ≤ s0set wc t n (t, n, 0) 2 ∧ s0set wc t n (t, n, 0) 2 ≤ 9 := by
        rw [kn0 2 (by decide) (by decide) (by decide) n (by omega)]
        exact b2
      have hadn := fun T => adC_nT (w := s0set wc t n) (t := t) (n := n) (v := v) (p := wc (t, n, 1) 0) (b := wc (t, 8, 2) (wc (t, n, 1) 0).toNat) (T := T) hdrn hlen.1
      rw [eV5] at hadn
      unfold VI
      rw [e2C v 0 6 (by decide), e2C v 0 7 (by decide), e2C v 0 9 (by decide), e2C 8 0 4 (by decide), e2C 8 0 5 (by decide), eV4, eV5, eSL v hv1]
      refine ⟨?_, ?_, ?_, ?_, ?_⟩
      · by_cases e : v = n
        · subst e
          right
          rw [f3, f4, e2C 8 2 _ (by decide), k38 8 2 _ (by decide)]
          exact ⟨hp, by omega, Int.le_refl _⟩
        · rw [k0 v 6 e h8, k0 v 7 e h8, e2C 8 2 _ (by decide), k38 8 2 _ (by decide)]
          exact j1
      · intro j hj
        rw [e2C v 1 j (by decide)]
        by_cases e : v = n
        · subst e
          rw [f5] at hj
          rw [f6 j, if_pos (by omega)]
          exact j2 (1 + j) (by omega)
        · rw [k0 v 9 e h8] at hj
          rw [f1 _ j (by simp) (by simp [e]) (by simp)]
          exact j2 j hj
      · intro s hs
        rcases List.mem_append.mp hs with h | h
        · exact j3 s h
        · obtain ⟨q1, q2, q3⟩ := (hadn 0).2 s h
          rw [q1]
          exact ⟨hp, q2, Or.inl q3⟩
      · intro p hp1 hp2
        rw [e2C v 2 p (by decide), k38 v 2 p (by decide)]
        exact j4 p hp1 hp2
      · intro T hT
        have hj5 := j5 T hT
        unfold nT
        rw [cnt_add]
        by_cases e : v = n
        · have hnil : adC (s0set wc t n) t n (wc (t, n, 1) 0) (wc (t, 8, 2) (wc (t, n, 1) 0).toNat) v = [] := by
            unfold adC
            rw [if_neg (fun q => q.1 e)]
          rw [hnil]
          have hSB : SB (s0snd (s0set wc t n) t n (wc (t, n, 1) 0) (wc (t, 8, 2) (wc (t, n, 1) 0).toNat) (wc (t, 8, 0) 1).toNat) t v T = SB wc t v T := by
            unfold SB
            rw [e2C 8 0 1 (by decide), eV1]
            refine sumI_cg _ (fun x hx => ?_)
            by_cases e2 : x = v
            · rw [if_pos e2, if_pos e2]
            · rw [if_neg e2, if_neg e2, hBu x (by omega) (by omega)]
          rw [hSB]
          unfold nT at hj5
          show ((cnt _ (SLC wc t v) + 0 : Nat) : Int) ≤ _
          omega
        · have hSB : SB (s0snd (s0set wc t n) t n (wc (t, n, 1) 0) (wc (t, 8, 2) (wc (t, n, 1) 0).toNat) (wc (t, 8, 0) 1).toNat) t v T = SB wc t v T + 2 * (if T ≤ wc (t, 8, 0) 5 + wc (t, 8, 2) (wc (t, n, 1) 0).toNat + 13 then 1 else 0) := by
            unfold SB
            rw [e2C 8 0 1 (by decide), eV1]
            have hup := sumI_up (f := fun x => if x = v then 0 else Bu wc t x T) (f' := fun x => if x = v then 0 else if x = n then Bu wc t n T + 2 * (if T ≤ wc (t, 8, 0) 5 + wc (t, 8, 2) (wc (t, n, 1) 0).toNat + 13 then 1 else 0) else Bu wc t x T) (v0 := n) (d := 2 * (if T ≤ wc (t, 8, 0) 5 + wc (t, 8, 2) (wc (t, n, 1) 0).toNat + 13 then 1 else 0))
              (by rw [if_neg (show ¬ n = v from fun q => e q.symm), if_neg (show ¬ n = v from fun q => e q.symm), if_pos rfl])
              (fun x hx => by
                by_cases e2 : x = v
                · rw [if_pos e2, if_pos e2]
                · rw [if_neg e2, if_neg e2, if_neg hx]) (wc (t, 8, 0) 1).toNat
            rw [if_pos (show n < (wc (t, 8, 0) 1).toNat by omega)] at hup
            rw [← hup]
            refine sumI_cg _ (fun x hx => ?_)
            by_cases e2 : x = v
            · rw [if_pos e2, if_pos e2]
            · rw [if_neg e2, if_neg e2]
              by_cases e3 : x = n
              · subst e3
                rw [if_pos rfl, hBn T]
              · rw [if_neg e3, hBu x e3 (by omega)]
          have h9 := (hadn T).1
          rw [hSB]
          unfold nT at hj5 h9
          rw [Int.natCast_add]
          omega
  · rw [if_neg c]
    have ebR : rbeg wr u n = wr := by
      unfold rbeg
      rw [if_neg (fun q => c (hcond.mpr q))]
    rw [ebR]
    exact ⟨⟨s1, s2, s3, s4⟩, ⟨d1, d2, d3, d4⟩, hv⟩
