/-! the tie: steps of phrase, found and of the calls that look ahead -/
theorem st_phrase {c : Int} {w W : Mm} {k n : Int} (h : GI c w) (hW : W = wr6 (if 2 ≤ ctf 9 n 0 ∧ ctf 9 n 0 ≤ 8 then (if w (0, 8, 0) 4 < 12 ∧ ¬ s0hasP w 0 n then none else eS) else eA) w (s0addP w 0 n ((ctf 9 n 0 : Nat) : Int)) (w (0, 8, 0) 4)) (hk : k = cd xA (if 2 ≤ ctf 9 n 0 ∧ ctf 9 n 0 ≤ 8 then (if w (0, 8, 0) 4 < 12 ∧ ¬ s0hasP w 0 n then none else eS) else eA)) :
    OKs c k (if (ph n (phk n (n.toNat + 1) 0)).2 = true ∧ (2 ≤ ((phk n (n.toNat + 1) 0 : Nat) : Int) ∧ ((phk n (n.toNat + 1) 0 : Nat) : Int) ≤ 8) then (if rdp W n (W (3, 0, 0) 2).toNat = true then thn W 2 else rphr W n (phk n (n.toNat + 1) 0)) else thn W 1) (if (ph n (phk n (n.toNat + 1) 0)).2 = true ∧ (2 ≤ ((phk n (n.toNat + 1) 0 : Nat) : Int) ∧ ((phk n (n.toNat + 1) 0 : Nat) : Int) ≤ 8) then (if rdp W n (W (3, 0, 0) 2).toNat = true then 0 else W (3, 0, 0) 2) else 0) := by
  have hV := h.1.1.1
  have hP := h.1.1.2.1
  have ePw := h.2.2.1.1.2.1
  have hti := tones_iff (n := n)
  by_cases c1 : 2 ≤ ctf 9 n 0 ∧ ctf 9 n 0 ≤ 8
  · have hm := hti.1.mpr c1
    have eK := hti.2 c1
    have hrd : ∀ W : Mm, (∀ p j, W (3, 0, p) j = w (3, 0, p) j) → (rdp W n (W (3, 0, 0) 2).toNat = true ↔ ¬ (w (0, 8, 0) 4 < 12 ∧ ¬ s0hasP w 0 n)) := fun W hW3 => by
      rw [rdp_iff, hW3]
      constructor
      · rintro (q | ⟨j, q1, q2⟩) z
        · omega
        · refine z.2 ⟨j, by omega, ?_⟩
          rw [h.2.2.2.2 j (by omega), ← hW3]
          exact q2
      · intro q
        by_cases e : w (0, 8, 0) 4 < 12
        · have hh : s0hasP w 0 n := Classical.byContradiction fun z => q ⟨e, z⟩
          obtain ⟨j, q1, q2⟩ := hh
          refine Or.inr ⟨j, by omega, ?_⟩
          rw [hW3, ← h.2.2.2.2 j (by omega)]
          exact q2
        · exact Or.inl (by omega)
    by_cases c2 : w (0, 8, 0) 4 < 12 ∧ ¬ s0hasP w 0 n
    · rw [if_pos c1, if_pos c2] at hW hk
      have hW : W = st1 (s0addP w 0 n ((ctf 9 n 0 : Nat) : Int)) (6, 0, 0) 0 (w (0, 8, 0) 4) := hW
      have hk : k = 0 := hk
      have eA : ∀ t x p j, t ≠ 0 → s0addP w 0 n ((ctf 9 n 0 : Nat) : Int) (t, x, p) j = w (t, x, p) j := fun t x p j h0 => by
        unfold s0addP
        rw [if_pos c2.1]
        simp [st1, h0]
      have hR : ∀ t x p' j, t ≠ 6 → t ≠ 0 → W (t, x, p') j = w (t, x, p') j := fun t x p' j h6 h0 => by rw [hW, k_6 h6]; exact eA t x p' j h0
      have hn := (hrd W (fun p j => hR 3 0 p j (by decide) (by decide)))
      rw [if_pos hm, if_pos hm, if_neg (fun q => hn.mp q c2), if_neg (fun q => hn.mp q c2), hk]
      obtain ⟨t1, t2, t3, t4⟩ := h.R (W := W) (fun t x p' j h2 h6 => hR t x p' j h6 (by omega))
      have eW2 : W (3, 0, 0) 2 = w (3, 0, 0) 2 := hR 3 0 0 2 (by decide) (by decide)
      have eT2 : th0 W (3, 0, 0) 2 = w (3, 0, 0) 2 := by rw [k_th0 (fun _ _ => by decide), eW2]
      have hph := phrase_sim (n := n) (c := ((ctf 9 n 0 : Nat) : Int)) (k := phk n (n.toNat + 1) 0) hV.2 hP.1 c2.1 (by rw [eK]) t1
      have erp : rphr (th0 W) n (phk n (n.toNat + 1) 0) = rphr W n (phk n (n.toNat + 1) 0) := by
        unfold rphr
        rw [eT2, eW2]
        have e00 : th0 (th0 W) = th0 W := by
          unfold th0
          exact st1_2
        rw [e00]
      rw [erp] at hph
      have hc := h.nn
      have hMk : ∀ t p j, 3 ≤ t → t ≤ 5 → ¬ (t = 3 ∧ (p = 0 ∨ p = 6 ∨ p = 7)) → rphr W n (phk n (n.toNat + 1) 0) (t, 0, p) j = w (t, 0, p) j := fun t p j h3 h5 hn => by
        unfold rphr
        rw [st1_k (by simp; omega), st1_k (by simp; omega), st1_k (by simp; omega), k_th0 (fun q1 q2 => by omega), hR t 0 p j (by omega) (by omega)]
      have hM31 : rphr W n (phk n (n.toNat + 1) 0) (3, 0, 0) 1 = w (3, 0, 0) 1 := by
        unfold rphr
        rw [st1_j (by decide), st1_k (by simp), st1_k (by simp), k_th0 (fun _ _ => by decide), hR 3 0 0 1 (by decide) (by decide)]
      have hM32 : rphr W n (phk n (n.toNat + 1) 0) (3, 0, 0) 2 = w (3, 0, 0) 2 + 1 := by
        unfold rphr
        rw [st1_eq, eW2]
      have hM6 : ∀ j, rphr W n (phk n (n.toNat + 1) 0) (3, 0, 6) j = if j = (w (3, 0, 0) 2).toNat then n else w (3, 0, 6) j := fun j => by
        unfold rphr
        rw [st1_k (by simp), st1_k (by simp), eW2]
        by_cases e : j = (w (3, 0, 0) 2).toNat
        · rw [if_pos e, e, st1_eq]
        · rw [if_neg e, st1_j e, k_th0 (fun _ q => absurd q (by decide)), hR 3 0 6 j (by decide) (by decide)]
      have hM7 : ∀ j, rphr W n (phk n (n.toNat + 1) 0) (3, 0, 7) j = if j = (w (3, 0, 0) 2).toNat then ((phk n (n.toNat + 1) 0 : Nat) : Int) else w (3, 0, 7) j := fun j => by
        unfold rphr
        rw [st1_k (by simp), eW2]
        by_cases e : j = (w (3, 0, 0) 2).toNat
        · rw [if_pos e, e, st1_eq]
        · rw [if_neg e, st1_j e, st1_k (by simp), k_th0 (fun _ q => absurd q (by decide)), hR 3 0 7 j (by decide) (by decide)]
      have eAP : s0addP w 0 n ((ctf 9 n 0 : Nat) : Int) = st1 (st1 (st1 w (0, 8, 1) (w (0, 8, 0) 4).toNat n) (0, 8, 2) (w (0, 8, 0) 4).toNat ((ctf 9 n 0 : Nat) : Int)) (0, 8, 0) 4 (w (0, 8, 0) 4 + 1) := by
        unfold s0addP
        rw [if_pos c2.1]
      have c0 : ∀ j, j ≠ 4 → s0addP w 0 n ((ctf 9 n 0 : Nat) : Int) (0, 8, 0) j = w (0, 8, 0) j := fun j hj => by rw [eAP]; simp [st1, hj]
      have c4 : s0addP w 0 n ((ctf 9 n 0 : Nat) : Int) (0, 8, 0) 4 = w (0, 8, 0) 4 + 1 := by rw [eAP]; exact st1_eq _ _ _ _
      have cv : ∀ x q j, x ≠ 8 → s0addP w 0 n ((ctf 9 n 0 : Nat) : Int) (0, x, q) j = w (0, x, q) j := fun x q j hx => by rw [eAP]; simp [st1, hx]
      have cc2 : ∀ j, s0addP w 0 n ((ctf 9 n 0 : Nat) : Int) (0, 8, 2) j = if j = (w (0, 8, 0) 4).toNat then ((ctf 9 n 0 : Nat) : Int) else w (0, 8, 2) j := fun j => by
        rw [eAP]
        by_cases e : j = (w (0, 8, 0) 4).toNat
        · rw [if_pos e, e]; simp [st1]
        · rw [if_neg e]; simp [st1, e]
      have cc1 : ∀ j, s0addP w 0 n ((ctf 9 n 0 : Nat) : Int) (0, 8, 1) j = if j = (w (0, 8, 0) 4).toNat then n else w (0, 8, 1) j := fun j => by
        rw [eAP]
        by_cases e : j = (w (0, 8, 0) 4).toNat
        · rw [if_pos e, e]; simp [st1]
        · rw [if_neg e]; simp [st1, e]
      obtain ⟨u1, u2⟩ := h.up
      obtain ⟨a1, a2, a3, a4, a5, a6⟩ := u1
      obtain ⟨⟨N1, D1, hL1⟩, -⟩ : (∃ N1 D1, LI w 1 N1 D1 (fun _ => 300000 * (c + 1))) ∧ True := ⟨h.1.2, trivial⟩
      refine ⟨?_, fun _ => ?_, GI_fin (W0 := s0addP w 0 n ((ctf 9 n 0 : Nat) : Int)) ⟨by rw [c0 1 (by decide)]; exact a1, by rw [c4]; omega, by rw [c0 5 (by decide)]; exact a3, by rw [c0 6 (by decide)]; exact a4, fun j hj => ?_, fun v hv => (a6 v hv).cg (fun j => cv v 0 j (by omega)) (cv v 3 4 (by omega))⟩ ⟨N1, D1, hL1.k (fun x p j => eA 1 x p j (by decide)) (Int.le_refl _) (Int.le_refl _) (fun _ _ => by show 300000 * (c + 1) ≤ 300000 * (c + 1 + 1); omega)⟩ (h.2.1.1.k (fun p j => hMk 4 p j (by decide) (by decide) (by omega)) (by omega) (by omega) (by omega)) ?_ ?_ hph (fun x h8 hx => ?_) (fun p hp => ?_) (fun t x p j ht => ?_)⟩
      · unfold rphr
        rw [st1_j (by decide), st1_k (by simp), st1_k (by simp)]
        exact th0_t
      · unfold rphr
        rw [st1_k (by simp), st1_k (by simp), st1_k (by simp), th0_6, hW, st1_eq, ← hW, eW2, ePw]
      · rw [c4] at hj
        rw [cc2]
        split
        · omega
        · exact a5 j (by omega)
      · obtain ⟨a, b, d, h5⟩ := h.2.1.2.1
        exact ⟨a, b, d, h5.k (fun p j => hMk 5 p j (by decide) (by decide) (by omega)) (Int.le_refl _) (Int.le_refl _) (Int.le_refl _)⟩
      · obtain ⟨m1, m2, m3, m4, m5, m6⟩ := h.2.1.2.2
        refine ⟨by rw [hM31]; exact m1, by rw [hM32]; omega, m3.cg (fun j => hMk 3 1 j (by decide) (by decide) (by omega)), m4.cg (fun j => hMk 3 2 j (by decide) (by decide) (by omega)), m5.cg (fun j => hMk 3 4 j (by decide) (by decide) (by omega)), fun j hj => ?_⟩
        rw [hM7]
        split
        · rw [eK]; omega
        · exact m6 j hj
      · rw [c0 1 (by decide)] at hx
        obtain ⟨u1, u2, u3, u4, u5, u6, u7, u8, u9, u10⟩ := h.2.2.2.1 x h8 hx
        have h8' : x ≠ 8 := by omega
        exact ⟨by rw [cv x 0 3 h8', hMk 3 3 x (by decide) (by decide) (by omega)]; exact u1, by rw [cv x 0 4 h8', hMk 3 4 x (by decide) (by decide) (by omega)]; exact u2, by rw [cv x 0 5 h8']; exact u3, by rw [cv x 0 6 h8']; exact u4, by rw [cv x 0 7 h8']; exact u5, by rw [hMk 4 3 x (by decide) (by decide) (by omega)]; exact u6, (DC_cg (cv x 0 9 h8') (fun j _ => cv x 1 j h8') (fun j _ => cv x 2 j h8') (cv x 0 12 h8')).trans (u7.trans (DR_cg (hMk 4 4 x (by decide) (by decide) (by omega)) (fun j _ => hMk 4 5 _ (by decide) (by decide) (by omega)) (fun j _ => hMk 4 6 _ (by decide) (by decide) (by omega)) (hMk 4 7 x (by decide) (by decide) (by omega))).symm), by rw [cv x 0 9 h8']; exact u8, fun p hp => by rw [cv x 2 p h8']; exact u9 p hp, by rw [cv x 3 4 h8']; exact u10⟩
      · rw [c4] at hp
        rw [cc1, hM6, ← ePw]
        split
        · rfl
        · exact h.2.2.2.2 p (by omega)
      · unfold rphr
        rw [st1_k (by simp; omega), st1_k (by simp; omega), st1_k (by simp; omega), k_th0 (fun q => by omega), hW, k_6 (by omega)]
    · rw [if_pos c1, if_neg c2] at hW hk
      have hW : W = w := hW
      have hk : k = 2 := hk
      have hn := (hrd W (fun p j => by rw [hW])).mpr c2
      rw [if_pos hm, if_pos hm, if_pos hn, if_pos hn, hk, hW]
      exact OK_thn h (by decide)
  · rw [if_neg c1] at hW hk
    have hW : W = w := hW
    have hk : k = 1 := hk
    have hm := fun q => c1 (hti.1.mp q)
    rw [if_neg hm, if_neg hm, hk, hW]
    exact OK_thn h (by decide)
theorem st_found {c : Int} {w W : Mm} {k x y d : Int} (h : GI c w) (hW : W = wr6 (if (0 ≤ x ∧ x ≤ 30) ∧ (0 ≤ y ∧ y ≤ 30) ∧ (1 ≤ d ∧ d ≤ 9) then (if w (0, 8, 0) 1 < 8 ∧ ¬ s0has w 0 x y then none else eS) else eA) w (s0addV w 0 x y d) (w (0, 8, 0) 1)) (hk : k = cd xA (if (0 ≤ x ∧ x ≤ 30) ∧ (0 ≤ y ∧ y ≤ 30) ∧ (1 ≤ d ∧ d ≤ 9) then (if w (0, 8, 0) 1 < 8 ∧ ¬ s0has w 0 x y then none else eS) else eA)) :
    OKs c k (if (0 ≤ x ∧ x ≤ 30) ∧ (0 ≤ y ∧ y ≤ 30) ∧ (1 ≤ d ∧ d ≤ 9) then (if rfd W x y (W (3, 0, 0) 1).toNat = true then thn W 2 else rfnd W x y d) else thn W 1) (if (0 ≤ x ∧ x ≤ 30) ∧ (0 ≤ y ∧ y ≤ 30) ∧ (1 ≤ d ∧ d ≤ 9) then (if rfd W x y (W (3, 0, 0) 1).toNat = true then 0 else W (3, 0, 0) 1) else 0) := by
  have hV := h.1.1.1
  have hP := h.1.1.2.1
  have eVw := h.2.2.1.V
  by_cases c1 : (0 ≤ x ∧ x ≤ 30) ∧ (0 ≤ y ∧ y ≤ 30) ∧ (1 ≤ d ∧ d ≤ 9)
  · have hrd : ∀ W : Mm, (∀ p j, W (3, 0, p) j = w (3, 0, p) j) → (rfd W x y (W (3, 0, 0) 1).toNat = true ↔ ¬ (w (0, 8, 0) 1 < 8 ∧ ¬ s0has w 0 x y)) := fun W hW3 => by
      rw [rfd_iff, hW3]
      constructor
      · rintro (q | ⟨j, q1, q2, q3⟩) z
        · omega
        · obtain ⟨z1, z2, -⟩ := h.2.2.1.1.2.2.2 j (by omega)
          exact z.2 ⟨j, by omega, by rw [z1, ← hW3]; exact q2, by rw [z2, ← hW3]; exact q3⟩
      · intro q
        by_cases e : w (0, 8, 0) 1 < 8
        · have hh : s0has w 0 x y := Classical.byContradiction fun z => q ⟨e, z⟩
          obtain ⟨j, q1, q2, q3⟩ := hh
          obtain ⟨z1, z2, -⟩ := h.2.2.1.1.2.2.2 j (by omega)
          exact Or.inr ⟨j, by omega, by rw [hW3, ← z1]; exact q2, by rw [hW3, ← z2]; exact q3⟩
        · exact Or.inl (by omega)
    by_cases c2 : w (0, 8, 0) 1 < 8 ∧ ¬ s0has w 0 x y
    · rw [if_pos c1, if_pos c2] at hW hk
      have hW : W = st1 (s0addV w 0 x y d) (6, 0, 0) 0 (w (0, 8, 0) 1) := hW
      have hk : k = 0 := hk
      have eAV : s0addV w 0 x y d = st1 (st1 (st1 (st1 w (0, (w (0, 8, 0) 1).toNat, 0) 0 x) (0, (w (0, 8, 0) 1).toNat, 0) 1 y) (0, (w (0, 8, 0) 1).toNat, 0) 2 d) (0, 8, 0) 1 (w (0, 8, 0) 1 + 1) := by
        unfold s0addV
        rw [if_pos c2.1]
      have eA : ∀ t v p j, t ≠ 0 → s0addV w 0 x y d (t, v, p) j = w (t, v, p) j := fun t v p j h0 => by rw [eAV]; simp [st1, h0]
      have hR : ∀ t v p' j, t ≠ 6 → t ≠ 0 → W (t, v, p') j = w (t, v, p') j := fun t v p' j h6 h0 => by rw [hW, k_6 h6]; exact eA t v p' j h0
      have hn := (hrd W (fun p j => hR 3 0 p j (by decide) (by decide)))
      rw [if_pos c1, if_pos c1, if_neg (fun q => hn.mp q c2), if_neg (fun q => hn.mp q c2), hk]
      obtain ⟨t1, t2, t3, t4⟩ := h.R (W := W) (fun t v p' j h2 h6 => hR t v p' j h6 (by omega))
      have eW1 : W (3, 0, 0) 1 = w (3, 0, 0) 1 := hR 3 0 0 1 (by decide) (by decide)
      have eT1 : th0 W (3, 0, 0) 1 = w (3, 0, 0) 1 := by rw [k_th0 (fun _ _ => by decide), eW1]
      obtain ⟨f1, f2⟩ := found_sim (x := x) (y := y) (d := d) hV.1 c2.1 t1 t2
      have erf : rfnd (th0 W) x y d = rfnd W x y d := by
        unfold rfnd
        rw [eT1, eW1]
        have e00 : th0 (th0 W) = th0 W := by
          unfold th0
          exact st1_2
        rw [e00]
      rw [erf] at f1 f2
      have hc := h.nn
      obtain ⟨n, hn0⟩ : ∃ n : Nat, w (0, 8, 0) 1 = (n : Int) := ⟨(w (0, 8, 0) 1).toNat, by omega⟩
      have e0 : (w (0, 8, 0) 1).toNat = n := by omega
      have e0r : (w (3, 0, 0) 1).toNat = n := by omega
      have eM : rfnd W x y d = st1 (st1 (st1 (st1 (st1 (st1 (th0 W) (3, 0, 1) n x) (3, 0, 2) n y) (3, 0, 5) n 24) (4, 0, 1) n d) (4, 0, 2) n (-1)) (3, 0, 0) 1 (w (3, 0, 0) 1 + 1) := by
        unfold rfnd
        rw [eW1, e0r]
      have k4 : ∀ q j, ¬ (q = 1 ∨ q = 2) → rfnd W x y d (4, 0, q) j = w (4, 0, q) j := fun q j hq => by
        rw [eM, st1_k (by simp), st1_k (by simp; omega), st1_k (by simp; omega), st1_k (by simp), st1_k (by simp), st1_k (by simp), k_th0 (fun z => absurd z (by decide)), hR 4 0 q j (by decide) (by decide)]
      have k5 : ∀ q j, rfnd W x y d (5, 0, q) j = w (5, 0, q) j := fun q j => by
        rw [eM, st1_k (by simp), st1_k (by simp), st1_k (by simp), st1_k (by simp), st1_k (by simp), st1_k (by simp), k_th0 (fun z => absurd z (by decide)), hR 5 0 q j (by decide) (by decide)]
      have k3 : ∀ q j, q ≠ 0 → q ≠ 1 → q ≠ 2 → q ≠ 5 → rfnd W x y d (3, 0, q) j = w (3, 0, q) j := fun q j a b e f => by
        rw [eM, st1_k (by simp; omega), st1_k (by simp), st1_k (by simp), st1_k (by simp; omega), st1_k (by simp; omega), st1_k (by simp; omega), k_th0 (fun _ z => absurd z a), hR 3 0 q j (by decide) (by decide)]
      have k41 : ∀ j, rfnd W x y d (4, 0, 1) j = if j = n then d else w (4, 0, 1) j := fun j => by
        rw [eM, st1_k (by simp), st1_k (by simp)]
        by_cases e : j = n
        · rw [if_pos e, e, st1_eq]
        · rw [if_neg e, st1_j e, st1_k (by simp), st1_k (by simp), st1_k (by simp), k_th0 (fun z => absurd z (by decide)), hR 4 0 1 j (by decide) (by decide)]
      have k31 : ∀ j, rfnd W x y d (3, 0, 1) j = if j = n then x else w (3, 0, 1) j := fun j => by
        rw [eM, st1_k (by simp), st1_k (by simp), st1_k (by simp), st1_k (by simp), st1_k (by simp)]
        by_cases e : j = n
        · rw [if_pos e, e, st1_eq]
        · rw [if_neg e, st1_j e, k_th0 (fun _ z => absurd z (by decide)), hR 3 0 1 j (by decide) (by decide)]
      have k32 : ∀ j, rfnd W x y d (3, 0, 2) j = if j = n then y else w (3, 0, 2) j := fun j => by
        rw [eM, st1_k (by simp), st1_k (by simp), st1_k (by simp), st1_k (by simp)]
        by_cases e : j = n
        · rw [if_pos e, e, st1_eq]
        · rw [if_neg e, st1_j e, st1_k (by simp), k_th0 (fun _ z => absurd z (by decide)), hR 3 0 2 j (by decide) (by decide)]
      have k301 : rfnd W x y d (3, 0, 0) 1 = w (3, 0, 0) 1 + 1 := by rw [eM, st1_eq]
      have k302 : rfnd W x y d (3, 0, 0) 2 = w (3, 0, 0) 2 := by
        rw [eM, st1_j (by decide), st1_k (by simp), st1_k (by simp), st1_k (by simp), st1_k (by simp), st1_k (by simp), k_th0 (fun _ _ => by decide), hR 3 0 0 2 (by decide) (by decide)]
      have eAV2 : s0addV w 0 x y d = st1 (st1 (st1 (st1 w (0, n, 0) 0 x) (0, n, 0) 1 y) (0, n, 0) 2 d) (0, 8, 0) 1 (w (0, 8, 0) 1 + 1) := by rw [eAV, e0]
      have hn8 : ¬ n = 8 := by omega
      have hn8' : ¬ 8 = n := by omega
      have c8 : ∀ q j, ¬ (q = 0 ∧ j = 1) → s0addV w 0 x y d (0, 8, q) j = w (0, 8, q) j := fun q j hq => by
        rw [eAV2]
        by_cases e : q = 0
        · have hj : j ≠ 1 := fun z => hq ⟨e, z⟩
          simp [st1, e, hn8', hj]
        · simp [st1, e]
      have c81 : s0addV w 0 x y d (0, 8, 0) 1 = w (0, 8, 0) 1 + 1 := by rw [eAV2]; exact st1_eq _ _ _ _
      obtain ⟨u1, u2⟩ := h.up
      have u1b := u1
      obtain ⟨a1, a2, a3, a4, a5, a6⟩ := u1
      have hLL : LI (s0addV w 0 x y d) 0 (200 * (c + 1)) (1600 * (c + 1)) (fun _ => 22400 * (c + 1)) := by
        refine ⟨by rw [c81]; omega, by rw [c8 0 4 (by decide)]; exact a2, by rw [c8 0 5 (by decide)]; exact a3, by rw [c8 0 6 (by decide)]; exact a4, fun j hj => ?_, fun v hv => ?_⟩
        · rw [c8 0 4 (by decide)] at hj
          rw [c8 2 j (by omega)]
          exact a5 j hj
        · obtain ⟨b1, b2, b3, b4, b5, b6, b7, b8, b9, b10⟩ := a6 v hv
          by_cases e : v = n
          · subst e
            rw [eAV2]
            unfold vOK
            simp [st1, hn8]
            exact ⟨⟨c1.1.1, c1.1.2, c1.2.1.1, c1.2.1.2⟩, ⟨by omega, c1.2.2.2⟩, b3, b4, b5, b6, b7, b8, b9, b10⟩
          · refine (a6 v hv).cg (fun j => ?_) ?_
            · rw [eAV2, st1_k (by simp; omega), st1_k (by simp [e]), st1_k (by simp [e]), st1_k (by simp [e])]
            · rw [eAV2, st1_k (by simp), st1_k (by simp), st1_k (by simp), st1_k (by simp)]
      obtain ⟨N1, D1, hL1⟩ := h.1.2
      refine ⟨?_, fun _ => ?_, GI_fin (W0 := s0addV w 0 x y d) hLL ⟨N1, D1, hL1.k (fun v p j => eA 1 v p j (by decide)) (Int.le_refl _) (Int.le_refl _) (fun _ _ => by show 300000 * (c + 1) ≤ 300000 * (c + 1 + 1); omega)⟩ ?_ ?_ ?_ f1 f2 (fun p hp => ?_) (fun t v p j ht => ?_)⟩
      · rw [eM, st1_j (by decide), st1_k (by simp), st1_k (by simp), st1_k (by simp), st1_k (by simp), st1_k (by simp)]
        exact th0_t
      · rw [eM, st1_k (by simp), st1_k (by simp), st1_k (by simp), st1_k (by simp), st1_k (by simp), st1_k (by simp), th0_6, hW, st1_eq, ← hW, eW1, eVw]
      · obtain ⟨q1, q2, q3, q4, q5, q6, q7, q8, q9, q10⟩ := h.2.1.1
        refine ⟨by rw [k4 0 0 (by decide)]; omega, by rw [k4 0 1 (by decide)]; omega, by rw [k4 0 2 (by decide)]; exact q3, fun j hj => ?_, q5.cg (fun j => k4 3 j (by decide)), q6.cg (fun j => k4 4 j (by decide)), q7.cg (fun j => k4 5 j (by decide)), (q8.cg (fun j => k4 7 j (by decide))).mono (Int.le_refl _) (by omega), q9.cg (fun j => k4 8 j (by decide)), q10.cg (fun j => k4 9 j (by decide))⟩
        rw [k41]
        split
        · omega
        · exact q4 j hj
      · obtain ⟨a, b, d', h5⟩ := h.2.1.2.1
        exact ⟨a, b, d', h5.k (fun p j => k5 p j) (Int.le_refl _) (Int.le_refl _) (Int.le_refl _)⟩
      · obtain ⟨m1, m2, m3, m4, m5, m6⟩ := h.2.1.2.2
        refine ⟨by rw [k301]; omega, by rw [k302]; exact m2, fun j hj => ?_, fun j hj => ?_, m5.cg (fun j => k3 4 j (by decide) (by decide) (by decide) (by decide)), m6.cg (fun j => k3 7 j (by decide) (by decide) (by decide) (by decide))⟩
        · rw [k31]
          split
          · omega
          · exact m3 j hj
        · rw [k32]
          split
          · omega
          · exact m4 j hj
      · rw [c8 0 4 (by decide)] at hp
        rw [c8 1 p (by omega), k3 6 p (by decide) (by decide) (by decide) (by decide)]
        exact h.2.2.2.2 p hp
      · rw [eM, st1_k (by simp; omega), st1_k (by simp; omega), st1_k (by simp; omega), st1_k (by simp; omega), st1_k (by simp; omega), st1_k (by simp; omega), k_th0 (fun q => by omega), hW, k_6 (by omega)]
    · rw [if_pos c1, if_neg c2] at hW hk
      have hW : W = w := hW
      have hk : k = 2 := hk
      have hn := (hrd W (fun p j => by rw [hW])).mpr c2
      rw [if_pos c1, if_pos c1, if_pos hn, if_pos hn, hk, hW]
      exact OK_thn h (by decide)
  · rw [if_neg c1] at hW hk
    have hW : W = w := hW
    have hk : k = 1 := hk
    rw [if_neg c1, if_neg c1, hk, hW]
    exact OK_thn h (by decide)
