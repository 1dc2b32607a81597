/-! the tie: steps of tell, pass, phrase, found -/
theorem GI_dyn {c : Int} {w W0 W M : Mm} (h : GI c w) (hL : LI W0 0 (200 * (c + 1)) (1600 * (c + 1)) (fun _ => 22400 * (c + 1))) (h1 : ∀ v p j, W0 (1, v, p) j = w (1, v, p) j) (hM0 : ∀ t x p j, t ≤ 1 → M (t, x, p) j = W0 (t, x, p) j) (hS : SI M 4 (200 * (c + 1)) (1600 * (c + 1)) (204800 * (c + 1))) (hG : GR c (th0 W)) (hsl : sloc 4 (th0 W) M) (hT : TT W0 M 0 4) (hU : UU W0 M) (ht8 : ∀ p j, p = 0 ∧ j = 4 ∨ p = 1 → W0 (0, 8, p) j = w (0, 8, p) j) (htn : ∀ p : Nat, (p : Int) < w (0, 8, 0) 4 → w (0, 8, 1) p = th0 W (3, 0, 6) p) : GI (c + 1) M := by
  obtain ⟨N1, D1, hL1⟩ := h.1.2
  refine GI_fin (W0 := W0) hL ⟨N1, D1, hL1.k (fun x p j => h1 x p j) (Int.le_refl _) (Int.le_refl _) (fun _ _ => by show 300000 * (c + 1) ≤ 300000 * (c + 1 + 1); omega)⟩ hS ?_ (hG.2.2.sl hsl (by decide)) hT hU (fun p hp => ?_) hM0
  · obtain ⟨a, b, d, h5⟩ := hG.2.1
    exact ⟨a, b, d, h5.k (fun p j => hsl _ j (show (5 : Nat) ≠ 4 by decide)) (Int.le_refl _) (Int.le_refl _) (Int.le_refl _)⟩
  · rw [ht8 0 4 (Or.inl ⟨rfl, rfl⟩)] at hp
    rw [ht8 1 p (Or.inr rfl), hsl _ p (show (3 : Nat) ≠ 4 by decide)]
    exact htn p hp
theorem st_tell {c : Int} {w W : Mm} {k v p : Int} (h : GI c w) (hW : W = wr6 (if lV w v ∧ lP w p then (if w (0, v.toNat, 0) 9 < 5 then none else eS) else eI) w (s2take w 0 v.toNat p (w (0, 8, 0) 5)) (s2take w 0 v.toNat p (w (0, 8, 0) 5) (0, v.toNat, 0) 9)) (hk : k = cd xI (if lV w v ∧ lP w p then (if w (0, v.toNat, 0) 9 < 5 then none else eS) else eI)) :
    OKs c k (if isV W v ∧ isP W p then (if W (4, 0, 4) v.toNat = 5 then thn W 2 else rput (rlrn (th0 W) 4 v p) 4 v p) else thn W 1) (if isV W v ∧ isP W p then (if W (4, 0, 4) v.toNat = 5 then 0 else W (4, 0, 4) v.toNat + 1) else 0) := by
  have hV := h.1.1.1
  have hP := h.1.1.2.1
  by_cases c1 : lV w v ∧ lP w p
  · have hvn : ((v.toNat : Nat) : Int) < w (0, 8, 0) 1 := by have := c1.1.1; have := c1.1.2; omega
    have hpn : ((p.toNat : Nat) : Int) < w (0, 8, 0) 4 := by have := c1.2.1; have := c1.2.2; omega
    have hq9 := (h.2.2.1.q hvn).1
    have hb9 := (h.1.1.v (v := v.toNat) (by omega)).2.2.2.2.2.2.2.1
    by_cases c2 : w (0, v.toNat, 0) 9 < 5
    · rw [if_pos c1, if_pos c2] at hW hk
      have hW : W = st1 (s2take w 0 v.toNat p (w (0, 8, 0) 5)) (6, 0, 0) 0 (s2take w 0 v.toNat p (w (0, 8, 0) 5) (0, v.toNat, 0) 9) := hW
      have hk : k = 0 := hk
      have hR : ∀ t x p' j, t ≠ 6 → t ≠ 0 → W (t, x, p') j = w (t, x, p') j := fun t x p' j h6 h0 => by rw [hW, k_6 h6]; exact s2take_loc _ j (fun q => h0 q.1)
      have hm : isV W v ∧ isP W p := ⟨(isV_w h (hR 3 0 0 1 (by decide) (by decide))).mpr c1.1, (isP_w h (hR 3 0 0 2 (by decide) (by decide))).mpr c1.2⟩
      have h5 : ¬ W (4, 0, 4) v.toNat = 5 := by rw [hR 4 0 4 _ (by decide) (by decide)]; omega
      rw [if_pos hm, if_pos hm, if_neg h5, if_neg h5, hk]
      obtain ⟨t1, t2, t3, t4⟩ := h.R (W := W) (fun t x p' j h2 h6 => hR t x p' j h6 (by omega))
      have ev : ((v.toNat : Nat) : Int) = v := Int.toNat_of_nonneg c1.1.1
      have ep : ((p.toNat : Nat) : Int) = p := Int.toNat_of_nonneg c1.2.1
      obtain ⟨g1, g2⟩ := tell_sim (u := 4) (by decide) h.1.1 t1 hvn hpn c2
      rw [ev, ep] at g1
      rw [ep] at g2
      have hq4 : th0 W (4, 0, 4) v.toNat = w (4, 0, 4) v.toNat := by rw [k_th0 (fun q => absurd q (by decide)), hR 4 0 4 _ (by decide) (by decide)]
      have hsl : sloc 4 (th0 W) (rput (rlrn (th0 W) 4 v p) 4 v p) := fun k j hk => (rput_off (fun q => hk (by rw [q])) (fun q => hk (by rw [q]))).trans (rlrn_off (fun q => hk (by rw [q])))
      refine ⟨(hsl _ 0 (by decide)).trans th0_t, fun _ => ?_, GI_dyn (W0 := s2take w 0 v.toNat p (w (0, 8, 0) 5)) (W := W) h ((LI_take h.up.1 (by omega))) (fun x p' j => s2take_loc _ j (fun q => absurd (show (1 : Nat) = 0 from q.1) (by decide))) (fun t x p' j ht => ?_) ?_ t3 hsl g1 (fun x h8 hx => ?_) (fun q j _ => s2take_loc _ j (fun z => absurd (show 8 = v.toNat from z.2) (by omega))) t4⟩
      · rw [hsl _ 0 (by decide), th0_6, hW, st1_eq, ← hW, g2, hR 4 0 4 _ (by decide) (by decide), hq9]
      · rw [hsl _ j (by show t ≠ 4; omega), k_th0 (fun q => by omega), hW, k_6 (by omega)]
      · exact (SI_tl t3.1 ⟨c1.1.1, by omega⟩ ⟨c1.2.1, by omega⟩ (by rw [hq4]; omega)).k (fun _ _ => rfl) (by omega) (by omega) (by omega)
      · have e8 : s2take w 0 v.toNat p (w (0, 8, 0) 5) (0, 8, 0) 1 = w (0, 8, 0) 1 := s2take_loc _ 1 (fun z => absurd (show 8 = v.toNat from z.2) (by omega))
        rw [e8] at hx
        obtain ⟨u1, u2, u3, u4, u5, u6, u7, u8, u9, u10⟩ := t2 x h8 hx
        have hxv : x ≠ v.toNat := by omega
        have ec : ∀ q j, s2take w 0 v.toNat p (w (0, 8, 0) 5) (0, x, q) j = w (0, x, q) j := fun q j => s2take_loc _ j (fun z => hxv z.2)
        have e3 : ∀ q j, rput (rlrn (th0 W) 4 v p) 4 v p (3, 0, q) j = th0 W (3, 0, q) j := fun q j => hsl _ j (show (3 : Nat) ≠ 4 by decide)
        have hdr := DR_take (m := th0 W) (u := 4) (v := v.toNat) (x := x) (p := p.toNat) rfl (by omega) (by rw [hq4]; omega) (by rw [hq4]; omega)
        rw [ev, ep, if_neg hxv] at hdr
        exact ⟨by rw [ec, e3]; exact u1, by rw [ec, e3]; exact u2, by rw [ec]; exact u3, by rw [ec]; exact u4, by rw [ec]; exact u5, ((rput_off (by simp) (by simp)).trans (rlrn_off (by simp))).trans u6, by rw [hdr, ← u7]; exact DC_cg (ec _ _) (fun j _ => ec _ _) (fun j _ => ec _ _) (ec _ _), by rw [ec]; exact u8, fun q hq => by rw [ec]; exact u9 q hq, by rw [ec]; exact u10⟩
    · rw [if_pos c1, if_neg c2] at hW hk
      have hW : W = w := hW
      have hk : k = 2 := hk
      have hm : isV W v ∧ isP W p := ⟨(isV_w h (by rw [hW])).mpr c1.1, (isP_w h (by rw [hW])).mpr c1.2⟩
      have h5 : W (4, 0, 4) v.toNat = 5 := by rw [hW]; omega
      rw [if_pos hm, if_pos hm, if_pos h5, if_pos h5, hk, hW]
      exact OK_thn h (by decide)
  · rw [if_neg c1] at hW hk
    have hW : W = w := hW
    have hk : k = 1 := hk
    have hm : ¬ (isV W v ∧ isP W p) := fun q => c1 ⟨(isV_w h (by rw [hW])).mp q.1, (isP_w h (by rw [hW])).mp q.2⟩
    rw [if_neg hm, if_neg hm, hk, hW]
    exact OK_thn h (by decide)
theorem hs_pass {c : Int} {w W : Mm} (h : GI c w) (hW : ∀ t v p j, 2 ≤ t → t ≠ 6 → W (t, v, p) j = w (t, v, p) j) (i : Nat) : rgo (th0 W) 4 i (4, 0, 0) 2 ≤ 896 := by
  obtain ⟨t1, t2, t3, t4⟩ := h.R (W := W) hW
  exact (go_all (by decide) i h.1.1 t3.1 t3.2.2 t1).2.2.2.2.1 i (Nat.le_refl i)
theorem st_pass {c : Int} {w W : Mm} {k n : Int} (h : GI c w) (hW : W = wr6 (if 1 ≤ n ∧ n ≤ 200 then none else eA) w (s0go 0 n.toNat w).1 (s0go 0 n.toNat w).2) (hk : k = cd xA (if 1 ≤ n ∧ n ≤ 200 then none else eA)) :
    OKs c k (if 1 ≤ n ∧ n ≤ 200 then rgo (th0 W) 4 n.toNat else thn W 1) (if 1 ≤ n ∧ n ≤ 200 then ((rgl (th0 W) 4 n.toNat : Nat) : Int) else 0) := by
  by_cases c1 : 1 ≤ n ∧ n ≤ 200
  · rw [if_pos c1] at hW hk
    have hW : W = st1 (s0go 0 n.toNat w).1 (6, 0, 0) 0 (s0go 0 n.toNat w).2 := hW
    have hk : k = 0 := hk
    have hR : ∀ t x p' j, t ≠ 6 → t ≠ 0 → W (t, x, p') j = w (t, x, p') j := fun t x p' j h6 h0 => by rw [hW, k_6 h6]; exact s0go_sl _ _ j h0
    rw [if_pos c1, if_pos c1, hk]
    obtain ⟨t1, t2, t3, t4⟩ := h.R (W := W) (fun t x p' j h2 h6 => hR t x p' j h6 (by omega))
    obtain ⟨g1, g2, g3, g4, g5, g6⟩ := go_all (by decide) n.toNat h.1.1 t3.1 t3.2.2 t1
    have gl := (go_sim (by decide) n.toNat h.1.1 t3.1 t3.2.2 t1).2.1
    have hU := go_UU n.toNat h.1.1 t3.1 t3.2.2 t1 t2
    have hc := h.nn
    have e8 : ∀ p j, p = 0 ∧ j = 4 ∨ p = 1 → (s0go 0 n.toNat w).1 (0, 8, p) j = w (0, 8, p) j := by
      have key : ∀ m (x : Mm) (N D : Int) (X : Nat → Int), LI x 0 N D X → ∀ p j, p = 0 ∧ j = 4 ∨ p = 1 → (s0go 0 m x).1 (0, 8, p) j = x (0, 8, p) j := by
        intro m
        induction m with
        | zero => intro x N D X _ p j _; rfl
        | succ m ih =>
          intro x N D X hx p j hpj
          rw [go_cons hx]
          refine (ih _ _ _ _ (LI_beat hx).1 p j hpj).trans ?_
          have hV := hx.1
          have z3 : ∀ (y : Mm) (q : Nat), (q : Int) ≤ x (0, 8, 0) 1 → (s0b3 y 0 q).1 (0, 8, p) j = y (0, 8, p) j := by
            intro y q
            induction q with
            | zero => intro _; rfl
            | succ q iq => intro hq; exact (s2end_loc _ j (fun z => absurd (show 8 = q from z.2) (by omega))).trans (iq (by omega))
          have z2 : ∀ (y : Mm) (q : Nat), (q : Int) ≤ x (0, 8, 0) 1 → s0b2 y 0 q (0, 8, p) j = y (0, 8, p) j := by
            intro y q
            induction q with
            | zero => intro _; rfl
            | succ q iq => intro hq; exact (s2dr_loc _ j (fun z => absurd (show 8 = q from z.2) (by omega))).trans (iq (by omega))
          have z4 : ∀ (y : Mm) (q : Nat), (q : Int) ≤ x (0, 8, 0) 1 → s0b4 y 0 q (0, 8, p) j = y (0, 8, p) j := by
            intro y q
            induction q with
            | zero => intro _; rfl
            | succ q iq => intro hq; exact (s2edb_loc _ j (fun z => absurd (show 8 = q from z.2) (by omega))).trans (iq (by omega))
          have zb : ∀ (y : Mm) (q : Nat), q ≤ 7 → s0beg y 0 q (0, 8, p) j = y (0, 8, p) j := by
            intro y q hq
            have hp : s2pop y 0 q (0, 8, p) j = y (0, 8, p) j := s2pop_loc _ j (fun z => absurd (show 8 = q from z.2) (by omega))
            unfold s0beg
            split
            · exact hp
            · rw [s0snd_0 q (show p < 3 by omega)]
              unfold s0set
              have h6 : ¬ (p = 0 ∧ j = 6) := by omega
              rw [show ∀ (m : Mm) (x : Int), st1 m (0, 8, 0) 6 x (0, 8, p) j = m (0, 8, p) j from fun m x => by unfold st1; rw [if_neg (fun z => h6 ⟨by have := z.1; simp at this; exact this, z.2⟩)], st1_k (by simp; omega), st1_k (by simp; omega)]
              exact hp
          have z1 : ∀ q : Nat, (q : Int) ≤ x (0, 8, 0) 1 → s0b1 x 0 q (0, 8, p) j = x (0, 8, p) j := by
            intro q
            induction q with
            | zero => intro _; rfl
            | succ q iq =>
              intro hq
              unfold s0b1
              split
              · rw [zb _ _ (by omega)]; exact iq (by omega)
              · exact iq (by omega)
          unfold s0beat
          have h5 : ¬ (p = 0 ∧ j = 5) := by omega
          rw [show ∀ (m : Mm) (x : Int), st1 m (0, 8, 0) 5 x (0, 8, p) j = m (0, 8, p) j from fun m x => by unfold st1; rw [if_neg (fun z => h5 ⟨by have := z.1; simp at this; exact this, z.2⟩)]]
          unfold s0w4 s0w3 s0w2 s0w1
          rw [z4 _ _ (by omega), z3 _ _ (by omega), z2 _ _ (by omega), z1 _ (by omega)]
      exact key n.toNat w _ _ _ h.1.1
    refine ⟨(g6 _ 0 (by decide)).trans th0_t, fun _ => ?_, GI_dyn (W0 := (s0go 0 n.toNat w).1) (W := W) h (g2.mono (by omega) (by omega) (fun _ _ => by show 22400 * c + 112 * ((n.toNat : Nat) : Int) ≤ 22400 * (c + 1); omega)) (fun x p' j => s0go_sl _ _ j (show (1 : Nat) ≠ 0 by decide)) (fun t x p' j ht => ?_) (g3.k (fun _ _ => rfl) (by omega) (by omega) (by omega)) t3 g6 g1 hU e8 t4⟩
    · rw [g6 _ 0 (by decide), th0_6, hW, st1_eq, ← hW, gl]
    · rw [g6 _ j (by show t ≠ 4; omega), k_th0 (fun q => by omega), hW, k_6 (by omega)]
  · rw [if_neg c1] at hW hk
    have hW : W = w := hW
    have hk : k = 1 := hk
    rw [if_neg c1, if_neg c1, hk, hW]
    exact OK_thn h (by decide)
/-! a new phrase: the tones -/
theorem ctf_ph {n : Int} (hn : 0 < n) : ∀ (f k : Nat), ctf f (ph n k).1 k = 0 ∨ ctf f (ph n k).1 k ≥ k := by
  intro f
  induction f with
  | zero => intro k; exact Or.inl rfl
  | succ f ih =>
    intro k
    simp only [ctf]
    split
    · exact Or.inr (Nat.le_refl k)
    · split
      · have := ih (k + 1)
        show ctf f ((ph n (k + 1)).1) (k + 1) = 0 ∨ ctf f ((ph n (k + 1)).1) (k + 1) ≥ k
        omega
      · exact Or.inl rfl
theorem ph_nn {n : Int} (hn : 0 ≤ n) : ∀ k, 0 ≤ (ph n k).1
  | 0 => hn
  | k + 1 => by
    have := ph_nn hn k
    show 0 ≤ (ph n k).1 / 10
    omega
/-- all digits so far are tones; the count from here -/
theorem ph_false {n : Int} {k : Nat} (h : (ph n k).2 = false) : ∀ m, (ph n (k + m)).2 = false
  | 0 => h
  | m + 1 => by
    show ((ph n (k + m)).2 && _) = false
    rw [ph_false h m]
    rfl
theorem phk_ge {n : Int} : ∀ (f k : Nat), k ≤ phk n f k
  | 0, k => Nat.le_refl k
  | f + 1, k => by
    simp only [phk]
    split
    · have := phk_ge (n := n) f (k + 1)
      omega
    · exact Nat.le_refl k
/-- the two searches, from the k-th digit on: f is room enough for the one, 9 - k for the other -/
theorem tones_eq {n : Int} (hn : 0 < n) : ∀ (g k f : Nat), k + g = 9 → (ph n k).1.toNat < f → (ph n k).2 = true → (((ph n (phk n f k)).2 = true ∧ phk n f k ≤ 8) ↔ (0 < ctf g (ph n k).1 k ∨ (ph n k).1 = 0 ∧ k ≤ 8)) ∧ ((ph n (phk n f k)).2 = true ∧ phk n f k ≤ 8 → phk n f k = ctf g (ph n k).1 k) := by
  intro g
  induction g with
  | zero =>
    intro k f hk hf ht
    have hge := phk_ge (n := n) f k
    refine ⟨⟨fun q => by omega, fun q => ?_⟩, fun q => by omega⟩
    rcases q with q | q
    · simp [ctf] at q
    · omega
  | succ g ih =>
    intro k f hk hf ht
    have h0 := ph_nn (n := n) (by omega) k
    obtain ⟨f, rfl⟩ : ∃ f', f = f' + 1 := ⟨f - 1, by omega⟩
    by_cases c0 : (ph n k).1 = 0
    · have e1 : phk n (f + 1) k = k := by simp [phk, c0]
      have e2 : ctf (g + 1) (ph n k).1 k = k := by simp [ctf, c0]
      rw [e1, e2]
      exact ⟨⟨fun q => Or.inr ⟨c0, q.2⟩, fun _ => ⟨ht, by omega⟩⟩, fun _ => rfl⟩
    · have e1 : phk n (f + 1) k = phk n f (k + 1) := by
        simp only [phk]
        rw [if_pos (by omega)]
      rw [e1]
      by_cases c1 : (ph n k).1 % 10 = 1 ∨ (ph n k).1 % 10 = 2
      · have em : (ph n k).1.tmod 10 = (ph n k).1 % 10 := Int.tmod_eq_emod_of_nonneg h0
        have e2 : ctf (g + 1) (ph n k).1 k = ctf g (ph n (k + 1)).1 (k + 1) := by
          simp only [ctf]
          rw [if_neg c0, if_pos (by rw [em]; exact c1)]
          rfl
        have ht2 : (ph n (k + 1)).2 = true := by
          show ((ph n k).2 && decide (1 ≤ (ph n k).1 % 10 ∧ (ph n k).1 % 10 ≤ 2)) = true
          rw [ht, Bool.true_and]
          exact decide_eq_true (by omega)
        obtain ⟨i1, i2⟩ := ih (k + 1) f (by omega) (by show ((ph n k).1 / 10).toNat < f; omega) ht2
        rw [e2]
        refine ⟨⟨fun q => ?_, fun q => ?_⟩, i2⟩
        · have h2 := i2 q
          have h3 := phk_ge (n := n) f (k + 1)
          exact Or.inl (by omega)
        · rcases q with q | q
          · exact i1.mpr (Or.inl q)
          · omega
      · have em : (ph n k).1.tmod 10 = (ph n k).1 % 10 := Int.tmod_eq_emod_of_nonneg h0
        have e2 : ctf (g + 1) (ph n k).1 k = 0 := by
          simp only [ctf]
          rw [if_neg c0, if_neg (by rw [em]; exact c1)]
        have ht2 : (ph n (k + 1)).2 = false := by
          show ((ph n k).2 && decide (1 ≤ (ph n k).1 % 10 ∧ (ph n k).1 % 10 ≤ 2)) = false
          rw [ht, Bool.true_and]
          exact decide_eq_false (by omega)
        have h3 := phk_ge (n := n) f (k + 1)
        have hf2 := ph_false ht2 (phk n f (k + 1) - (k + 1))
        rw [show k + 1 + (phk n f (k + 1) - (k + 1)) = phk n f (k + 1) by omega] at hf2
        rw [e2]
        refine ⟨⟨fun q => ?_, fun q => ?_⟩, fun q => ?_⟩
        · rw [hf2] at q
          exact absurd q.1 (by decide)
        · rcases q with q | q
          · omega
          · exact absurd q.1 c0
        · rw [hf2] at q
          exact absurd q.1 (by decide)
theorem tones_iff {n : Int} : (((ph n (phk n (n.toNat + 1) 0)).2 = true ∧ (2 ≤ ((phk n (n.toNat + 1) 0 : Nat) : Int) ∧ ((phk n (n.toNat + 1) 0 : Nat) : Int) ≤ 8)) ↔ (2 ≤ ctf 9 n 0 ∧ ctf 9 n 0 ≤ 8)) ∧ ((2 ≤ ctf 9 n 0 ∧ ctf 9 n 0 ≤ 8) → phk n (n.toNat + 1) 0 = ctf 9 n 0) := by
  by_cases hn : 0 < n
  · obtain ⟨i1, i2⟩ := tones_eq hn 9 0 (n.toNat + 1) rfl (by show n.toNat < n.toNat + 1; omega) (decide_eq_true hn)
    have e : (ph n 0).1 = n := rfl
    rw [e] at i1 i2
    have back : (2 ≤ ctf 9 n 0 ∧ ctf 9 n 0 ≤ 8) → ((ph n (phk n (n.toNat + 1) 0)).2 = true ∧ phk n (n.toNat + 1) 0 ≤ 8) := fun q => i1.mpr (Or.inl (by omega))
    refine ⟨⟨fun q => ?_, fun q => ?_⟩, fun q => i2 (back q)⟩
    · have h2 := i2 ⟨q.1, by have := q.2.2; omega⟩
      have h3 := q.2.1
      have h4 := q.2.2
      omega
    · have h2 := back q
      have h3 := i2 h2
      exact ⟨h2.1, by omega, by omega⟩
  · have e1 : ctf 9 n 0 = 0 := by
      by_cases h0 : n = 0
      · subst h0; rfl
      · simp only [ctf]
        rw [if_neg h0, if_neg (fun q => by have := (tm10 q).1; omega)]
    have e2 : (ph n 0).2 = false := decide_eq_false hn
    have e3 : phk n (n.toNat + 1) 0 = 0 := by
      simp only [phk]
      rw [if_neg (show ¬ 0 < (ph n 0).1 from hn)]
    rw [e1, e3, e2]
    exact ⟨⟨fun q => absurd q.1 (by decide), fun q => by omega⟩, fun q => by omega⟩
theorem rdp_iff {w : Mm} {n : Int} : ∀ i, rdp w n i = true ↔ (w (3, 0, 0) 2 = 12 ∨ ∃ j, j < i ∧ w (3, 0, 6) j = n)
  | 0 => by simp [rdp]
  | i + 1 => by
    simp only [rdp, Bool.or_eq_true, decide_eq_true_eq]
    rw [rdp_iff i]
    constructor
    · rintro ((h | ⟨j, h1, h2⟩) | h)
      · exact Or.inl h
      · exact Or.inr ⟨j, by omega, h2⟩
      · exact Or.inr ⟨i, by omega, h⟩
    · rintro (h | ⟨j, h1, h2⟩)
      · exact Or.inl (Or.inl h)
      · by_cases e : j = i
        · exact Or.inr (e ▸ h2)
        · exact Or.inl (Or.inr ⟨j, by omega, h2⟩)
theorem rfd_iff {w : Mm} {x y : Int} : ∀ i, rfd w x y i = true ↔ (w (3, 0, 0) 1 = 8 ∨ ∃ j, j < i ∧ w (3, 0, 1) j = x ∧ w (3, 0, 2) j = y)
  | 0 => by simp [rfd]
  | i + 1 => by
    simp only [rfd, Bool.or_eq_true, decide_eq_true_eq]
    rw [rfd_iff i]
    constructor
    · rintro ((h | ⟨j, h1, h2⟩) | h)
      · exact Or.inl h
      · exact Or.inr ⟨j, by omega, h2⟩
      · exact Or.inr ⟨i, by omega, h⟩
    · rintro (h | ⟨j, h1, h2⟩)
      · exact Or.inl (Or.inl h)
      · by_cases e : j = i
        · exact Or.inr (e ▸ h2)
        · exact Or.inl (Or.inr ⟨j, by omega, h2⟩)
