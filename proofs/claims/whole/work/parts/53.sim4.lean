/-! the tie: what is held, and the sounds of a drumming. -/
def SLC (w : Mm) (t v : Nat) : List Sd := slC w t v (w (t, v, 3) 4).toNat
def SLR (w : Mm) (u v : Nat) : List Sd := slR w u v (w (u, 0, 0) 2).toNat
def hT (b T : Int) : Int := if b - T + 13 < 0 then 0 else (b - T + 13) / 2 + 1
def Bu (w : Mm) (t v : Nat) (T : Int) : Int :=
  if w (t, v, 0) 6 = -1 then 2 * hT (w (t, 8, 0) 5) T
  else 2 * (hT (w (t, 8, 0) 5 + w (t, v, 0) 7 - w (t, 8, 2) (w (t, v, 0) 6).toNat) T + (if T ≤ w (t, 8, 0) 5 + w (t, v, 0) 7 + 13 then 1 else 0))
def SB (w : Mm) (t v : Nat) (T : Int) : Int := sumI (fun x => if x = v then 0 else Bu w t x T) (w (t, 8, 0) 1).toNat
def nT (T : Int) (l : List Sd) : Nat := cnt (fun s => decide (T ≤ s.2.2.1)) l
def VI (w : Mm) (t v : Nat) : Prop :=
  ((w (t, v, 0) 6 = -1 ∧ w (t, v, 0) 7 = 0) ∨ ((0 ≤ w (t, v, 0) 6 ∧ w (t, v, 0) 6 < w (t, 8, 0) 4) ∧ 1 ≤ w (t, v, 0) 7 ∧ w (t, v, 0) 7 ≤ w (t, 8, 2) (w (t, v, 0) 6).toNat)) ∧
  (∀ j : Nat, (j : Int) < w (t, v, 0) 9 → 0 ≤ w (t, v, 1) j ∧ w (t, v, 1) j < w (t, 8, 0) 4) ∧
  (∀ s, s ∈ SLC w t v → (0 ≤ s.1 ∧ s.1 < w (t, 8, 0) 4) ∧ w (t, 8, 0) 5 ≤ s.2.2.1 ∧ (s.2.2.2 = 0 ∨ s.2.2.2 = 1)) ∧
  (∀ p : Nat, p < 12 → w (t, 8, 0) 4 ≤ (p : Int) → w (t, v, 2) p = -1) ∧
  (∀ T : Int, w (t, 8, 0) 5 ≤ T → ((nT T (SLC w t v) : Nat) : Int) ≤ SB w t v T)
def RS (wc wr : Mm) (t : Nat) : Prop :=
  wc (t, 8, 0) 1 = wr (3, 0, 0) 1 ∧ wc (t, 8, 0) 4 = wr (3, 0, 0) 2 ∧ (∀ p : Nat, (p : Int) < wc (t, 8, 0) 4 → wc (t, 8, 2) p = wr (3, 0, 7) p) ∧
  ∀ v : Nat, (v : Int) < wc (t, 8, 0) 1 → wc (t, v, 0) 0 = wr (3, 0, 1) v ∧ wc (t, v, 0) 1 = wr (3, 0, 2) v ∧ wc (t, v, 0) 3 = wr (3, 0, 3) v ∧ wc (t, v, 0) 4 = wr (3, 0, 4) v ∧ wc (t, v, 0) 5 = wr (3, 0, 5) v
def VR (wc wr : Mm) (t u v : Nat) : Prop :=
  wc (t, v, 0) 2 = wr (u, 0, 1) v ∧ wc (t, v, 0) 6 = wr (u, 0, 2) v ∧ wc (t, v, 0) 7 = wr (u, 0, 3) v ∧ DC wc t v = DR wr u v ∧ SLC wc t v = SLR wr u v
def RD (wc wr : Mm) (t u : Nat) : Prop :=
  wc (t, 8, 0) 5 = wr (u, 0, 0) 0 ∧ wc (t, 8, 0) 6 = wr (u, 0, 0) 1 ∧ (∀ j : Nat, (j : Int) < wr (u, 0, 0) 2 → 0 ≤ wr (u, 0, 8) j ∧ wr (u, 0, 8) j < wc (t, 8, 0) 1) ∧
  ∀ v : Nat, (v : Int) < wc (t, 8, 0) 1 → VR wc wr t u v
/-! sums -/
theorem sumI_le {f g : Nat → Int} : ∀ n : Nat, (∀ i, i < n → f i ≤ g i) → sumI f n ≤ sumI g n
  | 0, _ => Int.le_refl 0
  | n + 1, h => by
    have h1 := sumI_le n (fun i hi => h i (by omega))
    have h2 := h n (by omega)
    simp only [sumI]
    omega
theorem sum_1614 {v n : Nat} (hne : v ≠ n) : ∀ V : Nat, sumI (fun x => if x = v then 0 else if x = n then 14 else 16) V + (if v < V then 16 else 0) + (if n < V then 2 else 0) = 16 * (V : Int)
  | 0 => by rw [if_neg (Nat.not_lt_zero v), if_neg (Nat.not_lt_zero n)]; rfl
  | V + 1 => by
    have ih := sum_1614 hne V
    simp only [sumI]
    by_cases e1 : V = v
    · subst e1
      rw [if_pos rfl, if_pos (Nat.lt_succ_self _)]
      rw [if_neg (Nat.lt_irrefl _)] at ih
      by_cases e2 : n < V
      · rw [if_pos e2] at ih
        rw [if_pos (by omega)]
        omega
      · rw [if_neg e2] at ih
        rw [if_neg (by omega)]
        omega
    · rw [if_neg e1]
      by_cases e2 : V = n
      · subst e2
        rw [if_pos rfl, if_pos (show V < V + 1 by omega)]
        rw [if_neg (Nat.lt_irrefl _)] at ih
        by_cases e3 : v < V
        · rw [if_pos e3] at ih
          rw [if_pos (by omega)]
          omega
        · rw [if_neg e3] at ih
          rw [if_neg (by omega)]
          omega
      · rw [if_neg e2]
        by_cases e3 : v < V <;> by_cases e4 : n < V
        · rw [if_pos e3, if_pos e4] at ih
          rw [if_pos (by omega), if_pos (by omega)]
          omega
        · rw [if_pos e3, if_neg e4] at ih
          rw [if_pos (by omega), if_neg (by omega)]
          omega
        · rw [if_neg e3, if_pos e4] at ih
          rw [if_neg (by omega), if_pos (by omega)]
          omega
        · rw [if_neg e3, if_neg e4] at ih
          rw [if_neg (by omega), if_neg (by omega)]
          omega
theorem hT_0 (b T : Int) : 0 ≤ hT b T := by
  unfold hT
  split <;> omega
theorem hT_m {b b' T : Int} (h : b ≤ b') : hT b T ≤ hT b' T := by
  unfold hT
  (repeat' split) <;> omega
theorem hT_7 {b T : Int} (h : b ≤ T) : hT b T ≤ 7 := by
  unfold hT
  split <;> omega
/-- a drumming that ends -/
theorem hT_e {a e T : Int} (h : a + 2 ≤ e) : hT a T + (if T ≤ e + 13 then 1 else 0) ≤ hT e T := by
  unfold hT
  (repeat' split) <;> omega
theorem Bu_16 {w : Mm} {t v : Nat} (h : (w (t, v, 0) 6 = -1 ∧ w (t, v, 0) 7 = 0) ∨ ((0 ≤ w (t, v, 0) 6 ∧ w (t, v, 0) 6 < w (t, 8, 0) 4) ∧ 1 ≤ w (t, v, 0) 7 ∧ w (t, v, 0) 7 ≤ w (t, 8, 2) (w (t, v, 0) 6).toNat)) : Bu w t v (w (t, 8, 0) 5) ≤ 16 ∧ (w (t, v, 0) 6 = -1 → Bu w t v (w (t, 8, 0) 5) ≤ 14) ∧ 0 ≤ Bu w t v (w (t, 8, 0) 5) := by
  unfold Bu
  by_cases e : w (t, v, 0) 6 = -1
  · rw [if_pos e]
    have := hT_7 (Int.le_refl (w (t, 8, 0) 5))
    have := hT_0 (w (t, 8, 0) 5) (w (t, 8, 0) 5)
    omega
  · rw [if_neg e]
    have h2 := h.resolve_left (fun q => e q.1)
    have := hT_7 (b := w (t, 8, 0) 5 + w (t, v, 0) 7 - w (t, 8, 2) (w (t, v, 0) 6).toNat) (T := w (t, 8, 0) 5) (by omega)
    have := hT_0 (w (t, 8, 0) 5 + w (t, v, 0) 7 - w (t, 8, 2) (w (t, v, 0) 6).toNat) (w (t, 8, 0) 5)
    split <;> omega
theorem nT_len {b : Int} {l : List Sd} (h : ∀ s, s ∈ l → b ≤ s.2.2.1) : nT b l = l.length := by
  unfold nT cnt
  rw [List.filter_eq_self.mpr (fun s hs => decide_eq_true (h s hs))]
/-- how many sounds there are at most: ahead of the beginning of one's drumming, and ever -/
theorem VI_size {w : Mm} {t v n : Nat} (hV : w (t, 8, 0) 1 ≤ 8) (hv : (v : Int) < w (t, 8, 0) 1) (hI : ∀ x : Nat, (x : Int) < w (t, 8, 0) 1 → VI w t x) : ((SLC w t v).length : Int) ≤ 112 ∧ (v ≠ n → (n : Int) < w (t, 8, 0) 1 → w (t, n, 0) 6 = -1 → ((SLC w t v).length : Int) ≤ 110) := by
  obtain ⟨-, -, i3, -, i5⟩ := hI v hv
  have h5 := i5 _ (Int.le_refl _)
  rw [nT_len (fun s hs => (i3 s hs).2.1)] at h5
  have key : ∀ m : Nat, v ≠ m → (∀ x : Nat, (x : Int) < w (t, 8, 0) 1 → x = m → w (t, x, 0) 6 = -1) → SB w t v (w (t, 8, 0) 5) ≤ sumI (fun x => if x = v then 0 else if x = m then 14 else 16) (w (t, 8, 0) 1).toNat := by
    intro m hm hmd
    refine sumI_le _ (fun x hx => ?_)
    have hb := Bu_16 (hI x (by omega)).1
    by_cases e : x = v
    · rw [if_pos e, if_pos e]
      exact Int.le_refl _
    · rw [if_neg e, if_neg e]
      by_cases e2 : x = m
      · rw [if_pos e2]
        exact hb.2.1 (hmd x (by omega) e2)
      · rw [if_neg e2]
        exact hb.1
  refine ⟨?_, fun hne hn hd => ?_⟩
  · have h9 := key (v + 100) (by omega) (fun x hx e => by omega)
    have hs := sum_1614 (v := v) (n := v + 100) (by omega) (w (t, 8, 0) 1).toNat
    rw [if_pos (by omega), if_neg (by omega)] at hs
    omega
  · have h9 := key n hne (fun x hx e => by rw [e]; exact hd)
    have hs := sum_1614 (v := v) (n := n) hne (w (t, 8, 0) 1).toNat
    rw [if_pos (by omega), if_pos (by omega)] at hs
    omega
/-! a sound is added -/
theorem SLC_add {x : Mm} {t k v : Nat} {p f b : Int} (h : 0 ≤ x (t, k, 3) 4 ∧ x (t, k, 3) 4 < 112) : SLC (s1add x t k p f b) t v = if v = k then SLC x t v ++ [(p, f, f + b - 1, 0)] else SLC x t v := by
  unfold SLC
  by_cases e : v = k
  · subst e
    rw [if_pos rfl]
    have e4 : s1add x t v p f b (t, v, 3) 4 = x (t, v, 3) 4 + 1 := by
      unfold s1add
      rw [if_pos h.2, st1_eq]
    rw [e4, show (x (t, v, 3) 4 + 1).toNat = (x (t, v, 3) 4).toNat + 1 by omega]
    simp only [slC]
    rw [slC_cg (w := x) (t := t) (v := v) _ (fun j hj => ?_)]
    · congr 2
      unfold s1add
      rw [if_pos h.2]
      simp [sdC, st1]
    · have h1 : j ≠ (x (t, v, 3) 4).toNat := by omega
      unfold s1add
      rw [if_pos h.2]
      simp [sdC, st1, h1]
  · rw [if_neg e]
    have e4 : ∀ q j, s1add x t k p f b (t, v, q) j = x (t, v, q) j := fun q j => s1add_loc _ j (fun z => e z.2)
    rw [e4]
    exact slC_cg _ (fun j _ => by unfold sdC; rw [e4, e4, e4, e4])
theorem SLR_sd {x : Mm} {u k v : Nat} {p a : Int} (h : 0 ≤ x (u, 0, 0) 2) : SLR (rsd x u (k : Int) p a) u v = if v = k then SLR x u v ++ [(p, a, a + x (3, 0, 7) p.toNat - 1, 0)] else SLR x u v := by
  unfold SLR
  rw [rsd_2, show (x (u, 0, 0) 2 + 1).toNat = (x (u, 0, 0) 2).toNat + 1 by omega]
  simp only [slR]
  have e8 : rsd x u (k : Int) p a (u, 0, 8) (x (u, 0, 0) 2).toNat = (k : Int) := by simp [rsd, st1]
  have es : sdR (rsd x u (k : Int) p a) u (x (u, 0, 0) 2).toNat = (p, a, a + x (3, 0, 7) p.toNat - 1, 0) := by simp [sdR, rsd, st1]
  have er : slR (rsd x u (k : Int) p a) u v (x (u, 0, 0) 2).toNat = slR x u v (x (u, 0, 0) 2).toNat := by
    refine slR_cg _ (fun j hj => ?_) (fun j hj _ => ?_)
    · have h1 : j ≠ (x (u, 0, 0) 2).toNat := by omega
      simp [rsd, st1, h1]
    · have h1 : j ≠ (x (u, 0, 0) 2).toNat := by omega
      simp [sdR, rsd, st1, h1]
  rw [e8, es, er]
  by_cases e : v = k
  · subst e
    rw [if_pos rfl, if_pos rfl]
  · rw [if_neg (by omega), if_neg e]
/-- the sounds of a drumming of n at v -/
def adC (w : Mm) (t n : Nat) (p b : Int) (v : Nat) : List Sd :=
  if ¬ v = n ∧ hears w t n v then
    (if w (t, n, 0) 3 = 0 then [(p, s0sf w t n v, s0sf w t n v + b - 1, 0)] else [(p, s0sf w t n v, s0sf w t n v + b - 1, 0), (p, s0sf w t n v + 4, s0sf w t n v + 4 + b - 1, 0)])
  else []
theorem s0snd_0 {w : Mm} {t v q j : Nat} {p b : Int} (n : Nat) (hq : q < 3) {k : Nat} : s0snd w t n p b k (t, v, q) j = w (t, v, q) j := s0snd_off (by simp; omega) (by simp; omega) (by simp; omega) (by simp; omega) (by simp; omega) k
theorem adC_cg {w w' : Mm} {t n v : Nat} {p b : Int} (h0 : ∀ x j, w' (t, x, 0) j = w (t, x, 0) j) : adC w' t n p b v = adC w t n p b v := by
  unfold adC s0sf hears s2dist
  simp only [h0]
theorem s0snd_sim {w : Mm} {t n : Nat} {p b : Int} (hs : ∀ v : Nat, (v : Int) < w (t, 8, 0) 1 → v ≠ n → 0 ≤ w (t, v, 3) 4 ∧ w (t, v, 3) 4 ≤ 110) : ∀ k : Nat, (k : Int) ≤ w (t, 8, 0) 1 → ∀ v, SLC (s0snd w t n p b k) t v = SLC w t v ++ (if v < k then adC w t n p b v else [])
  | 0, _, v => by rw [if_neg (Nat.not_lt_zero v), List.append_nil]; rfl
  | k + 1, hk, v => by
    have ih := s0snd_sim (p := p) (b := b) hs k (by omega)
    have e0 : ∀ x j, s0snd w t n p b k (t, x, 0) j = w (t, x, 0) j := fun x j => s0snd_0 n (by decide)
    have e8 : ∀ j, s0snd w t n p b k (t, 8, 0) j = w (t, 8, 0) j := fun j => s0snd_0 n (by decide)
    have hz : k ≠ n → 0 ≤ s0snd w t n p b k (t, k, 3) 4 ∧ s0snd w t n p b k (t, k, 3) 4 ≤ 110 := fun hkn => by
      have : s0snd w t n p b k (t, k, 3) 4 = w (t, k, 3) 4 := by
        have aux : ∀ m, m ≤ k → s0snd w t n p b m (t, k, 3) 4 = w (t, k, 3) 4 := by
          intro m
          induction m with
          | zero => intro _; rfl
          | succ m im =>
            intro hm
            have al : ∀ (y : Mm) (f : Int), s1add y t m p f b (t, k, 3) 4 = y (t, k, 3) 4 := fun y f => s1add_loc _ 4 (fun z => absurd (show k = m from z.2) (by omega))
            unfold s0snd
            split
            · split
              · rw [al]; exact im (by omega)
              · rw [al, al]; exact im (by omega)
            · exact im (by omega)
        exact aux k (Nat.le_refl k)
      rw [this]
      exact hs k (by omega) hkn
    have hcond : (hears (s0snd w t n p b k) t n k ↔ hears w t n k) := by
      unfold hears s2dist
      simp only [e0]
    have hsf : s0sf (s0snd w t n p b k) t n k = s0sf w t n k := by
      unfold s0sf s2dist
      simp only [e0]
    unfold s0snd
    by_cases c1 : ¬ k = n ∧ hears w t n k
    · have z := hz c1.1
      rw [if_pos (show ¬ k = n ∧ hears (s0snd w t n p b k) t n k from ⟨c1.1, hcond.mpr c1.2⟩), e0, hsf]
      by_cases c2 : w (t, n, 0) 3 = 0
      · rw [if_pos c2, SLC_add ⟨z.1, by omega⟩, ih]
        by_cases e : v = k
        · subst e
          rw [if_pos rfl, if_neg (Nat.lt_irrefl _), if_pos (Nat.lt_succ_self _), List.append_nil]
          unfold adC
          rw [if_pos c1, if_pos c2]
        · rw [if_neg e]
          by_cases e2 : v < k
          · rw [if_pos e2, if_pos (by omega)]
          · rw [if_neg e2, if_neg (by omega)]
      · rw [if_neg c2]
        have z2 : s1add (s0snd w t n p b k) t k p (s0sf w t n k) b (t, k, 3) 4 = s0snd w t n p b k (t, k, 3) 4 + 1 := by
          unfold s1add
          rw [if_pos (by omega), st1_eq]
        rw [SLC_add (by rw [z2]; omega), SLC_add ⟨z.1, by omega⟩, ih]
        by_cases e : v = k
        · subst e
          rw [if_pos rfl, if_pos rfl, if_neg (Nat.lt_irrefl _), if_pos (Nat.lt_succ_self _), List.append_nil]
          unfold adC
          rw [if_pos c1, if_neg c2, List.append_assoc]
          rfl
        · rw [if_neg e, if_neg e]
          by_cases e2 : v < k
          · rw [if_pos e2, if_pos (by omega)]
          · rw [if_neg e2, if_neg (by omega)]
    · rw [if_neg (fun q => c1 ⟨q.1, hcond.mp q.2⟩), ih]
      by_cases e : v = k
      · subst e
        rw [if_neg (Nat.lt_irrefl _), if_pos (Nat.lt_succ_self _)]
        unfold adC
        rw [if_neg c1]
      · by_cases e2 : v < k
        · rw [if_pos e2, if_pos (by omega)]
        · rw [if_neg e2, if_neg (by omega)]
def adR (w : Mm) (u n : Nat) (p : Int) (v : Nat) : List Sd :=
  if ¬ v = n ∧ rhears w u n v then
    (if w (3, 0, 3) n = 1 then [(p, rsf w u n v, rsf w u n v + w (3, 0, 7) p.toNat - 1, 0), (p, rsf w u n v + 4, rsf w u n v + 4 + w (3, 0, 7) p.toNat - 1, 0)] else [(p, rsf w u n v, rsf w u n v + w (3, 0, 7) p.toNat - 1, 0)])
  else []
theorem rsnd_off {w : Mm} {u n q j : Nat} {p : Int} (hq : q < 8) (h0 : ¬ q = 0) : ∀ k, rsnd w u n p k (u, 0, q) j = w (u, 0, q) j
  | 0 => rfl
  | k + 1 => by
    have ih := rsnd_off (w := w) (u := u) (n := n) (j := j) (p := p) hq h0 k
    have aux : ∀ (y : Mm) (v a : Int), rsd y u v p a (u, 0, q) j = y (u, 0, q) j := fun y v a => rsd_off (by simp; omega) (by simp; omega) (by simp; omega) (by simp; omega) (by simp; omega) (by simp; omega)
    unfold rsnd
    split
    · split
      · rw [aux, aux]; exact ih
      · rw [aux]; exact ih
    · exact ih
theorem rsnd_0 {w : Mm} {u n j : Nat} {p : Int} (hj : j ≠ 2) : ∀ k, rsnd w u n p k (u, 0, 0) j = w (u, 0, 0) j
  | 0 => rfl
  | k + 1 => by
    have ih := rsnd_0 (w := w) (u := u) (n := n) (j := j) (p := p) hj k
    unfold rsnd
    split
    · split
      · rw [rsd_0 hj, rsd_0 hj]; exact ih
      · rw [rsd_0 hj]; exact ih
    · exact ih
theorem rsd_w {w : Mm} {u V : Nat} {v p a : Int} (h0 : 0 ≤ w (u, 0, 0) 2) (h : ∀ j : Nat, (j : Int) < w (u, 0, 0) 2 → 0 ≤ w (u, 0, 8) j ∧ w (u, 0, 8) j < (V : Int)) (hv : 0 ≤ v ∧ v < (V : Int)) : ∀ j : Nat, (j : Int) < rsd w u v p a (u, 0, 0) 2 → 0 ≤ rsd w u v p a (u, 0, 8) j ∧ rsd w u v p a (u, 0, 8) j < (V : Int) := by
  intro j hj
  rw [rsd_2] at hj
  by_cases e : j = (w (u, 0, 0) 2).toNat
  · subst e
    simpa [rsd, st1] using hv
  · have := h j (by omega)
    simpa [rsd, st1, e] using this
theorem rsnd_sim {w : Mm} {u n V : Nat} {p : Int} (hu : u ≠ 3) (h0 : 0 ≤ w (u, 0, 0) 2) (hw : ∀ j : Nat, (j : Int) < w (u, 0, 0) 2 → 0 ≤ w (u, 0, 8) j ∧ w (u, 0, 8) j < (V : Int)) : ∀ k : Nat, k ≤ V → (∀ v, SLR (rsnd w u n p k) u v = SLR w u v ++ (if v < k then adR w u n p v else [])) ∧ 0 ≤ rsnd w u n p k (u, 0, 0) 2 ∧ ∀ j : Nat, (j : Int) < rsnd w u n p k (u, 0, 0) 2 → 0 ≤ rsnd w u n p k (u, 0, 8) j ∧ rsnd w u n p k (u, 0, 8) j < (V : Int)
  | 0, _ => ⟨fun v => by rw [if_neg (Nat.not_lt_zero v), List.append_nil]; rfl, h0, hw⟩
  | k + 1, hk => by
    obtain ⟨ih, i2, i3⟩ := rsnd_sim (n := n) (p := p) hu h0 hw k (by omega)
    have e3 : ∀ q j, rsnd w u n p k (3, 0, q) j = w (3, 0, q) j := fun q j => rsnd_sl k _ j (fun z => hu z.symm)
    have e0 : rsnd w u n p k (u, 0, 0) 0 = w (u, 0, 0) 0 := rsnd_0 (by decide) k
    have e1 : ∀ j, rsnd w u n p k (u, 0, 1) j = w (u, 0, 1) j := fun j => rsnd_off (by decide) (by decide) k
    have hcond : rhears (rsnd w u n p k) u n k ↔ rhears w u n k := by
      unfold rhears rfar
      simp only [e3, e1]
    have hsf : rsf (rsnd w u n p k) u n k = rsf w u n k := by
      unfold rsf rfar
      simp only [e3, e0]
    have hkV : 0 ≤ ((k : Nat) : Int) ∧ ((k : Nat) : Int) < (V : Int) := ⟨by omega, by omega⟩
    unfold rsnd
    by_cases c1 : ¬ k = n ∧ rhears w u n k
    · rw [if_pos (show ¬ k = n ∧ rhears (rsnd w u n p k) u n k from ⟨c1.1, hcond.mpr c1.2⟩), e3, hsf]
      by_cases c2 : w (3, 0, 3) n = 1
      · rw [if_pos c2]
        have j2 := rsd_2 (w := rsnd w u n p k) (u := u) (v := (k : Int)) (p := p) (a := rsf w u n k)
        have j3 := rsd_w (a := rsf w u n k) (p := p) i2 i3 hkV
        refine ⟨fun v => ?_, by rw [rsd_2, rsd_2]; omega, rsd_w (by rw [j2]; omega) j3 hkV⟩
        have e7 : rsd (rsnd w u n p k) u (k : Int) p (rsf w u n k) (3, 0, 7) p.toNat = w (3, 0, 7) p.toNat := (rsd_sl _ _ (fun z => hu z.symm)).trans (e3 _ _)
        rw [SLR_sd (by rw [j2]; omega), SLR_sd i2, ih, e7, e3]
        by_cases e : v = k
        · subst e
          rw [if_pos rfl, if_pos rfl, if_neg (Nat.lt_irrefl _), if_pos (Nat.lt_succ_self _), List.append_nil]
          unfold adR
          rw [if_pos c1, if_pos c2, List.append_assoc]
          rfl
        · rw [if_neg e, if_neg e]
          by_cases e2 : v < k
          · rw [if_pos e2, if_pos (by omega)]
          · rw [if_neg e2, if_neg (by omega)]
      · rw [if_neg c2]
        refine ⟨fun v => ?_, by rw [rsd_2]; omega, rsd_w i2 i3 hkV⟩
        rw [SLR_sd i2, ih, e3]
        by_cases e : v = k
        · subst e
          rw [if_pos rfl, if_neg (Nat.lt_irrefl _), if_pos (Nat.lt_succ_self _), List.append_nil]
          unfold adR
          rw [if_pos c1, if_neg c2]
        · rw [if_neg e]
          by_cases e2 : v < k
          · rw [if_pos e2, if_pos (by omega)]
          · rw [if_neg e2, if_neg (by omega)]
    · rw [if_neg (fun q => c1 ⟨q.1, hcond.mp q.2⟩)]
      refine ⟨fun v => ?_, i2, i3⟩
      rw [ih]
      by_cases e : v = k
      · subst e
        rw [if_neg (Nat.lt_irrefl _), if_pos (Nat.lt_succ_self _)]
        unfold adR
        rw [if_neg c1]
      · by_cases e2 : v < k
        · rw [if_pos e2, if_pos (by omega)]
        · rw [if_neg e2, if_neg (by omega)]
