/-! the tie: what the calls answer -/
theorem TT.th {wc wr : Mm} {t u : Nat} (hV : wc (t, 8, 0) 1 ≤ 8) (hP : wc (t, 8, 0) 4 ≤ 12) (hq : ∀ v : Nat, (v : Int) < wc (t, 8, 0) 1 → wc (t, v, 0) 9 ≤ 5) (h0 : 0 ≤ wr (u, 0, 0) 2) (hu : u ≠ 3) (hT : TT wc wr t u) (x : Int) : TT wc (st1 wr (3, 0, 0) 0 x) t u :=
  hT.mv CS.rf (RC.of (fun p j => st1_k (by simp; intro h; exact absurd h hu)) (fun p j h => by
    unfold st1
    rw [if_neg (fun q => h (by have := q.1; simp at this; exact this) q.2)])) hV hP hq h0
theorem TT.q {wc wr : Mm} {t u v : Nat} (hT : TT wc wr t u) (hv : (v : Int) < wc (t, 8, 0) 1) : wc (t, v, 0) 9 = wr (u, 0, 4) v ∧ (∀ j, j < 5 → wc (t, v, 1) j = wr (u, 0, 5) (5 * v + j)) ∧ (∀ p, p < 12 → wc (t, v, 2) p = wr (u, 0, 6) (12 * v + p)) ∧ wc (t, v, 0) 12 = wr (u, 0, 7) v := by
  have r4 := (hT.2.1.2.2.2 v hv).2.2.2.1
  exact ⟨congrArg Prod.fst r4, fun j hj => tr_at (congrArg (fun e : Dt => e.2.1) r4) hj, fun p hp => tr_at (n := 12) (f := fun p => wc (t, v, 2) p) (f' := fun p => wr (u, 0, 6) (12 * v + p)) (congrArg (fun e : Dt => e.2.2.1) r4) hp, congrArg (fun e : Dt => e.2.2.2) r4⟩
theorem last_eq {wc wr : Mm} {t u v : Nat} (hT : TT wc wr t u) (hv : (v : Int) < wc (t, 8, 0) 1) : s1last wc t v (wc (t, 8, 0) 5) (wc (t, v, 3) 4).toNat = rlast wr u (v : Int) (wr (u, 0, 0) 2).toNat := by
  have r5 := (hT.2.1.2.2.2 v hv).2.2.2.2
  have d1 := hT.2.1.1
  rw [s1last_cnt, rlast_cnt]
  show cnt _ (SLC wc t v) = cnt _ (SLR wr u v)
  rw [← r5, ← d1]
  refine cnt_cg (fun s hs => ?_)
  have h9 := ((hT.2.2 v hv).2.2.1 s hs).2.1
  by_cases c : s.2.1 ≤ wc (t, 8, 0) 5
  · rw [decide_eq_true c, decide_eq_true (show s.2.1 ≤ wc (t, 8, 0) 5 ∧ wc (t, 8, 0) 5 ≤ s.2.2.1 from ⟨c, h9⟩)]
  · rw [decide_eq_false c, decide_eq_false (fun q => c q.1)]
theorem s2kn_sum {w : Mm} {t v : Nat} : ∀ n : Nat, n ≤ 12 → ((s2kn w t v n : Nat) : Int) = sumI (fun p => bI (¬ w (t, v, 2) p = -1)) n
  | 0, _ => rfl
  | n + 1, hn => by
    have ih := s2kn_sum (w := w) (t := t) (v := v) n (by omega)
    unfold s2kn
    simp only [sumI]
    by_cases c : w (t, v, 2) n = -1
    · rw [if_neg (fun q => q.2.2 (by rw [Int.toNat_natCast]; exact c)), bI_f (fun q => q c), ih]
      omega
    · rw [if_pos ⟨by omega, by omega, by rw [Int.toNat_natCast]; exact c⟩, bI_t c, ← ih]
      omega
theorem sumI_cut {f : Nat → Int} {m : Nat} : ∀ n : Nat, (∀ i, m ≤ i → i < m + n → f i = 0) → sumI f (m + n) = sumI f m
  | 0, _ => rfl
  | n + 1, h => by
    show sumI f (m + n) + f (m + n) = _
    rw [sumI_cut n (fun i h1 h2 => h i h1 (by omega)), h (m + n) (by omega) (by omega), Int.add_zero]
theorem kn_eq {wc wr : Mm} {t u v : Nat} (hP0 : 0 ≤ wc (t, 8, 0) 4) (hP : wc (t, 8, 0) 4 ≤ 12) (hT : TT wc wr t u) (hv : (v : Int) < wc (t, 8, 0) 1) : ((s2kn wc t v 12 : Nat) : Int) = sumI (fun p => bI (¬ wr (u, 0, 6) (12 * (v : Int) + (p : Int)).toNat = -1)) (wr (3, 0, 0) 2).toNat := by
  have hk := (hT.q hv).2.2.1
  have j4 := (hT.2.2 v hv).2.2.2.1
  have s2 := hT.1.2.1
  rw [s2kn_sum 12 (Nat.le_refl 12)]
  have hc := sumI_cut (f := fun p => bI (¬ wc (t, v, 2) p = -1)) (m := (wr (3, 0, 0) 2).toNat) (12 - (wr (3, 0, 0) 2).toNat) (fun i h1 h2 => bI_f (fun q => q (j4 i (by omega) (by omega))))
  rw [show (wr (3, 0, 0) 2).toNat + (12 - (wr (3, 0, 0) 2).toNat) = 12 by omega] at hc
  rw [hc]
  refine sumI_cg _ (fun p hp => ?_)
  rw [hk p (by omega), show (12 * (v : Int) + (p : Int)).toNat = 12 * v + p by omega]
theorem sumI_add {f g : Nat → Int} : ∀ n : Nat, sumI (fun i => f i + g i) n = sumI f n + sumI g n
  | 0 => rfl
  | n + 1 => by
    simp only [sumI]
    rw [sumI_add n]
    omega
theorem sumI_swap {f : Nat → Nat → Int} {V : Nat} : ∀ P : Nat, sumI (fun p => sumI (fun v => f v p) V) P = sumI (fun v => sumI (fun p => f v p) P) V
  | 0 => by
    have : ∀ k : Nat, sumI (fun _ => sumI (fun p => f 0 p) 0) k = 0 := by
      intro k
      induction k with
      | zero => rfl
      | succ k ih => simp only [sumI] at ih ⊢; rw [ih]; rfl
    exact (this V).symm
  | P + 1 => by
    simp only [sumI]
    rw [sumI_swap P, ← sumI_add]
theorem prs_eq {wc wr : Mm} {t u : Nat} (hV0 : 0 ≤ wc (t, 8, 0) 1) (hP0 : 0 ≤ wc (t, 8, 0) 4) (hP : wc (t, 8, 0) 4 ≤ 12) (hT : TT wc wr t u) : s0prs wc t = rprs wr u := by
  unfold s0prs rprs rkn
  rw [sumI_swap, ← hT.V]
  exact sumI_cg _ (fun v hv => kn_eq hP0 hP hT (by omega))
theorem kno_eq {wc wr : Mm} {t u v p : Nat} (hp : p < 12) (hT : TT wc wr t u) (hv : (v : Int) < wc (t, 8, 0) 1) : kno wc t v (p : Int) ↔ ¬ wr (u, 0, 6) (12 * v + p) = -1 := by
  have hk := (hT.q hv).2.2.1 p hp
  constructor
  · intro q
    rw [← hk]
    have := q.2.2
    rw [Int.toNat_natCast] at this
    exact this
  · intro q
    exact ⟨by omega, by omega, by rw [Int.toNat_natCast, hk]; exact q⟩
theorem kns_eq {wc wr : Mm} {t u p : Nat} (hp : p < 12) (hV0 : 0 ≤ wc (t, 8, 0) 1) (hT : TT wc wr t u) : s0kno wc t (p : Int) = rkn wr u (p : Int) (wr (3, 0, 0) 1).toNat := by
  unfold s0kno rkn
  rw [← hT.V]
  refine sumI_cg _ (fun v hv => bI_iff ?_)
  rw [show (12 * (v : Int) + (p : Int)).toNat = 12 * v + p by omega]
  exact kno_eq hp hT (by omega)
theorem air_eq {wc wr : Mm} {t u : Nat} (hV0 : 0 ≤ wc (t, 8, 0) 1) (h0 : 0 ≤ wr (u, 0, 0) 2) (hz : ∀ v : Nat, (v : Int) < wc (t, 8, 0) 1 → 0 ≤ wc (t, v, 3) 4) (hT : TT wc wr t u) : s0air wc t = wr (u, 0, 0) 2 := by
  obtain ⟨-, -, d3, d4⟩ := hT.2.1
  have h := slR_sum (w := wr) (u := u) (V := (wc (t, 8, 0) 1).toNat) (wr (u, 0, 0) 2).toNat (fun j hj => by have := d3 j (by omega); omega)
  have h2 : s0air wc t = sumI (fun v => ((slR wr u v (wr (u, 0, 0) 2).toNat).length : Int)) (wc (t, 8, 0) 1).toNat := by
    unfold s0air
    refine sumI_cg _ (fun v hv => ?_)
    have h5 := (d4 v (by omega)).2.2.2.2
    have hl : (SLC wc t v).length = (wc (t, v, 3) 4).toNat := slC_len _
    rw [h5] at hl
    have h7 := hz v (by omega)
    show wc (t, v, 3) 4 = (((SLR wr u v).length : Nat) : Int)
    omega
  omega
theorem fig_eq {wc wr : Mm} {N D N' D' X' : Int} {X : Nat → Int} (hL : LI wc 0 N D X) (hR : SI wr 4 N' D' X') (hT : TT wc wr 0 4) {a : Nat} : s0fig wc 0 a = rcnt wr a := by
  obtain ⟨⟨V1, V2⟩, ⟨P1, P2⟩, -, -, -, -⟩ := id hL
  have hz : ∀ v : Nat, (v : Int) < wc (0, 8, 0) 1 → 0 ≤ wc (0, v, 3) 4 := fun v hv => (hL.v (v := v) (by omega)).2.2.2.2.2.2.2.2.2.1
  have d4 := hT.2.1.2.2.2
  match a with
  | 0 => exact hT.2.1.1
  | 1 => exact hT.1.1
  | 2 => exact hT.1.2.1
  | 3 =>
    show s0drm wc 0 = rcd wr (wr (3, 0, 0) 1).toNat
    unfold s0drm rcd
    rw [← hT.V]
    refine sumI_cg _ (fun v hv => ?_)
    rw [(d4 v (by omega)).2.1]
  | 4 => exact air_eq V1 hR.2.2.1.1 hz hT
  | 5 => exact hT.2.1.2.1
  | 6 =>
    show s0dwn wc 0 = rcw wr (wr (3, 0, 0) 1).toNat
    unfold s0dwn rcw
    rw [← hT.V]
    exact sumI_cg _ (fun v hv => (hT.q (v := v) (by omega)).2.2.2)
  | _ + 7 => exact prs_eq V1 P1 P2 hT
theorem vfig_eq {wc wr : Mm} {N D : Int} {X : Nat → Int} (hL : LI wc 0 N D X) (hT : TT wc wr 0 4) {v a : Nat} (hv : (v : Int) < wc (0, 8, 0) 1) : s2fig wc 0 v (wc (0, 8, 0) 5) a = rvtold wr (v : Int) a := by
  obtain ⟨⟨V1, V2⟩, ⟨P1, P2⟩, -, -, -, -⟩ := id hL
  obtain ⟨z1, z2, z3, z4, z5⟩ := hT.1.2.2.2 v hv
  obtain ⟨r1, r2, r3, r4, r5⟩ := hT.2.1.2.2.2 v hv
  obtain ⟨q1, q2, q3, q4⟩ := hT.q hv
  unfold rvtold
  rw [Int.toNat_natCast]
  match a with
  | 0 => exact z1
  | 1 => exact z2
  | 2 => exact r1
  | 3 => exact z3
  | 4 =>
    show bI (awk wc 0 v (wc (0, 8, 0) 5)) = bI (rawk wr 4 v)
    refine bI_iff ?_
    unfold awk rawk
    rw [← z4, ← z5, ← hT.2.1.1]
    exact awk_eq (hL.v (v := v) (by omega)).2.2.2.1
  | 5 => exact r2
  | 6 => exact r3
  | 7 => exact q1
  | 8 => exact kn_eq P1 P2 hT hv
  | _ + 9 => exact q4
theorem digest_eq {wc wr : Mm} {N D N' D' X' : Int} {X : Nat → Int} (hL : LI wc 0 N D X) (hR : SI wr 4 N' D' X') (hT : TT wc wr 0 4) (ht : ∀ p : Nat, (p : Int) < wc (0, 8, 0) 4 → wc (0, 8, 1) p = wr (3, 0, 6) p) : dgX wc = rdgX wr wr := by
  obtain ⟨⟨V1, V2⟩, ⟨P1, P2⟩, -, -, -, -⟩ := id hL
  have hP : (wc (0, 8, 0) 4).toNat = (wr (3, 0, 0) 2).toNat := by rw [hT.1.2.1]
  have hVd : ∀ v : Nat, (v : Int) < wc (0, 8, 0) 1 → ∀ d, dgV wc v d = rdgV wr wr v d := by
    intro v hv d
    obtain ⟨q1, q2, q3, q4⟩ := hT.q hv
    have hq5 := (hL.v (v := v) (by omega)).2.2.2.2.2.2.2.1
    unfold dgV rdgV
    rw [hP, q1]
    have g1 := dg_cg (f := fun a => s2fig wc 0 v (wc (0, 8, 0) 5) a) (f' := fun a => rvtold wr (v : Int) a) (Eq.refl d) 10 (fun i _ => vfig_eq hL hT hv)
    have g2 := dg_cg (f := fun _ => ((s1last wc 0 v (wc (0, 8, 0) 5) (wc (0, v, 3) 4).toNat : Nat) : Int)) (f' := fun _ => ((rlast wr 4 (v : Int) (wr (4, 0, 0) 2).toNat : Nat) : Int)) g1 1 (fun i _ => by rw [last_eq hT hv])
    have g3 := dg_cg (f := fun k => wc (0, v, 1) k) (f' := fun k => wr (4, 0, 5) (5 * v + k)) g2 (wr (4, 0, 4) v).toNat (fun i hi => q2 i (by omega))
    exact dg_cg g3 _ (fun i hi => q3 i (by omega))
  have hLd : ∀ n : Nat, (n : Int) ≤ wc (0, 8, 0) 1 → ∀ d, dgL wc d n = rdgL wr wr d n := by
    intro n
    induction n with
    | zero => intro _ d; rfl
    | succ n ih =>
      intro hn d
      rw [dgL_s, rdgL_s, ih (by omega), hVd n (by omega)]
  unfold dgX rdgX
  rw [hLd _ (by omega), hP, hT.V]
  have e8 : dg 769 (fun a => s0fig wc 0 a) 8 = dg 769 (fun a => rcnt wr a) 8 := dg_cg (Eq.refl (769 : Int64)) 8 (fun i _ => fig_eq hL hR hT)
  have eP := dg_cg (f := fun p => wc (0, 8, 1) p) (f' := fun p => wr (3, 0, 6) p) e8 (wr (3, 0, 0) 2).toNat (fun i hi => ht i (by omega))
  rw [eP]
/-! the way -/
theorem hin_or {w : Mm} {t a M x : Nat} : ∀ n, hin w t a (M ||| x) n = M ||| hin w t a x n
  | 0 => rfl
  | n + 1 => by
    unfold hin
    rw [hin_or n]
    split
    · rw [Nat.or_assoc]
    · rfl
theorem way_step {wc wr : Mm} {M : Nat} (hV0 : 0 ≤ wc (0, 8, 0) 1) (hT : TT wc wr 0 4) : rwo wr M (wr (3, 0, 0) 1).toNat (wr (3, 0, 0) 1).toNat = M ||| hout wc 0 M (wc (0, 8, 0) 1).toNat (wc (0, 8, 0) 1).toNat := by
  rw [← hT.V]
  have hh : ∀ a b : Nat, (a : Int) < wc (0, 8, 0) 1 → (b : Int) < wc (0, 8, 0) 1 → (hears wc 0 a b ↔ rhears wr 4 a b) := by
    intro a b ha hb
    obtain ⟨z1, z2, -, -, -⟩ := hT.1.2.2.2 a ha
    obtain ⟨y1, y2, -, -, -⟩ := hT.1.2.2.2 b hb
    have r1 := (hT.2.1.2.2.2 a ha).1
    unfold hears rhears s2dist rfar
    rw [z1, z2, y1, y2, r1]
  have hi1 : ∀ a : Nat, (a : Int) < wc (0, 8, 0) 1 → ((M / 2 ^ a % 2 : Nat) : Int) = 1 → ∀ (n acc : Nat), (n : Int) ≤ wc (0, 8, 0) 1 → rwi wr M a acc n = hin wc 0 a acc n := by
    intro a ha hb n acc
    induction n with
    | zero => intro _; rfl
    | succ n ih =>
      intro hn
      unfold rwi hin
      rw [ih (by omega)]
      by_cases c : hears wc 0 a n
      · rw [if_pos c, if_pos ⟨hb, (hh a n ha (by omega)).mp c⟩]
      · rw [if_neg c, if_neg (fun q => c ((hh a n ha (by omega)).mpr q.2))]
  have hi0 : ∀ a : Nat, ¬ ((M / 2 ^ a % 2 : Nat) : Int) = 1 → ∀ n acc, rwi wr M a acc n = acc := by
    intro a hb n acc
    induction n with
    | zero => rfl
    | succ n ih =>
      unfold rwi
      rw [ih, if_neg (fun q => hb q.1)]
  have key : ∀ n : Nat, (n : Int) ≤ wc (0, 8, 0) 1 → rwo wr M (wc (0, 8, 0) 1).toNat n = M ||| hout wc 0 M (wc (0, 8, 0) 1).toNat n := by
    intro n
    induction n with
    | zero => intro _; show M = M ||| 0; rw [Nat.or_zero]
    | succ n ih =>
      intro hn
      unfold rwo hout
      rw [ih (by omega)]
      by_cases c : ((M / 2 ^ n % 2 : Nat) : Int) = 1
      · rw [if_pos c, hi1 n (by omega) c _ _ (by omega), hin_or]
      · rw [if_neg c, hi0 n c]
  exact key _ (by omega)
theorem rwm_eq {wc wr : Mm} {v : Nat} (hV0 : 0 ≤ wc (0, 8, 0) 1) (hT : TT wc wr 0 4) : ∀ k, rwm wr (wr (3, 0, 0) 1).toNat v k = lwm wc v k
  | 0 => rfl
  | k + 1 => by
    show rwo wr (rwm wr (wr (3, 0, 0) 1).toNat v k) _ _ = _
    rw [rwm_eq hV0 hT k, way_step hV0 hT]
    rfl
def bt (M i : Nat) : Nat := M / 2 ^ i % 2
theorem bt_or {M X i : Nat} : bt (M ||| X) i = 1 ↔ (bt M i = 1 ∨ bt X i = 1) := by
  have h : ∀ Y, bt Y i = 1 ↔ Y.testBit i = true := fun Y => by
    unfold bt
    rw [Nat.testBit_eq_decide_div_mod_eq]
    simp
  rw [h, h, h, Nat.testBit_or, Bool.or_eq_true]
theorem bt_01 {M i : Nat} : bt M i = 0 ∨ bt M i = 1 := by
  unfold bt
  omega
theorem hout_cg {w : Mm} {M M' V : Nat} : ∀ n, (∀ i, i < n → bt M i = bt M' i) → hout w 0 M V n = hout w 0 M' V n
  | 0, _ => rfl
  | n + 1, h => by
    have hn := h n (Nat.lt_succ_self n)
    unfold bt at hn
    unfold hout
    rw [hout_cg n (fun i hi => h i (by omega)), hn]
def bc (M : Nat) : Nat → Nat
  | 0 => 0
  | n + 1 => bc M n + bt M n
theorem bc_le {M : Nat} : ∀ n, bc M n ≤ n
  | 0 => Nat.le_refl 0
  | n + 1 => by
    have := bc_le (M := M) n
    have := bt_01 (M := M) (i := n)
    simp only [bc]
    omega
theorem bc_full {M : Nat} : ∀ n, bc M n = n → ∀ i, i < n → bt M i = 1
  | n + 1, h, i, hi => by
    have h1 := bc_le (M := M) n
    have h2 := bt_01 (M := M) (i := n)
    simp only [bc] at h
    by_cases e : i = n
    · subst e; omega
    · exact bc_full n (by omega) i (by omega)
theorem bc_mono {M M' : Nat} : ∀ n, (∀ i, i < n → bt M i ≤ bt M' i) → bc M n ≤ bc M' n ∧ (bc M n = bc M' n → ∀ i, i < n → bt M i = bt M' i)
  | 0, _ => ⟨Nat.le_refl 0, fun _ i hi => absurd hi (Nat.not_lt_zero i)⟩
  | n + 1, h => by
    obtain ⟨i1, i2⟩ := bc_mono n (fun i hi => h i (by omega))
    have hn := h n (Nat.lt_succ_self n)
    simp only [bc]
    refine ⟨by omega, fun e i hi => ?_⟩
    by_cases e2 : i = n
    · subst e2; omega
    · exact i2 (by omega) i (by omega)
theorem bc_pos {M : Nat} : ∀ n v, v < n → bt M v = 1 → 1 ≤ bc M n
  | n + 1, v, hv, h => by
    simp only [bc]
    by_cases e : v = n
    · subst e; omega
    · have := bc_pos n v (by omega) h
      omega
theorem wfd_s {M : Nat → Nat} {to f k : Nat} : wfd M to (f + 1) k = if M k / 2 ^ to % 2 = 1 then (k : Int) else wfd M to f (k + 1) := rfl
theorem wfd_split {M : Nat → Nat} {to g : Nat} : ∀ f k, wfd M to (f + g) k = if wfd M to f k = -1 then wfd M to g (k + f) else wfd M to f k
  | 0, k => by
    show wfd M to (0 + g) k = if (-1 : Int) = -1 then _ else _
    rw [if_pos rfl, Nat.zero_add]
    rfl
  | f + 1, k => by
    rw [show f + 1 + g = (f + g) + 1 by omega]
    by_cases c : M k / 2 ^ to % 2 = 1
    · have h1 : wfd M to (f + 1) k = (k : Int) := by rw [wfd_s, if_pos c]
      have h2 : wfd M to (f + g + 1) k = (k : Int) := by rw [wfd_s, if_pos c]
      rw [h1, h2, if_neg (by omega)]
    · have h1 : wfd M to (f + 1) k = wfd M to f (k + 1) := by rw [wfd_s, if_neg c]
      have h2 : wfd M to (f + g + 1) k = wfd M to (f + g) (k + 1) := by rw [wfd_s, if_neg c]
      rw [h1, h2, wfd_split f (k + 1), show k + 1 + f = k + (f + 1) by omega]
theorem wfd_m1 {M : Nat → Nat} {to : Nat} : ∀ f k, wfd M to f k = -1 → ∀ j, k ≤ j → j < k + f → ¬ bt (M j) to = 1
  | 0, k, _, j, h1, h2 => by omega
  | f + 1, k, h, j, h1, h2 => by
    simp only [wfd] at h
    by_cases c : M k / 2 ^ to % 2 = 1
    · rw [if_pos c] at h
      omega
    · rw [if_neg c] at h
      by_cases e : j = k
      · subst e
        exact c
      · exact wfd_m1 f (k + 1) h j (by omega) (by omega)
theorem wfd_none {M : Nat → Nat} {to : Nat} : ∀ f k, (∀ j, ¬ bt (M j) to = 1) → wfd M to f k = -1
  | 0, _, _ => rfl
  | f + 1, k, h => by
    simp only [wfd]
    rw [if_neg (show ¬ M k / 2 ^ to % 2 = 1 from h k)]
    exact wfd_none f (k + 1) h
theorem way_eq {wc wr : Mm} {v o : Nat} (hV : wc (0, 8, 0) 1 ≤ 8) (hT : TT wc wr 0 4) (hv : (v : Int) < wc (0, 8, 0) 1) (ho : (o : Int) < wc (0, 8, 0) 1) : wfd (lwm wc v) o 8 0 = wfd (rwm wr (wr (3, 0, 0) 1).toNat v) o (wr (3, 0, 0) 1).toNat 0 := by
  have e : rwm wr (wr (3, 0, 0) 1).toNat v = lwm wc v := funext (rwm_eq (by omega) hT)
  rw [e, ← hT.V]
  obtain ⟨V, hVn⟩ : ∃ V : Nat, (wc (0, 8, 0) 1).toNat = V := ⟨_, rfl⟩
  rw [hVn]
  have h8 : 8 = V + (8 - V) := by omega
  rw [h8, wfd_split V 0]
  by_cases c : wfd (lwm wc v) o V 0 = -1
  · rw [if_pos c, c]
    have hno := wfd_m1 V 0 c
    have hstep : ∀ k, lwm wc v (k + 1) = lwm wc v k ||| hout wc 0 (lwm wc v k) V V := fun k => by rw [← hVn]; rfl
    have hA : ∀ k i, bt (lwm wc v k) i ≤ bt (lwm wc v (k + 1)) i := fun k i => by
      rw [hstep]
      rcases bt_01 (M := lwm wc v k) (i := i) with q | q
      · omega
      · rw [q, bt_or.mpr (Or.inl q)]
        exact Nat.le_refl 1
    have hB : ∀ k, (∀ i, i < V → bt (lwm wc v k) i = bt (lwm wc v (k + 1)) i) → ∀ i, i < V → bt (lwm wc v (k + 1)) i = bt (lwm wc v (k + 2)) i := fun k h i hi => by
      have ho := hout_cg (w := wc) (V := V) V h
      have e1 := bt_or (M := lwm wc v k) (X := hout wc 0 (lwm wc v k) V V) (i := i)
      have e2 := bt_or (M := lwm wc v (k + 1)) (X := hout wc 0 (lwm wc v (k + 1)) V V) (i := i)
      rw [← hstep, ho] at e1
      rw [← hstep] at e2
      have z1 := bt_01 (M := lwm wc v (k + 1)) (i := i)
      have z2 := bt_01 (M := lwm wc v (k + 2)) (i := i)
      have hi0 := h i hi
      rcases z1 with z1 | z1 <;> rcases z2 with z2 | z2
      · rw [z1, z2]
      · have := e2.mp z2
        rcases this with q | q
        · omega
        · have := e1.mpr (Or.inr q)
          omega
      · have := e2.mpr (Or.inl z1)
        have e3 : lwm wc v (k + 1 + 1) = lwm wc v (k + 2) := rfl
        rw [e3] at this
        omega
      · rw [z1, z2]
    have hC : ∀ k0, (∀ i, i < V → bt (lwm wc v k0) i = bt (lwm wc v (k0 + 1)) i) → ∀ m i, i < V → bt (lwm wc v (k0 + m)) i = bt (lwm wc v k0) i ∧ (bt (lwm wc v (k0 + m)) i = bt (lwm wc v (k0 + m + 1)) i) := by
      intro k0 h m
      induction m with
      | zero => intro i hi; exact ⟨rfl, h i hi⟩
      | succ m ih =>
        intro i hi
        obtain ⟨a1, a2⟩ := ih i hi
        exact ⟨a2.symm.trans a1, hB (k0 + m) (fun i hi => (ih i hi).2) i hi⟩
    have hD : ∀ k, k + 1 ≤ bc (lwm wc v k) V ∨ ∃ k0, k0 + 1 ≤ k ∧ ∀ i, i < V → bt (lwm wc v k0) i = bt (lwm wc v (k0 + 1)) i := by
      intro k
      induction k with
      | zero =>
        refine Or.inl (bc_pos V v (by omega) ?_)
        show 2 ^ v / 2 ^ v % 2 = 1
        rw [Nat.div_self (Nat.two_pow_pos v)]
      | succ k ih =>
        rcases ih with q | ⟨k0, q1, q2⟩
        · obtain ⟨m1, m2⟩ := bc_mono (M := lwm wc v k) (M' := lwm wc v (k + 1)) V (fun i _ => hA k i)
          by_cases e : bc (lwm wc v k) V = bc (lwm wc v (k + 1)) V
          · exact Or.inr ⟨k, Nat.le_refl _, m2 e⟩
          · exact Or.inl (by omega)
        · exact Or.inr ⟨k0, by omega, q2⟩
    have hall : ∀ j, ¬ bt (lwm wc v j) o = 1 := by
      intro j hj
      rcases hD (V - 1) with q | ⟨k0, q1, q2⟩
      · have hfull := bc_full (M := lwm wc v (V - 1)) V (by have := bc_le (M := lwm wc v (V - 1)) V; omega) o (by omega)
        exact hno (V - 1) (by omega) (by omega) hfull
      · by_cases hjk : j < k0
        · exact hno j (by omega) (by omega) hj
        · have := (hC k0 q2 (j - k0) o (by omega)).1
          rw [show k0 + (j - k0) = j by omega] at this
          exact hno k0 (by omega) (by omega) (by omega)
    exact wfd_none _ _ hall
  · rw [if_neg c]
