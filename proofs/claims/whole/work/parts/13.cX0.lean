/-! DrumTalk$Land: what its methods do to the memory -/
def sumI (f : Nat → Int) : Nat → Int
  | 0 => 0
  | n + 1 => sumI f n + f n
abbrev hears (w : Mm) (t a b : Nat) : Prop := s2dist w t a t b ≤ 3 * w (t, a, 0) 2
abbrev s0has (w : Mm) (t : Nat) (x y : Int) : Prop := ∃ i, i < (w (t, 8, 0) 1).toNat ∧ w (t, i, 0) 0 = x ∧ w (t, i, 0) 1 = y
abbrev s0hasP (w : Mm) (t : Nat) (x : Int) : Prop := ∃ i, i < (w (t, 8, 0) 4).toNat ∧ w (t, 8, 1) i = x
abbrev s0quiet (w : Mm) (t : Nat) : Prop := ∀ i, i < (w (t, 8, 0) 1).toNat → w (t, i, 0) 6 = -1 ∧ w (t, i, 0) 9 ≤ 0 ∧ w (t, i, 3) 4 ≤ 0
def s0addV (w : Mm) (t : Nat) (x y d : Int) : Mm :=
  if w (t, 8, 0) 1 < 8 then st1 (st1 (st1 (st1 w (t, (w (t, 8, 0) 1).toNat, 0) 0 x) (t, (w (t, 8, 0) 1).toNat, 0) 1 y) (t, (w (t, 8, 0) 1).toNat, 0) 2 d) (t, 8, 0) 1 (w (t, 8, 0) 1 + 1) else w
def s0addP (w : Mm) (t : Nat) (x c : Int) : Mm :=
  if w (t, 8, 0) 4 < 12 then st1 (st1 (st1 w (t, 8, 1) (w (t, 8, 0) 4).toNat x) (t, 8, 2) (w (t, 8, 0) 4).toNat c) (t, 8, 0) 4 (w (t, 8, 0) 4 + 1) else w
def s0drm (w : Mm) (t : Nat) : Int := sumI (fun i => bI (¬ w (t, i, 0) 6 = -1)) (w (t, 8, 0) 1).toNat
def s0air (w : Mm) (t : Nat) : Int := sumI (fun i => w (t, i, 3) 4) (w (t, 8, 0) 1).toNat
def s0dwn (w : Mm) (t : Nat) : Int := sumI (fun i => w (t, i, 0) 12) (w (t, 8, 0) 1).toNat
def s0prs (w : Mm) (t : Nat) : Int := sumI (fun i => ((s2kn w t i 12 : Nat) : Int)) (w (t, 8, 0) 1).toNat
def s0kno (w : Mm) (t : Nat) (p : Int) : Int := sumI (fun i => bI (kno w t i p)) (w (t, 8, 0) 1).toNat
def s0fig (w : Mm) (t : Nat) : Nat → Int
  | 0 => w (t, 8, 0) 5
  | 1 => w (t, 8, 0) 1
  | 2 => w (t, 8, 0) 4
  | 3 => s0drm w t
  | 4 => s0air w t
  | 5 => w (t, 8, 0) 6
  | 6 => s0dwn w t
  | _ => s0prs w t
def hin (w : Mm) (t a : Nat) (acc : Nat) : Nat → Nat
  | 0 => acc
  | n + 1 => if hears w t a n then hin w t a acc n ||| 2 ^ n else hin w t a acc n
def hout (w : Mm) (t M : Nat) (vc : Nat) : Nat → Nat
  | 0 => 0
  | n + 1 => if ((M / 2 ^ n % 2 : Nat) : Int) = 1 then hin w t n (hout w t M vc n) vc else hout w t M vc n
theorem hin_lt {w : Mm} {t a acc : Nat} (h : acc < 2 ^ 8) : ∀ n, n ≤ 8 → hin w t a acc n < 2 ^ 8
  | 0, _ => h
  | n + 1, hn => by
    have ih := hin_lt (w := w) (t := t) (a := a) h n (by omega)
    unfold hin
    split
    · exact Nat.or_lt_two_pow ih (Nat.pow_lt_pow_right (by decide) (by omega))
    · exact ih
theorem hout_lt {w : Mm} {t M vc : Nat} (hv : vc ≤ 8) : ∀ n, hout w t M vc n < 2 ^ 8
  | 0 => Nat.two_pow_pos 8
  | n + 1 => by
    have ih := hout_lt (w := w) (t := t) (M := M) hv n
    unfold hout
    split
    · exact hin_lt ih vc hv
    · exact ih

set_option maxRecDepth 100000 in
set_option maxHeartbeats 8000000 in
theorem c_X0_hasVillageAt {l : Launch} {G : Gt} (hG : Gok G) {t : Nat} (ht : t ≤ 1) {w : Mm} {x : Int} {y : Int} (hv0 : 0 ≤ w (t, 8, 0) 1 ∧ w (t, 8, 0) 1 ≤ 8) (hx : inR x) (hy : inR y) : Con l G yX0_hasVillageAt wsX0_hasVillageAt ({ frames := 0, cells := 0, slots := 0, locals := 0 } : Room) w [.ref (adr G (t, 8, 0)), vI x, vI y] (some (vI (bI (s0has w t x y)))) w 0 0 := by
  refine Con.head (cc := cX0_hasVillageAt) (nL := 4) (ret := (some .boolean)) hG (by decide +kernel) rfl (Nat.le_of_ble_eq_true rfl) ?_
  intro B A hBl C hr
  have hr0 := hr
  have hrI := hr
  have hinX0 : ∀ w ∈ u_ws RX0 TX0 7, w ∈ wsX0_hasVillageAt := by decide +kernel
  have hinX2 : ∀ w ∈ u_ws RX2 TX2 13, w ∈ wsX0_hasVillageAt := by decide +kernel
  obtain ⟨v1, v2⟩ := hv0
  refine r_iconst C dX0_hasVillageAt_0 ?_
  refine r_istore_n C (i := 3) (lv' := [(3, vI (0)), (0, .ref (adr G (t, 8, 0))), (1, vI (x)), (2, vI (y))]) dX0_hasVillageAt_1 rfl (by decide) rfl ?_
  have loop_2 : ∀ (n : Nat) (i : Nat), (i ≤ (w (t, 8, 0) 1).toNat) → (∀ j, j < i → ¬ (w (t, j, 0) 0 = x ∧ w (t, j, 0) 1 = y)) → (w (t, 8, 0) 1).toNat - i < n → rng w → Wm B 4 G A (Qe B G A (some (vI (bI (s0has w t x y)))) w 0 0) w 0 0 2 [(0, .ref (adr G (t, 8, 0))), (1, vI (x)), (2, vI (y)), (3, vI (((i : Nat) : Int)))] [] := by
    intro n2
    induction n2 with
    | zero => intro i hi hno hm; exact absurd hm (Nat.not_lt_zero _)
    | succ n2 ih2 =>
      intro i hi hno hm hr
      have hrI := hr
      refine r_iload_n C (k := 3) dX0_hasVillageAt_2 rfl ?_
      refine r_aload_n C (k := 0) dX0_hasVillageAt_3 rfl ?_
      refine r_getf C 1 (ok_of hG (kdl0 ht) (by decide) (Nat.le_trans ht (by decide))) (kdl0 ht) (by decide) rfl hinX0 (by decide) (by decide +kernel) rfl rfl dX0_hasVillageAt_4 ?_
      refine r_icmp_ge C (tgt := 44) dX0_hasVillageAt_7 (by decide) (by first | exact hr _ _ | exact hr0 _ _ | exact hrI _ _ | assumption | exact ⟨by omega, by omega⟩) (by first | exact hr _ _ | exact hr0 _ _ | exact hrI _ _ | assumption | exact ⟨by omega, by omega⟩) (fun h_1 => ?_) (fun h_1 => ?_)
      · skip
        refine r_iconst C dX0_hasVillageAt_44 ?_
        exact r_zret C dX0_hasVillageAt_45 (by first | exact Or.inr rfl | exact Or.inl rfl | exact bI_01 _) (by exact congrArg (fun z => some (vI z)) (bI_f (fun ⟨j, q1, q2⟩ => hno j (by omega) q2)).symm) (by first | rfl | (simp [*]; done))
      · skip
        refine r_aload_n C (k := 0) dX0_hasVillageAt_10 rfl ?_
        refine r_getf C 0 (v := .ref (adr G (t, 8, 3))) (ok_of hG (kdl0 ht) (by decide) (Nat.le_trans ht (by decide))) (kdl0 ht) (by decide) rfl hinX0 (by decide) (by decide +kernel) rfl rfl dX0_hasVillageAt_11 ?_
        refine r_iload_n C (k := 3) dX0_hasVillageAt_14 rfl ?_
        refine r_aald C (i) (ok_of hG (kdl3 ht) (by decide) (Nat.le_trans ht (by decide))) ht rfl (by first | omega | assumption) dX0_hasVillageAt_15 ?_
        refine r_getf C 0 (ok_of hG (kdv0 ht (by omega)) (by decide) (Nat.le_trans ht (by decide))) (kdv0 ht (by omega)) (by decide) rfl hinX2 (by decide) (by decide +kernel) rfl rfl dX0_hasVillageAt_16 ?_
        refine r_iload_n C (k := 1) dX0_hasVillageAt_19 rfl ?_
        refine r_icmp_ne C (tgt := 38) dX0_hasVillageAt_20 (by decide) (by first | exact hr _ _ | exact hr0 _ _ | exact hrI _ _ | assumption | exact ⟨by omega, by omega⟩) (by first | exact hr _ _ | exact hr0 _ _ | exact hrI _ _ | assumption | exact ⟨by omega, by omega⟩) (fun h_2 => ?_) (fun h_2 => ?_)
        · skip
          refine r_iinc C (k := 3) (lv' := [(3, vI (((i + 1 : Nat) : Int))), (0, .ref (adr G (t, 8, 0))), (1, vI (x)), (2, vI (y))]) dX0_hasVillageAt_38 rfl (by decide) rfl ?_
          refine r_goto C (tgt := 2) dX0_hasVillageAt_41 (by decide) ?_
          have e_3 : w = w := by rfl
          refine Wm.sub (lv' := [(0, .ref (adr G (t, 8, 0))), (1, vI (x)), (2, vI (y)), (3, vI (((i + 1 : Nat) : Int)))]) [1, 2, 3, 0] rfl ?_
          refine Wm.mem (lv' := [(0, .ref (adr G (t, 8, 0))), (1, vI (x)), (2, vI (y)), (3, vI ((((i + 1) : Nat) : Int)))]) e_3 (by rfl) ?_
          exact ih2 ((i + 1)) (by omega) (by intro j hj; rcases Nat.lt_succ_iff_lt_or_eq.mp hj with q | q; exact hno j q; subst q; exact fun q => by omega) (by omega) (e_3 ▸ hr)
        · skip
          refine r_aload_n C (k := 0) dX0_hasVillageAt_23 rfl ?_
          refine r_getf C 0 (v := .ref (adr G (t, 8, 3))) (ok_of hG (kdl0 ht) (by decide) (Nat.le_trans ht (by decide))) (kdl0 ht) (by decide) rfl hinX0 (by decide) (by decide +kernel) rfl rfl dX0_hasVillageAt_24 ?_
          refine r_iload_n C (k := 3) dX0_hasVillageAt_27 rfl ?_
          refine r_aald C (i) (ok_of hG (kdl3 ht) (by decide) (Nat.le_trans ht (by decide))) ht rfl (by first | omega | assumption) dX0_hasVillageAt_28 ?_
          refine r_getf C 1 (ok_of hG (kdv0 ht (by omega)) (by decide) (Nat.le_trans ht (by decide))) (kdv0 ht (by omega)) (by decide) rfl hinX2 (by decide) (by decide +kernel) rfl rfl dX0_hasVillageAt_29 ?_
          refine r_iload_n C (k := 2) dX0_hasVillageAt_32 rfl ?_
          refine r_icmp_ne C (tgt := 38) dX0_hasVillageAt_33 (by decide) (by first | exact hr _ _ | exact hr0 _ _ | exact hrI _ _ | assumption | exact ⟨by omega, by omega⟩) (by first | exact hr _ _ | exact hr0 _ _ | exact hrI _ _ | assumption | exact ⟨by omega, by omega⟩) (fun h_4 => ?_) (fun h_4 => ?_)
          · skip
            refine r_iinc C (k := 3) (lv' := [(3, vI (((i + 1 : Nat) : Int))), (0, .ref (adr G (t, 8, 0))), (1, vI (x)), (2, vI (y))]) dX0_hasVillageAt_38 rfl (by decide) rfl ?_
            refine r_goto C (tgt := 2) dX0_hasVillageAt_41 (by decide) ?_
            have e_5 : w = w := by rfl
            refine Wm.sub (lv' := [(0, .ref (adr G (t, 8, 0))), (1, vI (x)), (2, vI (y)), (3, vI (((i + 1 : Nat) : Int)))]) [1, 2, 3, 0] rfl ?_
            refine Wm.mem (lv' := [(0, .ref (adr G (t, 8, 0))), (1, vI (x)), (2, vI (y)), (3, vI ((((i + 1) : Nat) : Int)))]) e_5 (by rfl) ?_
            exact ih2 ((i + 1)) (by omega) (by intro j hj; rcases Nat.lt_succ_iff_lt_or_eq.mp hj with q | q; exact hno j q; subst q; exact fun q => by omega) (by omega) (e_5 ▸ hr)
          · skip
            refine r_iconst C dX0_hasVillageAt_36 ?_
            exact r_zret C dX0_hasVillageAt_37 (by first | exact Or.inr rfl | exact Or.inl rfl | exact bI_01 _) (by exact congrArg (fun z => some (vI z)) (bI_t ⟨i, by omega, by assumption, by assumption⟩).symm) (by first | rfl | (simp [*]; done))
  have e_6 : w = w := by rfl
  refine Wm.sub (lv' := [(0, .ref (adr G (t, 8, 0))), (1, vI (x)), (2, vI (y)), (3, vI (0))]) [1, 2, 3, 0] rfl ?_
  refine Wm.mem (lv' := [(0, .ref (adr G (t, 8, 0))), (1, vI (x)), (2, vI (y)), (3, vI (((0 : Nat) : Int)))]) e_6 (by rfl) ?_
  exact loop_2 _ (0) (by omega) (by exact fun j hj => absurd hj (Nat.not_lt_zero j)) (Nat.lt_succ_self _) (e_6 ▸ hr)

set_option maxRecDepth 100000 in
set_option maxHeartbeats 8000000 in
theorem c_X0_hasPhrase {l : Launch} {G : Gt} (hG : Gok G) {t : Nat} (ht : t ≤ 1) {w : Mm} {x : Int} (hp0 : 0 ≤ w (t, 8, 0) 4 ∧ w (t, 8, 0) 4 ≤ 12) (hx : inR x) : Con l G yX0_hasPhrase wsX0_hasPhrase ({ frames := 0, cells := 0, slots := 0, locals := 0 } : Room) w [.ref (adr G (t, 8, 0)), vI x] (some (vI (bI (s0hasP w t x)))) w 0 0 := by
  refine Con.head (cc := cX0_hasPhrase) (nL := 3) (ret := (some .boolean)) hG (by decide +kernel) rfl (Nat.le_of_ble_eq_true rfl) ?_
  intro B A hBl C hr
  have hr0 := hr
  have hrI := hr
  have hinX0 : ∀ w ∈ u_ws RX0 TX0 7, w ∈ wsX0_hasPhrase := by decide +kernel
  obtain ⟨p1, p2⟩ := hp0
  refine r_iconst C dX0_hasPhrase_0 ?_
  refine r_istore_n C (i := 2) (lv' := [(2, vI (0)), (0, .ref (adr G (t, 8, 0))), (1, vI (x))]) dX0_hasPhrase_1 rfl (by decide) rfl ?_
  have loop_2 : ∀ (n : Nat) (i : Nat), (i ≤ (w (t, 8, 0) 4).toNat) → (∀ j, j < i → ¬ w (t, 8, 1) j = x) → (w (t, 8, 0) 4).toNat - i < n → rng w → Wm B 3 G A (Qe B G A (some (vI (bI (s0hasP w t x)))) w 0 0) w 0 0 2 [(0, .ref (adr G (t, 8, 0))), (1, vI (x)), (2, vI (((i : Nat) : Int)))] [] := by
    intro n2
    induction n2 with
    | zero => intro i hi hno hm; exact absurd hm (Nat.not_lt_zero _)
    | succ n2 ih2 =>
      intro i hi hno hm hr
      have hrI := hr
      refine r_iload_n C (k := 2) dX0_hasPhrase_2 rfl ?_
      refine r_aload_n C (k := 0) dX0_hasPhrase_3 rfl ?_
      refine r_getf C 4 (ok_of hG (kdl0 ht) (by decide) (Nat.le_trans ht (by decide))) (kdl0 ht) (by decide) rfl hinX0 (by decide) (by decide +kernel) rfl rfl dX0_hasPhrase_4 ?_
      refine r_icmp_ge C (tgt := 28) dX0_hasPhrase_7 (by decide) (by first | exact hr _ _ | exact hr0 _ _ | exact hrI _ _ | assumption | exact ⟨by omega, by omega⟩) (by first | exact hr _ _ | exact hr0 _ _ | exact hrI _ _ | assumption | exact ⟨by omega, by omega⟩) (fun h_1 => ?_) (fun h_1 => ?_)
      · skip
        refine r_iconst C dX0_hasPhrase_28 ?_
        exact r_zret C dX0_hasPhrase_29 (by first | exact Or.inr rfl | exact Or.inl rfl | exact bI_01 _) (by exact congrArg (fun z => some (vI z)) (bI_f (fun ⟨j, q1, q2⟩ => hno j (by omega) q2)).symm) (by first | rfl | (simp [*]; done))
      · skip
        refine r_aload_n C (k := 0) dX0_hasPhrase_10 rfl ?_
        refine r_getf C 2 (v := .ref (adr G (t, 8, 1))) (ok_of hG (kdl0 ht) (by decide) (Nat.le_trans ht (by decide))) (kdl0 ht) (by decide) rfl hinX0 (by decide) (by decide +kernel) rfl rfl dX0_hasPhrase_11 ?_
        refine r_iload_n C (k := 2) dX0_hasPhrase_14 rfl ?_
        refine r_iald C (i) (ok_of hG (kdl1 ht) (by decide) (Nat.le_trans ht (by decide))) (kdl1 ht) rfl (by first | omega | assumption) (by decide) dX0_hasPhrase_15 ?_
        refine r_iload_n C (k := 1) dX0_hasPhrase_16 rfl ?_
        refine r_icmp_ne C (tgt := 22) dX0_hasPhrase_17 (by decide) (by first | exact hr _ _ | exact hr0 _ _ | exact hrI _ _ | assumption | exact ⟨by omega, by omega⟩) (by first | exact hr _ _ | exact hr0 _ _ | exact hrI _ _ | assumption | exact ⟨by omega, by omega⟩) (fun h_2 => ?_) (fun h_2 => ?_)
        · skip
          refine r_iinc C (k := 2) (lv' := [(2, vI (((i + 1 : Nat) : Int))), (0, .ref (adr G (t, 8, 0))), (1, vI (x))]) dX0_hasPhrase_22 rfl (by decide) rfl ?_
          refine r_goto C (tgt := 2) dX0_hasPhrase_25 (by decide) ?_
          have e_3 : w = w := by rfl
          refine Wm.sub (lv' := [(0, .ref (adr G (t, 8, 0))), (1, vI (x)), (2, vI (((i + 1 : Nat) : Int)))]) [1, 2, 0] rfl ?_
          refine Wm.mem (lv' := [(0, .ref (adr G (t, 8, 0))), (1, vI (x)), (2, vI ((((i + 1) : Nat) : Int)))]) e_3 (by rfl) ?_
          exact ih2 ((i + 1)) (by omega) (by intro j hj; rcases Nat.lt_succ_iff_lt_or_eq.mp hj with q | q; exact hno j q; subst q; assumption) (by omega) (e_3 ▸ hr)
        · skip
          refine r_iconst C dX0_hasPhrase_20 ?_
          exact r_zret C dX0_hasPhrase_21 (by first | exact Or.inr rfl | exact Or.inl rfl | exact bI_01 _) (by exact congrArg (fun z => some (vI z)) (bI_t ⟨i, by omega, by assumption⟩).symm) (by first | rfl | (simp [*]; done))
  have e_4 : w = w := by rfl
  refine Wm.sub (lv' := [(0, .ref (adr G (t, 8, 0))), (1, vI (x)), (2, vI (0))]) [1, 2, 0] rfl ?_
  refine Wm.mem (lv' := [(0, .ref (adr G (t, 8, 0))), (1, vI (x)), (2, vI (((0 : Nat) : Int)))]) e_4 (by rfl) ?_
  exact loop_2 _ (0) (by omega) (by exact fun j hj => absurd hj (Nat.not_lt_zero j)) (Nat.lt_succ_self _) (e_4 ▸ hr)

set_option maxRecDepth 100000 in
set_option maxHeartbeats 8000000 in
theorem c_X0_addVillage {l : Launch} {G : Gt} (hG : Gok G) {t : Nat} (ht : t ≤ 1) {w : Mm} {x : Int} {y : Int} {d : Int} (hv0 : 0 ≤ w (t, 8, 0) 1 ∧ w (t, 8, 0) 1 ≤ 8) (hx : inR x) (hy : inR y) (hd : inR d) : Con l G yX0_addVillage wsX0_addVillage ({ frames := 0, cells := 0, slots := 0, locals := 0 } : Room) w [.ref (adr G (t, 8, 0)), vI x, vI y, vI d] (some (vI (if w (t, 8, 0) 1 < 8 then w (t, 8, 0) 1 else -1))) (s0addV w t x y d) 0 0 := by
  refine Con.head (cc := cX0_addVillage) (nL := 5) (ret := (some .int)) hG (by decide +kernel) rfl (Nat.le_of_ble_eq_true rfl) ?_
  intro B A hBl C hr
  have hr0 := hr
  have hrI := hr
  have hinX0 : ∀ w ∈ u_ws RX0 TX0 7, w ∈ wsX0_addVillage := by decide +kernel
  have hinX2 : ∀ w ∈ u_ws RX2 TX2 13, w ∈ wsX0_addVillage := by decide +kernel
  obtain ⟨v1, v2⟩ := hv0
  refine r_aload_n C (k := 0) dX0_addVillage_0 rfl ?_
  refine r_getf C 1 (ok_of hG (kdl0 ht) (by decide) (Nat.le_trans ht (by decide))) (kdl0 ht) (by decide) rfl hinX0 (by decide) (by decide +kernel) rfl rfl dX0_addVillage_1 ?_
  refine r_bipush C dX0_addVillage_4 (by decide) ?_
  refine r_icmp_lt C (tgt := 11) dX0_addVillage_6 (by decide) (by first | exact hr _ _ | exact hr0 _ _ | exact hrI _ _ | assumption | exact ⟨by omega, by omega⟩) ⟨by decide, by decide⟩ (fun h_1 => ?_) (fun h_1 => ?_)
  · have hn8 : ¬ (w (t, 8, 0) 1).toNat = 8 := by omega
    have hn9 : ¬ 8 = (w (t, 8, 0) 1).toNat := by omega
    refine r_aload_n C (k := 0) dX0_addVillage_11 rfl ?_
    refine r_getf C 0 (v := .ref (adr G (t, 8, 3))) (ok_of hG (kdl0 ht) (by decide) (Nat.le_trans ht (by decide))) (kdl0 ht) (by decide) rfl hinX0 (by decide) (by decide +kernel) rfl rfl dX0_addVillage_12 ?_
    refine r_aload_n C (k := 0) dX0_addVillage_15 rfl ?_
    refine r_getf C 1 (ok_of hG (kdl0 ht) (by decide) (Nat.le_trans ht (by decide))) (kdl0 ht) (by decide) rfl hinX0 (by decide) (by decide +kernel) rfl rfl dX0_addVillage_16 ?_
    refine r_aald C ((w (t, 8, 0) (1)).toNat) (ok_of hG (kdl3 ht) (by decide) (Nat.le_trans ht (by decide))) ht (Int.toNat_of_nonneg (by first | omega | assumption)).symm (by first | omega | assumption) dX0_addVillage_19 ?_
    refine r_astore C (i := 4) (lv' := [(4, .ref (adr G (t, (w (t, 8, 0) (1)).toNat, 0))), (0, .ref (adr G (t, 8, 0))), (1, vI (x)), (2, vI (y)), (3, vI (d))]) dX0_addVillage_20 (by decide) rfl ?_
    refine r_aload C (k := 0) dX0_addVillage_22 rfl ?_
    refine r_iload_n C (k := 2) dX0_addVillage_24 rfl ?_
    refine r_putf C 0 hr (by first | exact hr _ _ | exact hr0 _ _ | exact hrI _ _ | assumption | exact ⟨by omega, by omega⟩) (ok_of hG (kdv0 ht (by omega)) (by decide) (Nat.le_trans ht (by decide))) (kdv0 ht (by omega)) (by decide) rfl hinX2 tyX2_ok nmX2 (by decide) (by decide +kernel) rfl rfl (ty := .int) (by decide +kernel) rfl rfl rfl (Nat.le_of_ble_eq_true rfl) dX0_addVillage_25 (fun hr => ?_)
    refine r_aload C (k := 0) dX0_addVillage_28 rfl ?_
    refine r_iload_n C (k := 3) dX0_addVillage_30 rfl ?_
    refine r_putf C 1 hr (by first | exact hr _ _ | exact hr0 _ _ | exact hrI _ _ | assumption | exact ⟨by omega, by omega⟩) (ok_of hG (kdv0 ht (by omega)) (by decide) (Nat.le_trans ht (by decide))) (kdv0 ht (by omega)) (by decide) rfl hinX2 tyX2_ok nmX2 (by decide) (by decide +kernel) rfl rfl (ty := .int) (by decide +kernel) rfl rfl rfl (Nat.le_of_ble_eq_true rfl) dX0_addVillage_31 (fun hr => ?_)
    refine r_aload C (k := 0) dX0_addVillage_34 rfl ?_
    refine r_iload_n C (k := 4) dX0_addVillage_36 rfl ?_
    refine r_putf C 2 hr (by first | exact hr _ _ | exact hr0 _ _ | exact hrI _ _ | assumption | exact ⟨by omega, by omega⟩) (ok_of hG (kdv0 ht (by omega)) (by decide) (Nat.le_trans ht (by decide))) (kdv0 ht (by omega)) (by decide) rfl hinX2 tyX2_ok nmX2 (by decide) (by decide +kernel) rfl rfl (ty := .int) (by decide +kernel) rfl rfl rfl (Nat.le_of_ble_eq_true rfl) dX0_addVillage_37 (fun hr => ?_)
    refine r_aload_n C (k := 1) dX0_addVillage_40 rfl ?_
    refine r_dup C dX0_addVillage_41 rfl ?_
    refine r_getf C 1 (ok_of hG (kdl0 ht) (by decide) (Nat.le_trans ht (by decide))) (kdl0 ht) (by decide) rfl hinX0 (by decide) (by decide +kernel) rfl rfl dX0_addVillage_42 ?_
    refine Wm.top (z' := w (t, 8, 0) (1)) (by simp [st1, cpy, hn8, hn9]) ?_
    refine r_iconst C dX0_addVillage_45 ?_
    refine r_iadd C dX0_addVillage_46 ?_
    refine r_putf C 1 hr (by first | exact hr _ _ | exact hr0 _ _ | exact hrI _ _ | assumption | exact ⟨by omega, by omega⟩) (ok_of hG (kdl0 ht) (by decide) (Nat.le_trans ht (by decide))) (kdl0 ht) (by decide) rfl hinX0 tyX0_ok nmX0 (by decide) (by decide +kernel) rfl rfl (ty := .int) (by decide +kernel) rfl rfl rfl (Nat.le_of_ble_eq_true rfl) dX0_addVillage_47 (fun hr => ?_)
    refine r_aload_n C (k := 1) dX0_addVillage_50 rfl ?_
    refine r_getf C 1 (ok_of hG (kdl0 ht) (by decide) (Nat.le_trans ht (by decide))) (kdl0 ht) (by decide) rfl hinX0 (by decide) (by decide +kernel) rfl rfl dX0_addVillage_51 ?_
    refine Wm.top (z' := (w (t, 8, 0) (1) + 1)) (by simp [st1, cpy, hn8, hn9]) ?_
    refine r_iconst C dX0_addVillage_54 ?_
    refine r_isub C dX0_addVillage_55 ?_
    exact r_iret C dX0_addVillage_56 (by exact congrArg (fun z => some (vI z)) (by rw [if_pos (by assumption)]; omega)) (by (unfold s0addV; first | rw [if_pos (by assumption)] | rw [if_neg (by omega)]))
  · skip
    refine r_iconst C dX0_addVillage_9 ?_
    exact r_iret C dX0_addVillage_10 (by exact congrArg (fun z => some (vI z)) (if_neg (by omega)).symm) (by (unfold s0addV; first | rw [if_pos (by assumption)] | rw [if_neg (by omega)]))

set_option maxRecDepth 100000 in
set_option maxHeartbeats 8000000 in
theorem c_X0_addPhrase {l : Launch} {G : Gt} (hG : Gok G) {t : Nat} (ht : t ≤ 1) {w : Mm} {x : Int} {c : Int} (hp0 : 0 ≤ w (t, 8, 0) 4 ∧ w (t, 8, 0) 4 ≤ 12) (hx : inR x) (hc : inR c) : Con l G yX0_addPhrase wsX0_addPhrase ({ frames := 0, cells := 0, slots := 0, locals := 0 } : Room) w [.ref (adr G (t, 8, 0)), vI x, vI c] (some (vI (if w (t, 8, 0) 4 < 12 then w (t, 8, 0) 4 else -1))) (s0addP w t x c) 0 0 := by
  refine Con.head (cc := cX0_addPhrase) (nL := 3) (ret := (some .int)) hG (by decide +kernel) rfl (Nat.le_of_ble_eq_true rfl) ?_
  intro B A hBl C hr
  have hr0 := hr
  have hrI := hr
  have hinX0 : ∀ w ∈ u_ws RX0 TX0 7, w ∈ wsX0_addPhrase := by decide +kernel
  obtain ⟨p1, p2⟩ := hp0
  refine r_aload_n C (k := 0) dX0_addPhrase_0 rfl ?_
  refine r_getf C 4 (ok_of hG (kdl0 ht) (by decide) (Nat.le_trans ht (by decide))) (kdl0 ht) (by decide) rfl hinX0 (by decide) (by decide +kernel) rfl rfl dX0_addPhrase_1 ?_
  refine r_bipush C dX0_addPhrase_4 (by decide) ?_
  refine r_icmp_lt C (tgt := 11) dX0_addPhrase_6 (by decide) (by first | exact hr _ _ | exact hr0 _ _ | exact hrI _ _ | assumption | exact ⟨by omega, by omega⟩) ⟨by decide, by decide⟩ (fun h_1 => ?_) (fun h_1 => ?_)
  · skip
    refine r_aload_n C (k := 0) dX0_addPhrase_11 rfl ?_
    refine r_getf C 2 (v := .ref (adr G (t, 8, 1))) (ok_of hG (kdl0 ht) (by decide) (Nat.le_trans ht (by decide))) (kdl0 ht) (by decide) rfl hinX0 (by decide) (by decide +kernel) rfl rfl dX0_addPhrase_12 ?_
    refine r_aload_n C (k := 0) dX0_addPhrase_15 rfl ?_
    refine r_getf C 4 (ok_of hG (kdl0 ht) (by decide) (Nat.le_trans ht (by decide))) (kdl0 ht) (by decide) rfl hinX0 (by decide) (by decide +kernel) rfl rfl dX0_addPhrase_16 ?_
    refine r_iload_n C (k := 1) dX0_addPhrase_19 rfl ?_
    refine r_iast C ((w (t, 8, 0) (4)).toNat) hr (by first | exact hr _ _ | exact hr0 _ _ | exact hrI _ _ | assumption | exact ⟨by omega, by omega⟩) (ok_of hG (kdl1 ht) (by decide) (Nat.le_trans ht (by decide))) (kdl1 ht) (Int.toNat_of_nonneg (by first | omega | assumption)).symm (by first | omega | assumption) (by decide) dX0_addPhrase_20 (fun hr => ?_)
    refine r_aload_n C (k := 0) dX0_addPhrase_21 rfl ?_
    refine r_getf C 3 (v := .ref (adr G (t, 8, 2))) (ok_of hG (kdl0 ht) (by decide) (Nat.le_trans ht (by decide))) (kdl0 ht) (by decide) rfl hinX0 (by decide) (by decide +kernel) rfl rfl dX0_addPhrase_22 ?_
    refine r_aload_n C (k := 0) dX0_addPhrase_25 rfl ?_
    refine r_getf C 4 (ok_of hG (kdl0 ht) (by decide) (Nat.le_trans ht (by decide))) (kdl0 ht) (by decide) rfl hinX0 (by decide) (by decide +kernel) rfl rfl dX0_addPhrase_26 ?_
    refine Wm.top (z' := w (t, 8, 0) (4)) (by simp [st1, cpy]) ?_
    refine r_iload_n C (k := 2) dX0_addPhrase_29 rfl ?_
    refine r_iast C ((w (t, 8, 0) (4)).toNat) hr (by first | exact hr _ _ | exact hr0 _ _ | exact hrI _ _ | assumption | exact ⟨by omega, by omega⟩) (ok_of hG (kdl2 ht) (by decide) (Nat.le_trans ht (by decide))) (kdl2 ht) (Int.toNat_of_nonneg (by first | omega | assumption)).symm (by first | omega | assumption) (by decide) dX0_addPhrase_30 (fun hr => ?_)
    refine r_aload_n C (k := 0) dX0_addPhrase_31 rfl ?_
    refine r_dup C dX0_addPhrase_32 rfl ?_
    refine r_getf C 4 (ok_of hG (kdl0 ht) (by decide) (Nat.le_trans ht (by decide))) (kdl0 ht) (by decide) rfl hinX0 (by decide) (by decide +kernel) rfl rfl dX0_addPhrase_33 ?_
    refine Wm.top (z' := w (t, 8, 0) (4)) (by simp [st1, cpy]) ?_
    refine r_iconst C dX0_addPhrase_36 ?_
    refine r_iadd C dX0_addPhrase_37 ?_
    refine r_putf C 4 hr (by first | exact hr _ _ | exact hr0 _ _ | exact hrI _ _ | assumption | exact ⟨by omega, by omega⟩) (ok_of hG (kdl0 ht) (by decide) (Nat.le_trans ht (by decide))) (kdl0 ht) (by decide) rfl hinX0 tyX0_ok nmX0 (by decide) (by decide +kernel) rfl rfl (ty := .int) (by decide +kernel) rfl rfl rfl (Nat.le_of_ble_eq_true rfl) dX0_addPhrase_38 (fun hr => ?_)
    refine r_aload_n C (k := 0) dX0_addPhrase_41 rfl ?_
    refine r_getf C 4 (ok_of hG (kdl0 ht) (by decide) (Nat.le_trans ht (by decide))) (kdl0 ht) (by decide) rfl hinX0 (by decide) (by decide +kernel) rfl rfl dX0_addPhrase_42 ?_
    refine Wm.top (z' := (w (t, 8, 0) (4) + 1)) (by simp [st1, cpy]) ?_
    refine r_iconst C dX0_addPhrase_45 ?_
    refine r_isub C dX0_addPhrase_46 ?_
    exact r_iret C dX0_addPhrase_47 (by exact congrArg (fun z => some (vI z)) (by rw [if_pos (by assumption)]; omega)) (by (unfold s0addP; first | rw [if_pos (by assumption)] | rw [if_neg (by omega)]))
  · skip
    refine r_iconst C dX0_addPhrase_9 ?_
    exact r_iret C dX0_addPhrase_10 (by exact congrArg (fun z => some (vI z)) (if_neg (by omega)).symm) (by (unfold s0addP; first | rw [if_pos (by assumption)] | rw [if_neg (by omega)]))

set_option maxRecDepth 100000 in
set_option maxHeartbeats 8000000 in
theorem c_X0_drummers {l : Launch} {G : Gt} (hG : Gok G) {t : Nat} (ht : t ≤ 1) {w : Mm} (hv0 : 0 ≤ w (t, 8, 0) 1 ∧ w (t, 8, 0) 1 ≤ 8) : Con l G yX0_drummers wsX0_drummers ({ frames := 1, cells := 0, slots := 0, locals := 20 } : Room) w [.ref (adr G (t, 8, 0))] (some (vI (s0drm w t))) w 0 0 := by
  refine Con.head (cc := cX0_drummers) (nL := 3) (ret := (some .int)) hG (by decide +kernel) rfl (Nat.le_of_ble_eq_true rfl) ?_
  intro B A hBl C hr
  have hr0 := hr
  have hrI := hr
  have hinX0 : ∀ w ∈ u_ws RX0 TX0 7, w ∈ wsX0_drummers := by decide +kernel
  obtain ⟨v1, v2⟩ := hv0
  refine r_iconst C dX0_drummers_0 ?_
  refine r_istore_n C (i := 1) (lv' := [(1, vI (0)), (0, .ref (adr G (t, 8, 0)))]) dX0_drummers_1 rfl (by decide) rfl ?_
  refine r_iconst C dX0_drummers_2 ?_
  refine r_istore_n C (i := 2) (lv' := [(2, vI (0)), (1, vI (0)), (0, .ref (adr G (t, 8, 0)))]) dX0_drummers_3 rfl (by decide) rfl ?_
  have loop_4 : ∀ (n : Nat) (i : Nat), (i ≤ (w (t, 8, 0) 1).toNat) → (w (t, 8, 0) 1).toNat - i < n → rng w → Wm B 3 G A (Qe B G A (some (vI (s0drm w t))) w 0 0) w 0 0 4 [(0, .ref (adr G (t, 8, 0))), (1, vI (sumI (fun i => bI (¬ w (t, i, 0) 6 = -1)) i)), (2, vI (((i : Nat) : Int)))] [] := by
    intro n4
    induction n4 with
    | zero => intro i hi hm; exact absurd hm (Nat.not_lt_zero _)
    | succ n4 ih4 =>
      intro i hi hm hr
      have hrI := hr
      have hi8 : i ≤ 8 := by omega
      refine r_iload_n C (k := 2) dX0_drummers_4 rfl ?_
      refine r_aload_n C (k := 0) dX0_drummers_5 rfl ?_
      refine r_getf C 1 (ok_of hG (kdl0 ht) (by decide) (Nat.le_trans ht (by decide))) (kdl0 ht) (by decide) rfl hinX0 (by decide) (by decide +kernel) rfl rfl dX0_drummers_6 ?_
      refine r_icmp_ge C (tgt := 33) dX0_drummers_9 (by decide) (by first | exact hr _ _ | exact hr0 _ _ | exact hrI _ _ | assumption | exact ⟨by omega, by omega⟩) (by first | exact hr _ _ | exact hr0 _ _ | exact hrI _ _ | assumption | exact ⟨by omega, by omega⟩) (fun h_1 => ?_) (fun h_1 => ?_)
      · skip
        refine r_iload_n C (k := 1) dX0_drummers_33 rfl ?_
        exact r_iret C dX0_drummers_34 (by (obtain rfl : i = (w (t, 8, 0) 1).toNat := (by omega)); rfl) (by first | rfl | (simp [*]; done))
      · skip
        refine r_aload_n C (k := 0) dX0_drummers_12 rfl ?_
        refine r_getf C 0 (v := .ref (adr G (t, 8, 3))) (ok_of hG (kdl0 ht) (by decide) (Nat.le_trans ht (by decide))) (kdl0 ht) (by decide) rfl hinX0 (by decide) (by decide +kernel) rfl rfl dX0_drummers_13 ?_
        refine r_iload_n C (k := 2) dX0_drummers_16 rfl ?_
        refine r_aald C (i) (ok_of hG (kdl3 ht) (by decide) (Nat.le_trans ht (by decide))) ht rfl (by first | omega | assumption) dX0_drummers_17 ?_
        refine r_callV C (w' := w) [] 0 (c_X2_isDrumming hG ht (by omega)) gX0_drummers_X2_isDrumming rfl rfl rfl (by decide +kernel) (Nat.le_of_ble_eq_true rfl) (Nat.le_of_ble_eq_true rfl) ⟨(Nat.zero_le _), (Nat.zero_le _)⟩ (ok_of hG (kdv0 ht (by omega)) (by decide) (Nat.le_trans ht (by decide))) (kdv0 ht (by omega)) (by decide) rfl rfl rfl (Nat.le_of_ble_eq_true rfl) (st' := [vI (bI (¬ w (t, i, 0) 6 = -1))]) rfl dX0_drummers_18 (fun hr => ?_)
        refine r_if_eqP C (P := ¬ w (t, i, 0) 6 = -1) (tgt := 27) dX0_drummers_21 (by decide) (fun h_2 => ?_) (fun h_2 => ?_)
        · skip
          refine r_iinc C (k := 2) (lv' := [(2, vI (((i + 1 : Nat) : Int))), (0, .ref (adr G (t, 8, 0))), (1, vI (sumI (fun i => bI (¬ w (t, i, 0) 6 = -1)) i))]) dX0_drummers_27 rfl (by decide) rfl ?_
          refine r_goto C (tgt := 4) dX0_drummers_30 (by decide) ?_
          have e_3 : w = w := by rfl
          refine Wm.sub (lv' := [(0, .ref (adr G (t, 8, 0))), (1, vI (sumI (fun i => bI (¬ w (t, i, 0) 6 = -1)) i)), (2, vI (((i + 1 : Nat) : Int)))]) [1, 2, 0] rfl ?_
          refine Wm.mem (lv' := [(0, .ref (adr G (t, 8, 0))), (1, vI (sumI (fun i => bI (¬ w (t, i, 0) 6 = -1)) (i + 1))), (2, vI ((((i + 1) : Nat) : Int)))]) e_3 (by (simp only [sumI]; first | rw [bI_t (by assumption)] | rw [bI_f (by assumption), Int.add_zero])) ?_
          exact ih4 ((i + 1)) (by omega) (by omega) (e_3 ▸ hr)
        · skip
          refine r_iinc C (k := 1) (lv' := [(1, vI ((sumI (fun i => bI (¬ w (t, i, 0) 6 = -1)) i + 1))), (0, .ref (adr G (t, 8, 0))), (2, vI (((i : Nat) : Int)))]) dX0_drummers_24 rfl (by decide) rfl ?_
          refine r_iinc C (k := 2) (lv' := [(2, vI (((i + 1 : Nat) : Int))), (1, vI ((sumI (fun i => bI (¬ w (t, i, 0) 6 = -1)) i + 1))), (0, .ref (adr G (t, 8, 0)))]) dX0_drummers_27 rfl (by decide) rfl ?_
          refine r_goto C (tgt := 4) dX0_drummers_30 (by decide) ?_
          have e_4 : w = w := by rfl
          refine Wm.sub (lv' := [(0, .ref (adr G (t, 8, 0))), (1, vI ((sumI (fun i => bI (¬ w (t, i, 0) 6 = -1)) i + 1))), (2, vI (((i + 1 : Nat) : Int)))]) [2, 1, 0] rfl ?_
          refine Wm.mem (lv' := [(0, .ref (adr G (t, 8, 0))), (1, vI (sumI (fun i => bI (¬ w (t, i, 0) 6 = -1)) (i + 1))), (2, vI ((((i + 1) : Nat) : Int)))]) e_4 (by (simp only [sumI]; first | rw [bI_t (by assumption)] | rw [bI_f (by assumption), Int.add_zero])) ?_
          exact ih4 ((i + 1)) (by omega) (by omega) (e_4 ▸ hr)
  have e_5 : w = w := by rfl
  refine Wm.sub (lv' := [(0, .ref (adr G (t, 8, 0))), (1, vI (0)), (2, vI (0))]) [2, 1, 0] rfl ?_
  refine Wm.mem (lv' := [(0, .ref (adr G (t, 8, 0))), (1, vI (sumI (fun i => bI (¬ w (t, i, 0) 6 = -1)) 0)), (2, vI (((0 : Nat) : Int)))]) e_5 (by rfl) ?_
  exact loop_4 _ (0) (by omega) (Nat.lt_succ_self _) (e_5 ▸ hr)

set_option maxRecDepth 100000 in
set_option maxHeartbeats 8000000 in
theorem c_X0_soundsInTheAir {l : Launch} {G : Gt} (hG : Gok G) {t : Nat} (ht : t ≤ 1) {w : Mm} (hv0 : 0 ≤ w (t, 8, 0) 1 ∧ w (t, 8, 0) 1 ≤ 8) : Con l G yX0_soundsInTheAir wsX0_soundsInTheAir ({ frames := 0, cells := 0, slots := 0, locals := 0 } : Room) w [.ref (adr G (t, 8, 0))] (some (vI (s0air w t))) w 0 0 := by
  refine Con.head (cc := cX0_soundsInTheAir) (nL := 3) (ret := (some .int)) hG (by decide +kernel) rfl (Nat.le_of_ble_eq_true rfl) ?_
  intro B A hBl C hr
  have hr0 := hr
  have hrI := hr
  have hinX0 : ∀ w ∈ u_ws RX0 TX0 7, w ∈ wsX0_soundsInTheAir := by decide +kernel
  have hinX1 : ∀ w ∈ u_ws RX1 TX1 5, w ∈ wsX0_soundsInTheAir := by decide +kernel
  have hinX2 : ∀ w ∈ u_ws RX2 TX2 13, w ∈ wsX0_soundsInTheAir := by decide +kernel
  obtain ⟨v1, v2⟩ := hv0
  refine r_iconst C dX0_soundsInTheAir_0 ?_
  refine r_istore_n C (i := 1) (lv' := [(1, vI (0)), (0, .ref (adr G (t, 8, 0)))]) dX0_soundsInTheAir_1 rfl (by decide) rfl ?_
  refine r_iconst C dX0_soundsInTheAir_2 ?_
  refine r_istore_n C (i := 2) (lv' := [(2, vI (0)), (1, vI (0)), (0, .ref (adr G (t, 8, 0)))]) dX0_soundsInTheAir_3 rfl (by decide) rfl ?_
  have loop_4 : ∀ (n : Nat) (i : Nat), (i ≤ (w (t, 8, 0) 1).toNat) → (w (t, 8, 0) 1).toNat - i < n → rng w → Wm B 3 G A (Qe B G A (some (vI (s0air w t))) w 0 0) w 0 0 4 [(0, .ref (adr G (t, 8, 0))), (1, vI (sumI (fun i => w (t, i, 3) 4) i)), (2, vI (((i : Nat) : Int)))] [] := by
    intro n4
    induction n4 with
    | zero => intro i hi hm; exact absurd hm (Nat.not_lt_zero _)
    | succ n4 ih4 =>
      intro i hi hm hr
      have hrI := hr
      have hi8 : i ≤ 8 := by omega
      refine r_iload_n C (k := 2) dX0_soundsInTheAir_4 rfl ?_
      refine r_aload_n C (k := 0) dX0_soundsInTheAir_5 rfl ?_
      refine r_getf C 1 (ok_of hG (kdl0 ht) (by decide) (Nat.le_trans ht (by decide))) (kdl0 ht) (by decide) rfl hinX0 (by decide) (by decide +kernel) rfl rfl dX0_soundsInTheAir_6 ?_
      refine r_icmp_ge C (tgt := 33) dX0_soundsInTheAir_9 (by decide) (by first | exact hr _ _ | exact hr0 _ _ | exact hrI _ _ | assumption | exact ⟨by omega, by omega⟩) (by first | exact hr _ _ | exact hr0 _ _ | exact hrI _ _ | assumption | exact ⟨by omega, by omega⟩) (fun h_1 => ?_) (fun h_1 => ?_)
      · skip
        refine r_iload_n C (k := 1) dX0_soundsInTheAir_33 rfl ?_
        exact r_iret C dX0_soundsInTheAir_34 (by (obtain rfl : i = (w (t, 8, 0) 1).toNat := (by omega)); rfl) (by first | rfl | (simp [*]; done))
      · skip
        refine r_iload_n C (k := 1) dX0_soundsInTheAir_12 rfl ?_
        refine r_aload_n C (k := 0) dX0_soundsInTheAir_13 rfl ?_
        refine r_getf C 0 (v := .ref (adr G (t, 8, 3))) (ok_of hG (kdl0 ht) (by decide) (Nat.le_trans ht (by decide))) (kdl0 ht) (by decide) rfl hinX0 (by decide) (by decide +kernel) rfl rfl dX0_soundsInTheAir_14 ?_
        refine r_iload_n C (k := 2) dX0_soundsInTheAir_17 rfl ?_
        refine r_aald C (i) (ok_of hG (kdl3 ht) (by decide) (Nat.le_trans ht (by decide))) ht rfl (by first | omega | assumption) dX0_soundsInTheAir_18 ?_
        refine r_getf C 11 (v := .ref (adr G (t, i, 3))) (ok_of hG (kdv0 ht (by omega)) (by decide) (Nat.le_trans ht (by decide))) (kdv0 ht (by omega)) (by decide) rfl hinX2 (by decide) (by decide +kernel) rfl rfl dX0_soundsInTheAir_19 ?_
        refine r_getf C 4 (ok_of hG (kdv3 ht (by omega)) (by decide) (Nat.le_trans ht (by decide))) (kdv3 ht (by omega)) (by decide) rfl hinX1 (by decide) (by decide +kernel) rfl rfl dX0_soundsInTheAir_22 ?_
        refine r_iadd C dX0_soundsInTheAir_25 ?_
        refine r_istore_n C (i := 1) (lv' := [(1, vI ((sumI (fun i => w (t, i, 3) 4) i + w (t, i, 3) (4)))), (0, .ref (adr G (t, 8, 0))), (2, vI (((i : Nat) : Int)))]) dX0_soundsInTheAir_26 rfl (by decide) rfl ?_
        refine r_iinc C (k := 2) (lv' := [(2, vI (((i + 1 : Nat) : Int))), (1, vI ((sumI (fun i => w (t, i, 3) 4) i + w (t, i, 3) (4)))), (0, .ref (adr G (t, 8, 0)))]) dX0_soundsInTheAir_27 rfl (by decide) rfl ?_
        refine r_goto C (tgt := 4) dX0_soundsInTheAir_30 (by decide) ?_
        have e_2 : w = w := by rfl
        refine Wm.sub (lv' := [(0, .ref (adr G (t, 8, 0))), (1, vI ((sumI (fun i => w (t, i, 3) 4) i + w (t, i, 3) (4)))), (2, vI (((i + 1 : Nat) : Int)))]) [2, 1, 0] rfl ?_
        refine Wm.mem (lv' := [(0, .ref (adr G (t, 8, 0))), (1, vI (sumI (fun i => w (t, i, 3) 4) (i + 1))), (2, vI ((((i + 1) : Nat) : Int)))]) e_2 (by rfl) ?_
        exact ih4 ((i + 1)) (by omega) (by omega) (e_2 ▸ hr)
  have e_3 : w = w := by rfl
  refine Wm.sub (lv' := [(0, .ref (adr G (t, 8, 0))), (1, vI (0)), (2, vI (0))]) [2, 1, 0] rfl ?_
  refine Wm.mem (lv' := [(0, .ref (adr G (t, 8, 0))), (1, vI (sumI (fun i => w (t, i, 3) 4) 0)), (2, vI (((0 : Nat) : Int)))]) e_3 (by rfl) ?_
  exact loop_4 _ (0) (by omega) (Nat.lt_succ_self _) (e_3 ▸ hr)

set_option maxRecDepth 100000 in
set_option maxHeartbeats 8000000 in
theorem c_X0_soundsDrowned {l : Launch} {G : Gt} (hG : Gok G) {t : Nat} (ht : t ≤ 1) {w : Mm} (hv0 : 0 ≤ w (t, 8, 0) 1 ∧ w (t, 8, 0) 1 ≤ 8) : Con l G yX0_soundsDrowned wsX0_soundsDrowned ({ frames := 0, cells := 0, slots := 0, locals := 0 } : Room) w [.ref (adr G (t, 8, 0))] (some (vI (s0dwn w t))) w 0 0 := by
  refine Con.head (cc := cX0_soundsDrowned) (nL := 3) (ret := (some .int)) hG (by decide +kernel) rfl (Nat.le_of_ble_eq_true rfl) ?_
  intro B A hBl C hr
  have hr0 := hr
  have hrI := hr
  have hinX0 : ∀ w ∈ u_ws RX0 TX0 7, w ∈ wsX0_soundsDrowned := by decide +kernel
  have hinX2 : ∀ w ∈ u_ws RX2 TX2 13, w ∈ wsX0_soundsDrowned := by decide +kernel
  obtain ⟨v1, v2⟩ := hv0
  refine r_iconst C dX0_soundsDrowned_0 ?_
  refine r_istore_n C (i := 1) (lv' := [(1, vI (0)), (0, .ref (adr G (t, 8, 0)))]) dX0_soundsDrowned_1 rfl (by decide) rfl ?_
  refine r_iconst C dX0_soundsDrowned_2 ?_
  refine r_istore_n C (i := 2) (lv' := [(2, vI (0)), (1, vI (0)), (0, .ref (adr G (t, 8, 0)))]) dX0_soundsDrowned_3 rfl (by decide) rfl ?_
  have loop_4 : ∀ (n : Nat) (i : Nat), (i ≤ (w (t, 8, 0) 1).toNat) → (w (t, 8, 0) 1).toNat - i < n → rng w → Wm B 3 G A (Qe B G A (some (vI (s0dwn w t))) w 0 0) w 0 0 4 [(0, .ref (adr G (t, 8, 0))), (1, vI (sumI (fun i => w (t, i, 0) 12) i)), (2, vI (((i : Nat) : Int)))] [] := by
    intro n4
    induction n4 with
    | zero => intro i hi hm; exact absurd hm (Nat.not_lt_zero _)
    | succ n4 ih4 =>
      intro i hi hm hr
      have hrI := hr
      have hi8 : i ≤ 8 := by omega
      refine r_iload_n C (k := 2) dX0_soundsDrowned_4 rfl ?_
      refine r_aload_n C (k := 0) dX0_soundsDrowned_5 rfl ?_
      refine r_getf C 1 (ok_of hG (kdl0 ht) (by decide) (Nat.le_trans ht (by decide))) (kdl0 ht) (by decide) rfl hinX0 (by decide) (by decide +kernel) rfl rfl dX0_soundsDrowned_6 ?_
      refine r_icmp_ge C (tgt := 30) dX0_soundsDrowned_9 (by decide) (by first | exact hr _ _ | exact hr0 _ _ | exact hrI _ _ | assumption | exact ⟨by omega, by omega⟩) (by first | exact hr _ _ | exact hr0 _ _ | exact hrI _ _ | assumption | exact ⟨by omega, by omega⟩) (fun h_1 => ?_) (fun h_1 => ?_)
      · skip
        refine r_iload_n C (k := 1) dX0_soundsDrowned_30 rfl ?_
        exact r_iret C dX0_soundsDrowned_31 (by (obtain rfl : i = (w (t, 8, 0) 1).toNat := (by omega)); rfl) (by first | rfl | (simp [*]; done))
      · skip
        refine r_iload_n C (k := 1) dX0_soundsDrowned_12 rfl ?_
        refine r_aload_n C (k := 0) dX0_soundsDrowned_13 rfl ?_
        refine r_getf C 0 (v := .ref (adr G (t, 8, 3))) (ok_of hG (kdl0 ht) (by decide) (Nat.le_trans ht (by decide))) (kdl0 ht) (by decide) rfl hinX0 (by decide) (by decide +kernel) rfl rfl dX0_soundsDrowned_14 ?_
        refine r_iload_n C (k := 2) dX0_soundsDrowned_17 rfl ?_
        refine r_aald C (i) (ok_of hG (kdl3 ht) (by decide) (Nat.le_trans ht (by decide))) ht rfl (by first | omega | assumption) dX0_soundsDrowned_18 ?_
        refine r_getf C 12 (ok_of hG (kdv0 ht (by omega)) (by decide) (Nat.le_trans ht (by decide))) (kdv0 ht (by omega)) (by decide) rfl hinX2 (by decide) (by decide +kernel) rfl rfl dX0_soundsDrowned_19 ?_
        refine r_iadd C dX0_soundsDrowned_22 ?_
        refine r_istore_n C (i := 1) (lv' := [(1, vI ((sumI (fun i => w (t, i, 0) 12) i + w (t, i, 0) (12)))), (0, .ref (adr G (t, 8, 0))), (2, vI (((i : Nat) : Int)))]) dX0_soundsDrowned_23 rfl (by decide) rfl ?_
        refine r_iinc C (k := 2) (lv' := [(2, vI (((i + 1 : Nat) : Int))), (1, vI ((sumI (fun i => w (t, i, 0) 12) i + w (t, i, 0) (12)))), (0, .ref (adr G (t, 8, 0)))]) dX0_soundsDrowned_24 rfl (by decide) rfl ?_
        refine r_goto C (tgt := 4) dX0_soundsDrowned_27 (by decide) ?_
        have e_2 : w = w := by rfl
        refine Wm.sub (lv' := [(0, .ref (adr G (t, 8, 0))), (1, vI ((sumI (fun i => w (t, i, 0) 12) i + w (t, i, 0) (12)))), (2, vI (((i + 1 : Nat) : Int)))]) [2, 1, 0] rfl ?_
        refine Wm.mem (lv' := [(0, .ref (adr G (t, 8, 0))), (1, vI (sumI (fun i => w (t, i, 0) 12) (i + 1))), (2, vI ((((i + 1) : Nat) : Int)))]) e_2 (by rfl) ?_
        exact ih4 ((i + 1)) (by omega) (by omega) (e_2 ▸ hr)
  have e_3 : w = w := by rfl
  refine Wm.sub (lv' := [(0, .ref (adr G (t, 8, 0))), (1, vI (0)), (2, vI (0))]) [2, 1, 0] rfl ?_
  refine Wm.mem (lv' := [(0, .ref (adr G (t, 8, 0))), (1, vI (sumI (fun i => w (t, i, 0) 12) 0)), (2, vI (((0 : Nat) : Int)))]) e_3 (by rfl) ?_
  exact loop_4 _ (0) (by omega) (Nat.lt_succ_self _) (e_3 ▸ hr)

set_option maxRecDepth 100000 in
set_option maxHeartbeats 8000000 in
theorem c_X0_knownPairs {l : Launch} {G : Gt} (hG : Gok G) {t : Nat} (ht : t ≤ 1) {w : Mm} (hv0 : 0 ≤ w (t, 8, 0) 1 ∧ w (t, 8, 0) 1 ≤ 8) : Con l G yX0_knownPairs wsX0_knownPairs ({ frames := 2, cells := 0, slots := 0, locals := 43 } : Room) w [.ref (adr G (t, 8, 0))] (some (vI (s0prs w t))) w 0 0 := by
  refine Con.head (cc := cX0_knownPairs) (nL := 3) (ret := (some .int)) hG (by decide +kernel) rfl (Nat.le_of_ble_eq_true rfl) ?_
  intro B A hBl C hr
  have hr0 := hr
  have hrI := hr
  have hinX0 : ∀ w ∈ u_ws RX0 TX0 7, w ∈ wsX0_knownPairs := by decide +kernel
  obtain ⟨v1, v2⟩ := hv0
  refine r_iconst C dX0_knownPairs_0 ?_
  refine r_istore_n C (i := 1) (lv' := [(1, vI (0)), (0, .ref (adr G (t, 8, 0)))]) dX0_knownPairs_1 rfl (by decide) rfl ?_
  refine r_iconst C dX0_knownPairs_2 ?_
  refine r_istore_n C (i := 2) (lv' := [(2, vI (0)), (1, vI (0)), (0, .ref (adr G (t, 8, 0)))]) dX0_knownPairs_3 rfl (by decide) rfl ?_
  have loop_4 : ∀ (n : Nat) (i : Nat), (i ≤ (w (t, 8, 0) 1).toNat) → (w (t, 8, 0) 1).toNat - i < n → rng w → Wm B 3 G A (Qe B G A (some (vI (s0prs w t))) w 0 0) w 0 0 4 [(0, .ref (adr G (t, 8, 0))), (1, vI (sumI (fun i => ((s2kn w t i 12 : Nat) : Int)) i)), (2, vI (((i : Nat) : Int)))] [] := by
    intro n4
    induction n4 with
    | zero => intro i hi hm; exact absurd hm (Nat.not_lt_zero _)
    | succ n4 ih4 =>
      intro i hi hm hr
      have hrI := hr
      have hi8 : i ≤ 8 := by omega
      refine r_iload_n C (k := 2) dX0_knownPairs_4 rfl ?_
      refine r_aload_n C (k := 0) dX0_knownPairs_5 rfl ?_
      refine r_getf C 1 (ok_of hG (kdl0 ht) (by decide) (Nat.le_trans ht (by decide))) (kdl0 ht) (by decide) rfl hinX0 (by decide) (by decide +kernel) rfl rfl dX0_knownPairs_6 ?_
      refine r_icmp_ge C (tgt := 30) dX0_knownPairs_9 (by decide) (by first | exact hr _ _ | exact hr0 _ _ | exact hrI _ _ | assumption | exact ⟨by omega, by omega⟩) (by first | exact hr _ _ | exact hr0 _ _ | exact hrI _ _ | assumption | exact ⟨by omega, by omega⟩) (fun h_1 => ?_) (fun h_1 => ?_)
      · skip
        refine r_iload_n C (k := 1) dX0_knownPairs_30 rfl ?_
        exact r_iret C dX0_knownPairs_31 (by (obtain rfl : i = (w (t, 8, 0) 1).toNat := (by omega)); rfl) (by first | rfl | (simp [*]; done))
      · skip
        refine r_iload_n C (k := 1) dX0_knownPairs_12 rfl ?_
        refine r_aload_n C (k := 0) dX0_knownPairs_13 rfl ?_
        refine r_getf C 0 (v := .ref (adr G (t, 8, 3))) (ok_of hG (kdl0 ht) (by decide) (Nat.le_trans ht (by decide))) (kdl0 ht) (by decide) rfl hinX0 (by decide) (by decide +kernel) rfl rfl dX0_knownPairs_14 ?_
        refine r_iload_n C (k := 2) dX0_knownPairs_17 rfl ?_
        refine r_aald C (i) (ok_of hG (kdl3 ht) (by decide) (Nat.le_trans ht (by decide))) ht rfl (by first | omega | assumption) dX0_knownPairs_18 ?_
        refine r_callV C (w' := w) [] 0 (c_X2_phrasesKnown hG ht (by omega)) gX0_knownPairs_X2_phrasesKnown rfl rfl rfl (by decide +kernel) (Nat.le_of_ble_eq_true rfl) (Nat.le_of_ble_eq_true rfl) ⟨(Nat.zero_le _), (Nat.zero_le _)⟩ (ok_of hG (kdv0 ht (by omega)) (by decide) (Nat.le_trans ht (by decide))) (kdv0 ht (by omega)) (by decide) rfl rfl rfl (Nat.le_of_ble_eq_true rfl) (st' := [vI ((((s2kn w t i 12 : Nat) : Int))), vI (sumI (fun i => ((s2kn w t i 12 : Nat) : Int)) i)]) rfl dX0_knownPairs_19 (fun hr => ?_)
        refine r_iadd C dX0_knownPairs_22 ?_
        refine r_istore_n C (i := 1) (lv' := [(1, vI ((sumI (fun i => ((s2kn w t i 12 : Nat) : Int)) i + (((s2kn w t i 12 : Nat) : Int))))), (0, .ref (adr G (t, 8, 0))), (2, vI (((i : Nat) : Int)))]) dX0_knownPairs_23 rfl (by decide) rfl ?_
        refine r_iinc C (k := 2) (lv' := [(2, vI (((i + 1 : Nat) : Int))), (1, vI ((sumI (fun i => ((s2kn w t i 12 : Nat) : Int)) i + (((s2kn w t i 12 : Nat) : Int))))), (0, .ref (adr G (t, 8, 0)))]) dX0_knownPairs_24 rfl (by decide) rfl ?_
        refine r_goto C (tgt := 4) dX0_knownPairs_27 (by decide) ?_
        have e_2 : w = w := by rfl
        refine Wm.sub (lv' := [(0, .ref (adr G (t, 8, 0))), (1, vI ((sumI (fun i => ((s2kn w t i 12 : Nat) : Int)) i + (((s2kn w t i 12 : Nat) : Int))))), (2, vI (((i + 1 : Nat) : Int)))]) [2, 1, 0] rfl ?_
        refine Wm.mem (lv' := [(0, .ref (adr G (t, 8, 0))), (1, vI (sumI (fun i => ((s2kn w t i 12 : Nat) : Int)) (i + 1))), (2, vI ((((i + 1) : Nat) : Int)))]) e_2 (by rfl) ?_
        exact ih4 ((i + 1)) (by omega) (by omega) (e_2 ▸ hr)
  have e_3 : w = w := by rfl
  refine Wm.sub (lv' := [(0, .ref (adr G (t, 8, 0))), (1, vI (0)), (2, vI (0))]) [2, 1, 0] rfl ?_
  refine Wm.mem (lv' := [(0, .ref (adr G (t, 8, 0))), (1, vI (sumI (fun i => ((s2kn w t i 12 : Nat) : Int)) 0)), (2, vI (((0 : Nat) : Int)))]) e_3 (by rfl) ?_
  exact loop_4 _ (0) (by omega) (Nat.lt_succ_self _) (e_3 ▸ hr)

set_option maxRecDepth 100000 in
set_option maxHeartbeats 8000000 in
theorem c_X0_knowersOf {l : Launch} {G : Gt} (hG : Gok G) {t : Nat} (ht : t ≤ 1) {w : Mm} {p : Int} (hv0 : 0 ≤ w (t, 8, 0) 1 ∧ w (t, 8, 0) 1 ≤ 8) (hp : inR p) : Con l G yX0_knowersOf wsX0_knowersOf ({ frames := 1, cells := 0, slots := 0, locals := 21 } : Room) w [.ref (adr G (t, 8, 0)), vI p] (some (vI (s0kno w t p))) w 0 0 := by
  refine Con.head (cc := cX0_knowersOf) (nL := 4) (ret := (some .int)) hG (by decide +kernel) rfl (Nat.le_of_ble_eq_true rfl) ?_
  intro B A hBl C hr
  have hr0 := hr
  have hrI := hr
  have hinX0 : ∀ w ∈ u_ws RX0 TX0 7, w ∈ wsX0_knowersOf := by decide +kernel
  obtain ⟨v1, v2⟩ := hv0
  refine r_iconst C dX0_knowersOf_0 ?_
  refine r_istore_n C (i := 2) (lv' := [(2, vI (0)), (0, .ref (adr G (t, 8, 0))), (1, vI (p))]) dX0_knowersOf_1 rfl (by decide) rfl ?_
  refine r_iconst C dX0_knowersOf_2 ?_
  refine r_istore_n C (i := 3) (lv' := [(3, vI (0)), (2, vI (0)), (0, .ref (adr G (t, 8, 0))), (1, vI (p))]) dX0_knowersOf_3 rfl (by decide) rfl ?_
  have loop_4 : ∀ (n : Nat) (i : Nat), (i ≤ (w (t, 8, 0) 1).toNat) → (w (t, 8, 0) 1).toNat - i < n → rng w → Wm B 4 G A (Qe B G A (some (vI (s0kno w t p))) w 0 0) w 0 0 4 [(0, .ref (adr G (t, 8, 0))), (1, vI (p)), (2, vI (sumI (fun i => bI (kno w t i p)) i)), (3, vI (((i : Nat) : Int)))] [] := by
    intro n4
    induction n4 with
    | zero => intro i hi hm; exact absurd hm (Nat.not_lt_zero _)
    | succ n4 ih4 =>
      intro i hi hm hr
      have hrI := hr
      have hi8 : i ≤ 8 := by omega
      refine r_iload_n C (k := 3) dX0_knowersOf_4 rfl ?_
      refine r_aload_n C (k := 0) dX0_knowersOf_5 rfl ?_
      refine r_getf C 1 (ok_of hG (kdl0 ht) (by decide) (Nat.le_trans ht (by decide))) (kdl0 ht) (by decide) rfl hinX0 (by decide) (by decide +kernel) rfl rfl dX0_knowersOf_6 ?_
      refine r_icmp_ge C (tgt := 34) dX0_knowersOf_9 (by decide) (by first | exact hr _ _ | exact hr0 _ _ | exact hrI _ _ | assumption | exact ⟨by omega, by omega⟩) (by first | exact hr _ _ | exact hr0 _ _ | exact hrI _ _ | assumption | exact ⟨by omega, by omega⟩) (fun h_1 => ?_) (fun h_1 => ?_)
      · skip
        refine r_iload_n C (k := 2) dX0_knowersOf_34 rfl ?_
        exact r_iret C dX0_knowersOf_35 (by (obtain rfl : i = (w (t, 8, 0) 1).toNat := (by omega)); rfl) (by first | rfl | (simp [*]; done))
      · skip
        refine r_aload_n C (k := 0) dX0_knowersOf_12 rfl ?_
        refine r_getf C 0 (v := .ref (adr G (t, 8, 3))) (ok_of hG (kdl0 ht) (by decide) (Nat.le_trans ht (by decide))) (kdl0 ht) (by decide) rfl hinX0 (by decide) (by decide +kernel) rfl rfl dX0_knowersOf_13 ?_
        refine r_iload_n C (k := 3) dX0_knowersOf_16 rfl ?_
        refine r_aald C (i) (ok_of hG (kdl3 ht) (by decide) (Nat.le_trans ht (by decide))) ht rfl (by first | omega | assumption) dX0_knowersOf_17 ?_
        refine r_iload_n C (k := 1) dX0_knowersOf_18 rfl ?_
        refine r_callV C (w' := w) [vI (p)] 1 (c_X2_isKnown hG ht (by omega) (by first | assumption | omega | exact hr _ _ | exact hr0 _ _ | exact hrI _ _ | exact ⟨by omega, by omega⟩ | exact bI_inR _ | (simp [st1] <;> omega) | exact rowR.so (by assumption) (by simp))) gX0_knowersOf_X2_isKnown rfl rfl rfl (by decide +kernel) (Nat.le_of_ble_eq_true rfl) (Nat.le_of_ble_eq_true rfl) ⟨(Nat.zero_le _), (Nat.zero_le _)⟩ (ok_of hG (kdv0 ht (by omega)) (by decide) (Nat.le_trans ht (by decide))) (kdv0 ht (by omega)) (by decide) rfl rfl rfl (Nat.le_of_ble_eq_true rfl) (st' := [vI (bI (kno w t i (p)))]) rfl dX0_knowersOf_19 (fun hr => ?_)
        refine r_if_eqP C (P := kno w t i (p)) (tgt := 28) dX0_knowersOf_22 (by decide) (fun h_2 => ?_) (fun h_2 => ?_)
        · skip
          refine r_iinc C (k := 3) (lv' := [(3, vI (((i + 1 : Nat) : Int))), (0, .ref (adr G (t, 8, 0))), (1, vI (p)), (2, vI (sumI (fun i => bI (kno w t i p)) i))]) dX0_knowersOf_28 rfl (by decide) rfl ?_
          refine r_goto C (tgt := 4) dX0_knowersOf_31 (by decide) ?_
          have e_3 : w = w := by rfl
          refine Wm.sub (lv' := [(0, .ref (adr G (t, 8, 0))), (1, vI (p)), (2, vI (sumI (fun i => bI (kno w t i p)) i)), (3, vI (((i + 1 : Nat) : Int)))]) [1, 2, 3, 0] rfl ?_
          refine Wm.mem (lv' := [(0, .ref (adr G (t, 8, 0))), (1, vI (p)), (2, vI (sumI (fun i => bI (kno w t i p)) (i + 1))), (3, vI ((((i + 1) : Nat) : Int)))]) e_3 (by (simp only [sumI]; first | rw [bI_t (by assumption)] | rw [bI_f (by assumption), Int.add_zero])) ?_
          exact ih4 ((i + 1)) (by omega) (by omega) (e_3 ▸ hr)
        · skip
          refine r_iinc C (k := 2) (lv' := [(2, vI ((sumI (fun i => bI (kno w t i p)) i + 1))), (0, .ref (adr G (t, 8, 0))), (1, vI (p)), (3, vI (((i : Nat) : Int)))]) dX0_knowersOf_25 rfl (by decide) rfl ?_
          refine r_iinc C (k := 3) (lv' := [(3, vI (((i + 1 : Nat) : Int))), (2, vI ((sumI (fun i => bI (kno w t i p)) i + 1))), (0, .ref (adr G (t, 8, 0))), (1, vI (p))]) dX0_knowersOf_28 rfl (by decide) rfl ?_
          refine r_goto C (tgt := 4) dX0_knowersOf_31 (by decide) ?_
          have e_4 : w = w := by rfl
          refine Wm.sub (lv' := [(0, .ref (adr G (t, 8, 0))), (1, vI (p)), (2, vI ((sumI (fun i => bI (kno w t i p)) i + 1))), (3, vI (((i + 1 : Nat) : Int)))]) [2, 3, 1, 0] rfl ?_
          refine Wm.mem (lv' := [(0, .ref (adr G (t, 8, 0))), (1, vI (p)), (2, vI (sumI (fun i => bI (kno w t i p)) (i + 1))), (3, vI ((((i + 1) : Nat) : Int)))]) e_4 (by (simp only [sumI]; first | rw [bI_t (by assumption)] | rw [bI_f (by assumption), Int.add_zero])) ?_
          exact ih4 ((i + 1)) (by omega) (by omega) (e_4 ▸ hr)
  have e_5 : w = w := by rfl
  refine Wm.sub (lv' := [(0, .ref (adr G (t, 8, 0))), (1, vI (p)), (2, vI (0)), (3, vI (0))]) [2, 3, 1, 0] rfl ?_
  refine Wm.mem (lv' := [(0, .ref (adr G (t, 8, 0))), (1, vI (p)), (2, vI (sumI (fun i => bI (kno w t i p)) 0)), (3, vI (((0 : Nat) : Int)))]) e_5 (by rfl) ?_
  exact loop_4 _ (0) (by omega) (Nat.lt_succ_self _) (e_5 ▸ hr)

set_option maxRecDepth 100000 in
set_option maxHeartbeats 8000000 in
theorem c_X0_figure {l : Launch} {G : Gt} (hG : Gok G) {t : Nat} (ht : t ≤ 1) {w : Mm} {a : Int} (hv0 : 0 ≤ w (t, 8, 0) 1 ∧ w (t, 8, 0) 1 ≤ 8) (ha : 0 ≤ a ∧ a ≤ 7) : Con l G yX0_figure wsX0_figure ({ frames := 3, cells := 0, slots := 0, locals := 65 } : Room) w [.ref (adr G (t, 8, 0)), vI a] (some (vI (s0fig w t (a).toNat))) w 0 0 := by
  refine Con.head (cc := cX0_figure) (nL := 2) (ret := (some .int)) hG (by decide +kernel) rfl (Nat.le_of_ble_eq_true rfl) ?_
  intro B A hBl C hr
  have hr0 := hr
  have hrI := hr
  have hinX0 : ∀ w ∈ u_ws RX0 TX0 7, w ∈ wsX0_figure := by decide +kernel
  refine r_iload_n C (k := 1) dX0_figure_0 rfl ?_
  rcases (show a = 0 ∨ a = 1 ∨ a = 2 ∨ a = 3 ∨ a = 4 ∨ a = 5 ∨ a = 6 ∨ a = 7 by omega) with rfl | rfl | rfl | rfl | rfl | rfl | rfl | rfl
  · refine r_tsIn C (tgt := 44) dX0_figure_1 ⟨by decide, by decide⟩ (by decide) (by decide) rfl (by decide) ?_
    refine r_aload_n C (k := 0) dX0_figure_44 rfl ?_
    refine r_getf C 5 (ok_of hG (kdl0 ht) (by decide) (Nat.le_trans ht (by decide))) (kdl0 ht) (by decide) rfl hinX0 (by decide) (by decide +kernel) rfl rfl dX0_figure_45 ?_
    exact r_iret C dX0_figure_48 (by rfl) (by first | rfl | (simp [*]; done))
  · refine r_tsIn C (tgt := 49) dX0_figure_1 ⟨by decide, by decide⟩ (by decide) (by decide) rfl (by decide) ?_
    refine r_aload_n C (k := 0) dX0_figure_49 rfl ?_
    refine r_getf C 1 (ok_of hG (kdl0 ht) (by decide) (Nat.le_trans ht (by decide))) (kdl0 ht) (by decide) rfl hinX0 (by decide) (by decide +kernel) rfl rfl dX0_figure_50 ?_
    exact r_iret C dX0_figure_53 (by rfl) (by first | rfl | (simp [*]; done))
  · refine r_tsIn C (tgt := 54) dX0_figure_1 ⟨by decide, by decide⟩ (by decide) (by decide) rfl (by decide) ?_
    refine r_aload_n C (k := 0) dX0_figure_54 rfl ?_
    refine r_getf C 4 (ok_of hG (kdl0 ht) (by decide) (Nat.le_trans ht (by decide))) (kdl0 ht) (by decide) rfl hinX0 (by decide) (by decide +kernel) rfl rfl dX0_figure_55 ?_
    exact r_iret C dX0_figure_58 (by rfl) (by first | rfl | (simp [*]; done))
  · refine r_tsIn C (tgt := 59) dX0_figure_1 ⟨by decide, by decide⟩ (by decide) (by decide) rfl (by decide) ?_
    refine r_aload_n C (k := 0) dX0_figure_59 rfl ?_
    refine r_callV C (w' := w) [] 0 (c_X0_drummers hG ht (by first | assumption | omega | exact hr _ _ | exact hr0 _ _ | exact hrI _ _ | exact ⟨by omega, by omega⟩ | exact bI_inR _ | (simp [st1] <;> omega) | exact rowR.so (by assumption) (by simp))) gX0_figure_X0_drummers rfl rfl rfl (by decide +kernel) (Nat.le_of_ble_eq_true rfl) (Nat.le_of_ble_eq_true rfl) ⟨(Nat.zero_le _), (Nat.zero_le _)⟩ (ok_of hG (kdl0 ht) (by decide) (Nat.le_trans ht (by decide))) (kdl0 ht) (by decide) rfl rfl rfl (Nat.le_of_ble_eq_true rfl) (st' := [vI ((s0drm w t))]) rfl dX0_figure_60 (fun hr => ?_)
    exact r_iret C dX0_figure_63 (by rfl) (by first | rfl | (simp [*]; done))
  · refine r_tsIn C (tgt := 64) dX0_figure_1 ⟨by decide, by decide⟩ (by decide) (by decide) rfl (by decide) ?_
    refine r_aload_n C (k := 0) dX0_figure_64 rfl ?_
    refine r_callV C (w' := w) [] 0 (c_X0_soundsInTheAir hG ht (by first | assumption | omega | exact hr _ _ | exact hr0 _ _ | exact hrI _ _ | exact ⟨by omega, by omega⟩ | exact bI_inR _ | (simp [st1] <;> omega) | exact rowR.so (by assumption) (by simp))) gX0_figure_X0_soundsInTheAir rfl rfl rfl (by decide +kernel) (Nat.le_of_ble_eq_true rfl) (Nat.le_of_ble_eq_true rfl) ⟨(Nat.zero_le _), (Nat.zero_le _)⟩ (ok_of hG (kdl0 ht) (by decide) (Nat.le_trans ht (by decide))) (kdl0 ht) (by decide) rfl rfl rfl (Nat.le_of_ble_eq_true rfl) (st' := [vI ((s0air w t))]) rfl dX0_figure_65 (fun hr => ?_)
    exact r_iret C dX0_figure_68 (by rfl) (by first | rfl | (simp [*]; done))
  · refine r_tsIn C (tgt := 69) dX0_figure_1 ⟨by decide, by decide⟩ (by decide) (by decide) rfl (by decide) ?_
    refine r_aload_n C (k := 0) dX0_figure_69 rfl ?_
    refine r_getf C 6 (ok_of hG (kdl0 ht) (by decide) (Nat.le_trans ht (by decide))) (kdl0 ht) (by decide) rfl hinX0 (by decide) (by decide +kernel) rfl rfl dX0_figure_70 ?_
    exact r_iret C dX0_figure_73 (by rfl) (by first | rfl | (simp [*]; done))
  · refine r_tsIn C (tgt := 74) dX0_figure_1 ⟨by decide, by decide⟩ (by decide) (by decide) rfl (by decide) ?_
    refine r_aload_n C (k := 0) dX0_figure_74 rfl ?_
    refine r_callV C (w' := w) [] 0 (c_X0_soundsDrowned hG ht (by first | assumption | omega | exact hr _ _ | exact hr0 _ _ | exact hrI _ _ | exact ⟨by omega, by omega⟩ | exact bI_inR _ | (simp [st1] <;> omega) | exact rowR.so (by assumption) (by simp))) gX0_figure_X0_soundsDrowned rfl rfl rfl (by decide +kernel) (Nat.le_of_ble_eq_true rfl) (Nat.le_of_ble_eq_true rfl) ⟨(Nat.zero_le _), (Nat.zero_le _)⟩ (ok_of hG (kdl0 ht) (by decide) (Nat.le_trans ht (by decide))) (kdl0 ht) (by decide) rfl rfl rfl (Nat.le_of_ble_eq_true rfl) (st' := [vI ((s0dwn w t))]) rfl dX0_figure_75 (fun hr => ?_)
    exact r_iret C dX0_figure_78 (by rfl) (by first | rfl | (simp [*]; done))
  · refine r_tsOut C (tgt := 79) dX0_figure_1 ⟨by decide, by decide⟩ (by decide) (by decide) ?_
    refine r_aload_n C (k := 0) dX0_figure_79 rfl ?_
    refine r_callV C (w' := w) [] 0 (c_X0_knownPairs hG ht (by first | assumption | omega | exact hr _ _ | exact hr0 _ _ | exact hrI _ _ | exact ⟨by omega, by omega⟩ | exact bI_inR _ | (simp [st1] <;> omega) | exact rowR.so (by assumption) (by simp))) gX0_figure_X0_knownPairs rfl rfl rfl (by decide +kernel) (Nat.le_of_ble_eq_true rfl) (Nat.le_of_ble_eq_true rfl) ⟨(Nat.zero_le _), (Nat.zero_le _)⟩ (ok_of hG (kdl0 ht) (by decide) (Nat.le_trans ht (by decide))) (kdl0 ht) (by decide) rfl rfl rfl (Nat.le_of_ble_eq_true rfl) (st' := [vI ((s0prs w t))]) rfl dX0_figure_80 (fun hr => ?_)
    exact r_iret C dX0_figure_83 (by rfl) (by first | rfl | (simp [*]; done))

set_option maxRecDepth 100000 in
set_option maxHeartbeats 8000000 in
theorem c_X0_isQuiet {l : Launch} {G : Gt} (hG : Gok G) {t : Nat} (ht : t ≤ 1) {w : Mm} (hv0 : 0 ≤ w (t, 8, 0) 1 ∧ w (t, 8, 0) 1 ≤ 8) : Con l G yX0_isQuiet wsX0_isQuiet ({ frames := 1, cells := 0, slots := 0, locals := 20 } : Room) w [.ref (adr G (t, 8, 0))] (some (vI (bI (s0quiet w t)))) w 0 0 := by
  refine Con.head (cc := cX0_isQuiet) (nL := 3) (ret := (some .boolean)) hG (by decide +kernel) rfl (Nat.le_of_ble_eq_true rfl) ?_
  intro B A hBl C hr
  have hr0 := hr
  have hrI := hr
  have hinX0 : ∀ w ∈ u_ws RX0 TX0 7, w ∈ wsX0_isQuiet := by decide +kernel
  have hinX1 : ∀ w ∈ u_ws RX1 TX1 5, w ∈ wsX0_isQuiet := by decide +kernel
  have hinX2 : ∀ w ∈ u_ws RX2 TX2 13, w ∈ wsX0_isQuiet := by decide +kernel
  obtain ⟨v1, v2⟩ := hv0
  refine r_iconst C dX0_isQuiet_0 ?_
  refine r_istore_n C (i := 1) (lv' := [(1, vI (0)), (0, .ref (adr G (t, 8, 0)))]) dX0_isQuiet_1 rfl (by decide) rfl ?_
  have loop_2 : ∀ (n : Nat) (i : Nat), (i ≤ (w (t, 8, 0) 1).toNat) → (∀ j, j < i → w (t, j, 0) 6 = -1 ∧ w (t, j, 0) 9 ≤ 0 ∧ w (t, j, 3) 4 ≤ 0) → (w (t, 8, 0) 1).toNat - i < n → rng w → Wm B 3 G A (Qe B G A (some (vI (bI (s0quiet w t)))) w 0 0) w 0 0 2 [(0, .ref (adr G (t, 8, 0))), (1, vI (((i : Nat) : Int)))] [] := by
    intro n2
    induction n2 with
    | zero => intro i hi hq hm; exact absurd hm (Nat.not_lt_zero _)
    | succ n2 ih2 =>
      intro i hi hq hm hr
      have hrI := hr
      refine r_iload_n C (k := 1) dX0_isQuiet_2 rfl ?_
      refine r_aload_n C (k := 0) dX0_isQuiet_3 rfl ?_
      refine r_getf C 1 (ok_of hG (kdl0 ht) (by decide) (Nat.le_trans ht (by decide))) (kdl0 ht) (by decide) rfl hinX0 (by decide) (by decide +kernel) rfl rfl dX0_isQuiet_4 ?_
      refine r_icmp_ge C (tgt := 49) dX0_isQuiet_7 (by decide) (by first | exact hr _ _ | exact hr0 _ _ | exact hrI _ _ | assumption | exact ⟨by omega, by omega⟩) (by first | exact hr _ _ | exact hr0 _ _ | exact hrI _ _ | assumption | exact ⟨by omega, by omega⟩) (fun h_1 => ?_) (fun h_1 => ?_)
      · skip
        refine r_iconst C dX0_isQuiet_49 ?_
        exact r_zret C dX0_isQuiet_50 (by first | exact Or.inr rfl | exact Or.inl rfl | exact bI_01 _) (by exact congrArg (fun z => some (vI z)) (bI_t (fun j q => hq j (by omega))).symm) (by first | rfl | (simp [*]; done))
      · skip
        refine r_aload_n C (k := 0) dX0_isQuiet_10 rfl ?_
        refine r_getf C 0 (v := .ref (adr G (t, 8, 3))) (ok_of hG (kdl0 ht) (by decide) (Nat.le_trans ht (by decide))) (kdl0 ht) (by decide) rfl hinX0 (by decide) (by decide +kernel) rfl rfl dX0_isQuiet_11 ?_
        refine r_iload_n C (k := 1) dX0_isQuiet_14 rfl ?_
        refine r_aald C (i) (ok_of hG (kdl3 ht) (by decide) (Nat.le_trans ht (by decide))) ht rfl (by first | omega | assumption) dX0_isQuiet_15 ?_
        refine r_astore_n C (i := 2) (lv' := [(2, .ref (adr G (t, i, 0))), (0, .ref (adr G (t, 8, 0))), (1, vI (((i : Nat) : Int)))]) dX0_isQuiet_16 rfl (by decide) rfl ?_
        refine r_aload_n C (k := 0) dX0_isQuiet_17 rfl ?_
        refine r_callV C (w' := w) [] 0 (c_X2_isDrumming hG ht (by omega)) gX0_isQuiet_X2_isDrumming rfl rfl rfl (by decide +kernel) (Nat.le_of_ble_eq_true rfl) (Nat.le_of_ble_eq_true rfl) ⟨(Nat.zero_le _), (Nat.zero_le _)⟩ (ok_of hG (kdv0 ht (by omega)) (by decide) (Nat.le_trans ht (by decide))) (kdv0 ht (by omega)) (by decide) rfl rfl rfl (Nat.le_of_ble_eq_true rfl) (st' := [vI (bI (¬ w (t, i, 0) 6 = -1))]) rfl dX0_isQuiet_18 (fun hr => ?_)
        refine r_if_neP C (P := ¬ w (t, i, 0) 6 = -1) (tgt := 41) dX0_isQuiet_21 (by decide) (fun h_2 => ?_) (fun h_2 => ?_)
        · skip
          refine r_iconst C dX0_isQuiet_41 ?_
          exact r_zret C dX0_isQuiet_42 (by first | exact Or.inr rfl | exact Or.inl rfl | exact bI_01 _) (by exact congrArg (fun z => some (vI z)) (bI_f (fun q => by have := q i (by omega); omega)).symm) (by first | rfl | (simp [*]; done))
        · skip
          refine r_aload_n C (k := 0) dX0_isQuiet_24 rfl ?_
          refine r_getf C 9 (ok_of hG (kdv0 ht (by omega)) (by decide) (Nat.le_trans ht (by decide))) (kdv0 ht (by omega)) (by decide) rfl hinX2 (by decide) (by decide +kernel) rfl rfl dX0_isQuiet_25 ?_
          refine r_if_gt C (tgt := 41) dX0_isQuiet_28 (by decide) (by first | exact hr _ _ | exact hr0 _ _ | exact hrI _ _ | assumption | exact ⟨by omega, by omega⟩) (fun h_3 => ?_) (fun h_3 => ?_)
          · skip
            refine r_iconst C dX0_isQuiet_41 ?_
            exact r_zret C dX0_isQuiet_42 (by first | exact Or.inr rfl | exact Or.inl rfl | exact bI_01 _) (by exact congrArg (fun z => some (vI z)) (bI_f (fun q => by have := q i (by omega); omega)).symm) (by first | rfl | (simp [*]; done))
          · skip
            refine r_aload_n C (k := 0) dX0_isQuiet_31 rfl ?_
            refine r_getf C 11 (v := .ref (adr G (t, i, 3))) (ok_of hG (kdv0 ht (by omega)) (by decide) (Nat.le_trans ht (by decide))) (kdv0 ht (by omega)) (by decide) rfl hinX2 (by decide) (by decide +kernel) rfl rfl dX0_isQuiet_32 ?_
            refine r_getf C 4 (ok_of hG (kdv3 ht (by omega)) (by decide) (Nat.le_trans ht (by decide))) (kdv3 ht (by omega)) (by decide) rfl hinX1 (by decide) (by decide +kernel) rfl rfl dX0_isQuiet_35 ?_
            refine r_if_le C (tgt := 43) dX0_isQuiet_38 (by decide) (by first | exact hr _ _ | exact hr0 _ _ | exact hrI _ _ | assumption | exact ⟨by omega, by omega⟩) (fun h_4 => ?_) (fun h_4 => ?_)
            · skip
              refine r_iinc C (k := 2) (lv' := [(1, vI (((i + 1 : Nat) : Int))), (2, .ref (adr G (t, i, 0))), (0, .ref (adr G (t, 8, 0)))]) dX0_isQuiet_43 rfl (by decide) rfl ?_
              refine r_goto C (tgt := 2) dX0_isQuiet_46 (by decide) ?_
              have e_5 : w = w := by rfl
              refine Wm.sub (lv' := [(0, .ref (adr G (t, 8, 0))), (1, vI (((i + 1 : Nat) : Int)))]) [2, 0] rfl ?_
              refine Wm.mem (lv' := [(0, .ref (adr G (t, 8, 0))), (1, vI ((((i + 1) : Nat) : Int)))]) e_5 (by rfl) ?_
              exact ih2 ((i + 1)) (by omega) (by intro j hj; rcases Nat.lt_succ_iff_lt_or_eq.mp hj with q | q; exact hq j q; subst q; exact ⟨by omega, by assumption, by assumption⟩) (by omega) (e_5 ▸ hr)
            · skip
              refine r_iconst C dX0_isQuiet_41 ?_
              exact r_zret C dX0_isQuiet_42 (by first | exact Or.inr rfl | exact Or.inl rfl | exact bI_01 _) (by exact congrArg (fun z => some (vI z)) (bI_f (fun q => by have := q i (by omega); omega)).symm) (by first | rfl | (simp [*]; done))
  have e_6 : w = w := by rfl
  refine Wm.sub (lv' := [(0, .ref (adr G (t, 8, 0))), (1, vI (0))]) [1, 0] rfl ?_
  refine Wm.mem (lv' := [(0, .ref (adr G (t, 8, 0))), (1, vI (((0 : Nat) : Int)))]) e_6 (by rfl) ?_
  exact loop_2 _ (0) (by omega) (by exact fun j hj => absurd hj (Nat.not_lt_zero j)) (Nat.lt_succ_self _) (e_6 ▸ hr)
