/-! DrumTalk$Village: what its methods do to the memory -/
abbrev awk (w : Mm) (t v : Nat) (b : Int) : Prop := (b - w (t, v, 0) 4) % 24 < w (t, v, 0) 5
abbrev kno (w : Mm) (t v : Nat) (p : Int) : Prop := 0 ≤ p ∧ p < 12 ∧ ¬ w (t, v, 2) p.toNat = -1
def s2dist (w : Mm) (t v t2 v2 : Nat) : Int := ((w (t, v, 0) 0 - w (t2, v2, 0) 0).natAbs : Int) + ((w (t, v, 0) 1 - w (t2, v2, 0) 1).natAbs : Int)
def s2kn (w : Mm) (t v : Nat) : Nat → Nat
  | 0 => 0
  | n + 1 => if kno w t v ((n : Nat) : Int) then s2kn w t v n + 1 else s2kn w t v n
theorem s2kn_le (w : Mm) (t v : Nat) : ∀ n, s2kn w t v n ≤ n
  | 0 => Nat.le_refl 0
  | n + 1 => by
    have := s2kn_le w t v n
    unfold s2kn
    split <;> omega
def s2take (w : Mm) (t v : Nat) (p b : Int) : Mm :=
  if p < 0 ∨ 12 ≤ p then w else
  if w (t, v, 2) p.toNat = -1 then
    (if w (t, v, 0) 9 < 5 then st1 (st1 (st1 w (t, v, 2) p.toNat b) (t, v, 1) (w (t, v, 0) 9).toNat p) (t, v, 0) 9 (w (t, v, 0) 9 + 1) else st1 w (t, v, 2) p.toNat b)
  else
    (if w (t, v, 0) 9 < 5 then st1 (st1 w (t, v, 1) (w (t, v, 0) 9).toNat p) (t, v, 0) 9 (w (t, v, 0) 9 + 1) else w)
def s2pop (w : Mm) (t v : Nat) : Mm :=
  if w (t, v, 0) 9 = 0 then w else cpy (st1 w (t, v, 0) 9 (w (t, v, 0) 9 - 1)) (t, v, 1) (t, v, 1) 1 0 (w (t, v, 0) 9 - 1).toNat
def s2top (w : Mm) (t v : Nat) : Int := if w (t, v, 0) 9 = 0 then -1 else w (t, v, 1) 0
def s2dr (w : Mm) (t v : Nat) (b : Int) : Mm :=
  if awk w t v b ∧ w (t, v, 0) 6 = -1 ∧ s1last w t v b (w (t, v, 3) 4).toNat < 2 then w else s1drown w t v b (w (t, v, 3) 4).toNat
def s2edb (w : Mm) (t v : Nat) : Mm :=
  if w (t, v, 0) 6 = -1 then w else
  if w (t, v, 0) 7 - 1 = 0 then st1 (st1 w (t, v, 0) 7 (w (t, v, 0) 7 - 1)) (t, v, 0) 6 (-1) else st1 w (t, v, 0) 7 (w (t, v, 0) 7 - 1)
def s2fig (w : Mm) (t v : Nat) (b : Int) : Nat → Int
  | 0 => w (t, v, 0) 0
  | 1 => w (t, v, 0) 1
  | 2 => w (t, v, 0) 2
  | 3 => w (t, v, 0) 3
  | 4 => bI (awk w t v b)
  | 5 => w (t, v, 0) 6
  | 6 => w (t, v, 0) 7
  | 7 => w (t, v, 0) 9
  | 8 => ((s2kn w t v 12 : Nat) : Int)
  | _ => w (t, v, 0) 12
def s2endL (w : Mm) (t v : Nat) (b : Int) : Nat → Mm × Nat × Nat
  | 0 => (w, 0, 0)
  | n + 1 =>
    if (s2endL w t v b n).1 (t, v, 6) n = b then
      (if (s2endL w t v b n).1 (t, v, 7) n = 0 then
        (if kno (s2endL w t v b n).1 t v ((s2endL w t v b n).1 (t, v, 4) n) then s2endL w t v b n
         else (s2take (s2endL w t v b n).1 t v ((s2endL w t v b n).1 (t, v, 4) n) b, (s2endL w t v b n).2.1 + 1, (s2endL w t v b n).2.2))
       else (st1 (s2endL w t v b n).1 (t, v, 0) 12 ((s2endL w t v b n).1 (t, v, 0) 12 + 1), (s2endL w t v b n).2.1, (s2endL w t v b n).2.2))
    else (s1move (s2endL w t v b n).1 t v ((n : Nat) : Int) (((s2endL w t v b n).2.2 : Nat) : Int), (s2endL w t v b n).2.1, (s2endL w t v b n).2.2 + 1)
def s2end (w : Mm) (t v : Nat) (b : Int) : Mm := st1 (s2endL w t v b (w (t, v, 3) 4).toNat).1 (t, v, 3) 4 (((s2endL w t v b (w (t, v, 3) 4).toNat).2.2 : Nat) : Int)
theorem s2take_9 {w : Mm} {t v : Nat} {p b : Int} (h : 0 ≤ w (t, v, 0) 9 ∧ w (t, v, 0) 9 ≤ 5) : 0 ≤ s2take w t v p b (t, v, 0) 9 ∧ s2take w t v p b (t, v, 0) 9 ≤ 5 := by
  obtain ⟨h1, h2⟩ := h
  unfold s2take
  (repeat' split) <;> first | omega | (simp [st1]; omega)
theorem s2take_off {w : Mm} {t v : Nat} {p b : Int} {k : Ky} {j : Nat} (h : ¬ (k = (t, v, 0) ∧ j = 9)) (h1 : k ≠ (t, v, 1)) (h2 : k ≠ (t, v, 2)) : s2take w t v p b k j = w k j := by
  unfold s2take
  (repeat' split) <;> simp [st1, h, h1, h2]
theorem s1move_off {w : Mm} {t v : Nat} {a b : Int} {k : Ky} {j : Nat} (h4 : k ≠ (t, v, 4)) (h5 : k ≠ (t, v, 5)) (h6 : k ≠ (t, v, 6)) (h7 : k ≠ (t, v, 7)) : s1move w t v a b k j = w k j := by
  unfold s1move
  split
  · rfl
  · simp [s1mv, st1, h4, h5, h6, h7]
/-- what stands at every place of the loop -/
theorem s2endL_facts (w : Mm) (t v : Nat) (b : Int) (h9 : 0 ≤ w (t, v, 0) 9 ∧ w (t, v, 0) 9 ≤ 5) : ∀ n, (s2endL w t v b n).1 (t, v, 3) 4 = w (t, v, 3) 4 ∧ (s2endL w t v b n).2.1 ≤ n ∧ (s2endL w t v b n).2.2 ≤ n ∧ (0 ≤ (s2endL w t v b n).1 (t, v, 0) 9 ∧ (s2endL w t v b n).1 (t, v, 0) 9 ≤ 5) ∧ w (t, v, 0) 12 ≤ (s2endL w t v b n).1 (t, v, 0) 12 ∧ (s2endL w t v b n).1 (t, v, 0) 12 ≤ w (t, v, 0) 12 + n
  | 0 => ⟨rfl, Nat.le_refl 0, Nat.le_refl 0, h9, Int.le_refl _, by show w (t, v, 0) 12 ≤ _; simp⟩
  | n + 1 => by
    obtain ⟨i1, i2, i3, i4, i5, i6⟩ := s2endL_facts w t v b h9 n
    unfold s2endL
    split
    · split
      · split
        · exact ⟨i1, by omega, by omega, i4, i5, by omega⟩
        · refine ⟨?_, by show _ + 1 ≤ _; omega, by show (s2endL w t v b n).2.2 ≤ _; omega, s2take_9 i4, ?_, ?_⟩
          · show s2take _ _ _ _ _ _ _ = _
            rw [s2take_off (by simp) (by simp) (by simp)]
            exact i1
          · show _ ≤ s2take _ _ _ _ _ _ _
            rw [s2take_off (by simp) (by simp) (by simp)]
            exact i5
          · show s2take _ _ _ _ _ _ _ ≤ _
            rw [s2take_off (by simp) (by simp) (by simp)]
            omega
      · refine ⟨?_, by show (s2endL w t v b n).2.1 ≤ _; omega, by show (s2endL w t v b n).2.2 ≤ _; omega, ?_, ?_, ?_⟩
        · show st1 _ _ _ _ _ _ = _
          rw [st1_k (by simp)]
          exact i1
        · show 0 ≤ st1 _ _ _ _ _ _ ∧ st1 _ _ _ _ _ _ ≤ 5
          rw [st1_j (by decide)]
          exact i4
        · show _ ≤ st1 _ _ _ _ _ _
          rw [st1_eq]
          omega
        · show st1 _ _ _ _ _ _ ≤ _
          rw [st1_eq]
          omega
    · refine ⟨?_, by show (s2endL w t v b n).2.1 ≤ _; omega, by show (s2endL w t v b n).2.2 + 1 ≤ _; omega, ?_, ?_, ?_⟩
      · show s1move _ _ _ _ _ _ _ = _
        rw [s1move_off (by simp) (by simp) (by simp) (by simp)]
        exact i1
      · show 0 ≤ s1move _ _ _ _ _ _ _ ∧ s1move _ _ _ _ _ _ _ ≤ 5
        rw [s1move_off (by simp) (by simp) (by simp) (by simp)]
        exact i4
      · show _ ≤ s1move _ _ _ _ _ _ _
        rw [s1move_off (by simp) (by simp) (by simp) (by simp)]
        exact i5
      · show s1move _ _ _ _ _ _ _ ≤ _
        rw [s1move_off (by simp) (by simp) (by simp) (by simp)]
        omega
theorem tmod24 (a : Int) : (a < 0 → ¬ a.tmod 24 = 0 → a.tmod 24 + 24 = a % 24) ∧ (a < 0 → a.tmod 24 = 0 → a.tmod 24 = a % 24) ∧ (0 ≤ a → a.tmod 24 = a % 24) ∧ -24 < a.tmod 24 ∧ a.tmod 24 < 24 := by
  rcases Int.lt_or_le a 0 with h | h
  · have e : a.tmod 24 = -((-a) % 24) := by
      have h1 : (-(-a)).tmod 24 = -((-a).tmod 24) := Int.neg_tmod (-a) 24
      rw [Int.neg_neg] at h1
      rw [h1, Int.tmod_eq_emod_of_nonneg (by omega)]
    rw [e]
    refine ⟨fun _ _ => by omega, fun _ _ => by omega, fun q => by omega, by omega, by omega⟩
  · rw [Int.tmod_eq_emod_of_nonneg h]
    refine ⟨fun q => by omega, fun q => by omega, fun _ => rfl, by omega, by omega⟩
def s2cp (w : Mm) (t v t2 v2 : Nat) : Mm :=
  st1 (s1cp (cpy (st1 (cpy (st1 (st1 (st1 (st1 (st1 (st1 (st1 (st1 w (t, v, 0) 0 (w (t2, v2, 0) 0)) (t, v, 0) 1 (w (t2, v2, 0) 1)) (t, v, 0) 2 (w (t2, v2, 0) 2)) (t, v, 0) 3 (w (t2, v2, 0) 3)) (t, v, 0) 4 (w (t2, v2, 0) 4)) (t, v, 0) 5 (w (t2, v2, 0) 5)) (t, v, 0) 6 (w (t2, v2, 0) 6)) (t, v, 0) 7 (w (t2, v2, 0) 7)) (t2, v2, 1) (t, v, 1) 0 0 5) (t, v, 0) 9 (w (t2, v2, 0) 9)) (t2, v2, 2) (t, v, 2) 0 0 12) t v t2 v2) (t, v, 0) 12 (w (t2, v2, 0) 12)

set_option maxRecDepth 100000 in
set_option maxHeartbeats 8000000 in
theorem c_J9_floorMod_7cf53 {l : Launch} {G : Gt} (hG : Gok G)  {w : Mm} {a : Int} {b : Int} (ha : inR a) (hb : b = 24) : Con l G yJ9_floorMod_7cf53 wsJ9_floorMod_7cf53 ({ frames := 0, cells := 0, slots := 0, locals := 0 } : Room) w [vI a, vI b] (some (vI ((a) % (b)))) w 0 0 := by
  refine Con.headF (cc := cJ9_floorMod_7cf53) (nL := 3) (ret := (some .int)) hG (by decide +kernel) rfl (Nat.le_of_ble_eq_true rfl) ?_
  intro B A hBl C hr
  have hr0 := hr
  have hrI := hr
  have hb1 : 0 < b := by omega
  have hb2 : b < 2147483648 := by omega
  have hxr := xr_neg ha hb1 hb2
  have tt := tmod24 a
  rw [← hb] at tt
  obtain ⟨t1, t2, t3, t4, t5⟩ := tt
  refine r_iload_n C (k := 0) dJ9_floorMod_7cf53_0 rfl ?_
  refine r_iload_n C (k := 1) dJ9_floorMod_7cf53_1 rfl ?_
  refine r_iremT C dJ9_floorMod_7cf53_2 ha hb1 hb2 ?_
  refine r_istore_n C (i := 2) (lv' := [(2, vI ((a.tmod b))), (0, vI (a)), (1, vI (b))]) dJ9_floorMod_7cf53_3 rfl (by decide) rfl ?_
  refine r_iload_n C (k := 1) dJ9_floorMod_7cf53_4 rfl ?_
  refine r_iload_n C (k := 2) dJ9_floorMod_7cf53_5 rfl ?_
  refine r_ixor C dJ9_floorMod_7cf53_6 ?_
  refine r_if_ge C (tgt := 18) dJ9_floorMod_7cf53_7 (by decide) (by first | exact inR_of _ | exact ⟨by omega, by omega⟩) (fun h_1 => ?_) (fun h_1 => ?_)
  · skip
    refine r_iload_n C (k := 0) dJ9_floorMod_7cf53_18 rfl ?_
    exact r_iret C dJ9_floorMod_7cf53_19 (by exact congrArg (fun z => some (vI z)) (by omega)) (by first | rfl | (simp [*]; done))
  · skip
    refine r_iload_n C (k := 0) dJ9_floorMod_7cf53_10 rfl ?_
    refine r_if_eq C (tgt := 18) dJ9_floorMod_7cf53_11 (by decide) (by first | exact inR_of _ | exact ⟨by omega, by omega⟩) (fun h_2 => ?_) (fun h_2 => ?_)
    · skip
      refine r_iload_n C (k := 0) dJ9_floorMod_7cf53_18 rfl ?_
      exact r_iret C dJ9_floorMod_7cf53_19 (by exact congrArg (fun z => some (vI z)) (by omega)) (by first | rfl | (simp [*]; done))
    · skip
      refine r_iload_n C (k := 0) dJ9_floorMod_7cf53_14 rfl ?_
      refine r_iload_n C (k := 2) dJ9_floorMod_7cf53_15 rfl ?_
      refine r_iadd C dJ9_floorMod_7cf53_16 ?_
      exact r_iret C dJ9_floorMod_7cf53_17 (by exact congrArg (fun z => some (vI z)) (by omega)) (by first | rfl | (simp [*]; done))

set_option maxRecDepth 100000 in
set_option maxHeartbeats 8000000 in
theorem c_X2_isAwake {l : Launch} {G : Gt} (hG : Gok G) {t : Nat} {v : Nat} (ht : t ≤ 1) (hv : v ≤ 7) {w : Mm} {b : Int} (hb : inR (b - w (t, v, 0) 4)) : Con l G yX2_isAwake wsX2_isAwake ({ frames := 1, cells := 0, slots := 0, locals := 22 } : Room) w [.ref (adr G (t, v, 0)), vI b] (some (vI (bI (awk w t v b)))) w 0 0 := by
  refine Con.head (cc := cX2_isAwake) (nL := 2) (ret := (some .boolean)) hG (by decide +kernel) rfl (Nat.le_of_ble_eq_true rfl) ?_
  intro B A hBl C hr
  have hr0 := hr
  have hrI := hr
  have hinX2 : ∀ w ∈ u_ws RX2 TX2 13, w ∈ wsX2_isAwake := by decide +kernel
  refine r_iload_n C (k := 1) dX2_isAwake_0 rfl ?_
  refine r_aload_n C (k := 0) dX2_isAwake_1 rfl ?_
  refine r_getf C 4 (ok_of hG (kdv0 ht hv) (by decide) (Nat.le_trans ht (by decide))) (kdv0 ht hv) (by decide) rfl hinX2 (by decide) (by decide +kernel) rfl rfl dX2_isAwake_2 ?_
  refine r_isub C dX2_isAwake_5 ?_
  refine r_bipush C dX2_isAwake_6 (by decide) ?_
  refine r_callS C (w' := w) [vI ((b - w (t, v, 0) (4))), vI (24)] 2 (c_J9_floorMod_7cf53 hG (by first | assumption | omega | exact hr _ _ | exact hr0 _ _ | exact hrI _ _ | exact ⟨by omega, by omega⟩ | exact bI_inR _ | (simp [st1] <;> omega) | exact rowR.so (by assumption) (by simp)) (by first | assumption | omega | exact hr _ _ | exact hr0 _ _ | exact hrI _ _ | exact ⟨by omega, by omega⟩ | exact bI_inR _ | (simp [st1] <;> omega) | exact rowR.so (by assumption) (by simp))) gX2_isAwake_J9_floorMod_7cf53 rfl rfl rfl (by decide +kernel) (Nat.le_of_ble_eq_true rfl) (Nat.le_of_ble_eq_true rfl) ⟨(Nat.zero_le _), (Nat.zero_le _)⟩ rfl rfl (Nat.le_of_ble_eq_true rfl) (st' := [vI (((((b - w (t, v, 0) (4)))) % ((24))))]) rfl dX2_isAwake_8 (fun hr => ?_)
  refine r_aload_n C (k := 0) dX2_isAwake_11 rfl ?_
  refine r_getf C 5 (ok_of hG (kdv0 ht hv) (by decide) (Nat.le_trans ht (by decide))) (kdv0 ht hv) (by decide) rfl hinX2 (by decide) (by decide +kernel) rfl rfl dX2_isAwake_12 ?_
  refine r_icmp_ge C (tgt := 22) dX2_isAwake_15 (by decide) (by first | exact hr _ _ | exact hr0 _ _ | exact hrI _ _ | assumption | exact ⟨by omega, by omega⟩) (by first | exact hr _ _ | exact hr0 _ _ | exact hrI _ _ | assumption | exact ⟨by omega, by omega⟩) (fun h_1 => ?_) (fun h_1 => ?_)
  · skip
    refine r_iconst C dX2_isAwake_22 ?_
    exact r_zret C dX2_isAwake_23 (by first | exact Or.inr rfl | exact Or.inl rfl | exact bI_01 _) (by exact congrArg (fun z => some (vI z)) (bI_f (by first | omega | (simp_all; done) | (simp_all; omega))).symm) (by first | rfl | (simp [*]; done))
  · skip
    refine r_iconst C dX2_isAwake_18 ?_
    refine r_goto C (tgt := 23) dX2_isAwake_19 (by decide) ?_
    exact r_zret C dX2_isAwake_23 (by first | exact Or.inr rfl | exact Or.inl rfl | exact bI_01 _) (by exact congrArg (fun z => some (vI z)) (bI_t (by first | omega | (simp_all; done) | (simp_all; omega))).symm) (by first | rfl | (simp [*]; done))

set_option maxRecDepth 100000 in
set_option maxHeartbeats 8000000 in
theorem c_X2_isDrumming {l : Launch} {G : Gt} (hG : Gok G) {t : Nat} {v : Nat} (ht : t ≤ 1) (hv : v ≤ 7) {w : Mm} : Con l G yX2_isDrumming wsX2_isDrumming ({ frames := 0, cells := 0, slots := 0, locals := 0 } : Room) w [.ref (adr G (t, v, 0))] (some (vI (bI (¬ w (t, v, 0) 6 = -1)))) w 0 0 := by
  refine Con.head (cc := cX2_isDrumming) (nL := 1) (ret := (some .boolean)) hG (by decide +kernel) rfl (Nat.le_of_ble_eq_true rfl) ?_
  intro B A hBl C hr
  have hr0 := hr
  have hrI := hr
  have hinX2 : ∀ w ∈ u_ws RX2 TX2 13, w ∈ wsX2_isDrumming := by decide +kernel
  refine r_aload_n C (k := 0) dX2_isDrumming_0 rfl ?_
  refine r_getf C 6 (ok_of hG (kdv0 ht hv) (by decide) (Nat.le_trans ht (by decide))) (kdv0 ht hv) (by decide) rfl hinX2 (by decide) (by decide +kernel) rfl rfl dX2_isDrumming_1 ?_
  refine r_iconst C dX2_isDrumming_4 ?_
  refine r_icmp_eq C (tgt := 12) dX2_isDrumming_5 (by decide) (by first | exact hr _ _ | exact hr0 _ _ | exact hrI _ _ | assumption | exact ⟨by omega, by omega⟩) ⟨by decide, by decide⟩ (fun h_1 => ?_) (fun h_1 => ?_)
  · skip
    refine r_iconst C dX2_isDrumming_12 ?_
    exact r_zret C dX2_isDrumming_13 (by first | exact Or.inr rfl | exact Or.inl rfl | exact bI_01 _) (by exact congrArg (fun z => some (vI z)) (bI_f (by first | omega | (simp_all; done) | (simp_all; omega))).symm) (by first | rfl | (simp [*]; done))
  · skip
    refine r_iconst C dX2_isDrumming_8 ?_
    refine r_goto C (tgt := 13) dX2_isDrumming_9 (by decide) ?_
    exact r_zret C dX2_isDrumming_13 (by first | exact Or.inr rfl | exact Or.inl rfl | exact bI_01 _) (by exact congrArg (fun z => some (vI z)) (bI_t (by first | omega | (simp_all; done) | (simp_all; omega))).symm) (by first | rfl | (simp [*]; done))

set_option maxRecDepth 100000 in
set_option maxHeartbeats 8000000 in
theorem c_X2_isReady {l : Launch} {G : Gt} (hG : Gok G) {t : Nat} {v : Nat} (ht : t ≤ 1) (hv : v ≤ 7) {w : Mm} {b : Int} (hb : inR (b - w (t, v, 0) 4)) : Con l G yX2_isReady wsX2_isReady ({ frames := 2, cells := 0, slots := 0, locals := 43 } : Room) w [.ref (adr G (t, v, 0)), vI b] (some (vI (bI (w (t, v, 0) 6 = -1 ∧ 0 < w (t, v, 0) 9 ∧ awk w t v b)))) w 0 0 := by
  refine Con.head (cc := cX2_isReady) (nL := 2) (ret := (some .boolean)) hG (by decide +kernel) rfl (Nat.le_of_ble_eq_true rfl) ?_
  intro B A hBl C hr
  have hr0 := hr
  have hrI := hr
  have hinX2 : ∀ w ∈ u_ws RX2 TX2 13, w ∈ wsX2_isReady := by decide +kernel
  refine r_aload_n C (k := 0) dX2_isReady_0 rfl ?_
  refine r_callV C (w' := w) [] 0 (c_X2_isDrumming hG ht hv) gX2_isReady_X2_isDrumming rfl rfl rfl (by decide +kernel) (Nat.le_of_ble_eq_true rfl) (Nat.le_of_ble_eq_true rfl) ⟨(Nat.zero_le _), (Nat.zero_le _)⟩ (ok_of hG (kdv0 ht hv) (by decide) (Nat.le_trans ht (by decide))) (kdv0 ht hv) (by decide) rfl rfl rfl (Nat.le_of_ble_eq_true rfl) (st' := [vI (bI (¬ w (t, v, 0) 6 = -1))]) rfl dX2_isReady_1 (fun hr => ?_)
  refine r_if_neP C (P := ¬ w (t, v, 0) 6 = -1) (tgt := 26) dX2_isReady_4 (by decide) (fun h_1 => ?_) (fun h_1 => ?_)
  · skip
    refine r_iconst C dX2_isReady_26 ?_
    exact r_zret C dX2_isReady_27 (by first | exact Or.inr rfl | exact Or.inl rfl | exact bI_01 _) (by exact congrArg (fun z => some (vI z)) (bI_f (by first | omega | (simp_all; done) | (simp_all; omega))).symm) (by first | rfl | (simp [*]; done))
  · skip
    refine r_aload_n C (k := 0) dX2_isReady_7 rfl ?_
    refine r_getf C 9 (ok_of hG (kdv0 ht hv) (by decide) (Nat.le_trans ht (by decide))) (kdv0 ht hv) (by decide) rfl hinX2 (by decide) (by decide +kernel) rfl rfl dX2_isReady_8 ?_
    refine r_if_le C (tgt := 26) dX2_isReady_11 (by decide) (by first | exact hr _ _ | exact hr0 _ _ | exact hrI _ _ | assumption | exact ⟨by omega, by omega⟩) (fun h_2 => ?_) (fun h_2 => ?_)
    · skip
      refine r_iconst C dX2_isReady_26 ?_
      exact r_zret C dX2_isReady_27 (by first | exact Or.inr rfl | exact Or.inl rfl | exact bI_01 _) (by exact congrArg (fun z => some (vI z)) (bI_f (by first | omega | (simp_all; done) | (simp_all; omega))).symm) (by first | rfl | (simp [*]; done))
    · skip
      refine r_aload_n C (k := 0) dX2_isReady_14 rfl ?_
      refine r_iload_n C (k := 1) dX2_isReady_15 rfl ?_
      refine r_callV C (w' := w) [vI (b)] 1 (c_X2_isAwake hG ht hv (by first | assumption | omega | exact hr _ _ | exact hr0 _ _ | exact hrI _ _ | exact ⟨by omega, by omega⟩ | exact bI_inR _ | (simp [st1] <;> omega) | exact rowR.so (by assumption) (by simp))) gX2_isReady_X2_isAwake rfl rfl rfl (by decide +kernel) (Nat.le_of_ble_eq_true rfl) (Nat.le_of_ble_eq_true rfl) ⟨(Nat.zero_le _), (Nat.zero_le _)⟩ (ok_of hG (kdv0 ht hv) (by decide) (Nat.le_trans ht (by decide))) (kdv0 ht hv) (by decide) rfl rfl rfl (Nat.le_of_ble_eq_true rfl) (st' := [vI (bI (awk w t v (b)))]) rfl dX2_isReady_16 (fun hr => ?_)
      refine r_if_eqP C (P := awk w t v (b)) (tgt := 26) dX2_isReady_19 (by decide) (fun h_3 => ?_) (fun h_3 => ?_)
      · skip
        refine r_iconst C dX2_isReady_26 ?_
        exact r_zret C dX2_isReady_27 (by first | exact Or.inr rfl | exact Or.inl rfl | exact bI_01 _) (by exact congrArg (fun z => some (vI z)) (bI_f (by first | omega | (simp_all; done) | (simp_all; omega))).symm) (by first | rfl | (simp [*]; done))
      · skip
        refine r_iconst C dX2_isReady_22 ?_
        refine r_goto C (tgt := 27) dX2_isReady_23 (by decide) ?_
        exact r_zret C dX2_isReady_27 (by first | exact Or.inr rfl | exact Or.inl rfl | exact bI_01 _) (by exact congrArg (fun z => some (vI z)) (bI_t (by first | omega | (simp_all; done) | (simp_all; omega))).symm) (by first | rfl | (simp [*]; done))

set_option maxRecDepth 100000 in
set_option maxHeartbeats 8000000 in
theorem c_X2_distanceTo {l : Launch} {G : Gt} (hG : Gok G) {t : Nat} {v : Nat} {t2 : Nat} {v2 : Nat} (ht : t ≤ 1) (hv : v ≤ 7) (ht2 : t2 ≤ 1) (hv2 : v2 ≤ 7) {w : Mm} (h1 : 0 ≤ w (t, v, 0) 0 ∧ w (t, v, 0) 0 ≤ 30 ∧ 0 ≤ w (t, v, 0) 1 ∧ w (t, v, 0) 1 ≤ 30) (h2 : 0 ≤ w (t2, v2, 0) 0 ∧ w (t2, v2, 0) 0 ≤ 30 ∧ 0 ≤ w (t2, v2, 0) 1 ∧ w (t2, v2, 0) 1 ≤ 30) : Con l G yX2_distanceTo wsX2_distanceTo ({ frames := 1, cells := 0, slots := 0, locals := 21 } : Room) w [.ref (adr G (t, v, 0)), .ref (adr G (t2, v2, 0))] (some (vI (s2dist w t v t2 v2))) w 0 0 := by
  refine Con.head (cc := cX2_distanceTo) (nL := 2) (ret := (some .int)) hG (by decide +kernel) rfl (Nat.le_of_ble_eq_true rfl) ?_
  intro B A hBl C hr
  have hr0 := hr
  have hrI := hr
  have hinX2 : ∀ w ∈ u_ws RX2 TX2 13, w ∈ wsX2_distanceTo := by decide +kernel
  refine r_aload_n C (k := 0) dX2_distanceTo_0 rfl ?_
  refine r_getf C 0 (ok_of hG (kdv0 ht hv) (by decide) (Nat.le_trans ht (by decide))) (kdv0 ht hv) (by decide) rfl hinX2 (by decide) (by decide +kernel) rfl rfl dX2_distanceTo_1 ?_
  refine r_aload_n C (k := 1) dX2_distanceTo_4 rfl ?_
  refine r_getf C 0 (ok_of hG (kdv0 ht2 hv2) (by decide) (Nat.le_trans ht2 (by decide))) (kdv0 ht2 hv2) (by decide) rfl hinX2 (by decide) (by decide +kernel) rfl rfl dX2_distanceTo_5 ?_
  refine r_isub C dX2_distanceTo_8 ?_
  refine r_mabs C (by first | omega | assumption) (by first | omega | assumption) (by decide +kernel) (by decide +kernel) (by decide +kernel) (by decide +kernel) (Nat.le_of_ble_eq_true rfl) (Nat.le_of_ble_eq_true rfl) (Nat.zero_le _) (Nat.zero_le _) dX2_distanceTo_9 ?_
  refine r_aload_n C (k := 0) dX2_distanceTo_12 rfl ?_
  refine r_getf C 1 (ok_of hG (kdv0 ht hv) (by decide) (Nat.le_trans ht (by decide))) (kdv0 ht hv) (by decide) rfl hinX2 (by decide) (by decide +kernel) rfl rfl dX2_distanceTo_13 ?_
  refine r_aload_n C (k := 1) dX2_distanceTo_16 rfl ?_
  refine r_getf C 1 (ok_of hG (kdv0 ht2 hv2) (by decide) (Nat.le_trans ht2 (by decide))) (kdv0 ht2 hv2) (by decide) rfl hinX2 (by decide) (by decide +kernel) rfl rfl dX2_distanceTo_17 ?_
  refine r_isub C dX2_distanceTo_20 ?_
  refine r_mabs C (by first | omega | assumption) (by first | omega | assumption) (by decide +kernel) (by decide +kernel) (by decide +kernel) (by decide +kernel) (Nat.le_of_ble_eq_true rfl) (Nat.le_of_ble_eq_true rfl) (Nat.zero_le _) (Nat.zero_le _) dX2_distanceTo_21 ?_
  refine r_iadd C dX2_distanceTo_24 ?_
  exact r_iret C dX2_distanceTo_25 (by first | rfl | (simp [*]; done)) (by first | rfl | (simp [*]; done))

set_option maxRecDepth 100000 in
set_option maxHeartbeats 8000000 in
theorem c_X2_isHeardAt {l : Launch} {G : Gt} (hG : Gok G) {t : Nat} {v : Nat} (ht : t ≤ 1) (hv : v ≤ 7) {w : Mm} {d : Int} (h1 : 0 ≤ w (t, v, 0) 2 ∧ w (t, v, 0) 2 ≤ 9) (hd : inR d) : Con l G yX2_isHeardAt wsX2_isHeardAt ({ frames := 0, cells := 0, slots := 0, locals := 0 } : Room) w [.ref (adr G (t, v, 0)), vI d] (some (vI (bI (d ≤ 3 * w (t, v, 0) 2)))) w 0 0 := by
  refine Con.head (cc := cX2_isHeardAt) (nL := 2) (ret := (some .boolean)) hG (by decide +kernel) rfl (Nat.le_of_ble_eq_true rfl) ?_
  intro B A hBl C hr
  have hr0 := hr
  have hrI := hr
  have hinX2 : ∀ w ∈ u_ws RX2 TX2 13, w ∈ wsX2_isHeardAt := by decide +kernel
  refine r_iload_n C (k := 1) dX2_isHeardAt_0 rfl ?_
  refine r_iconst C dX2_isHeardAt_1 ?_
  refine r_aload_n C (k := 0) dX2_isHeardAt_2 rfl ?_
  refine r_getf C 2 (ok_of hG (kdv0 ht hv) (by decide) (Nat.le_trans ht (by decide))) (kdv0 ht hv) (by decide) rfl hinX2 (by decide) (by decide +kernel) rfl rfl dX2_isHeardAt_3 ?_
  refine r_imul C dX2_isHeardAt_6 ?_
  refine r_icmp_gt C (tgt := 14) dX2_isHeardAt_7 (by decide) (by first | exact hr _ _ | exact hr0 _ _ | exact hrI _ _ | assumption | exact ⟨by omega, by omega⟩) (by first | exact hr _ _ | exact hr0 _ _ | exact hrI _ _ | assumption | exact ⟨by omega, by omega⟩) (fun h_1 => ?_) (fun h_1 => ?_)
  · skip
    refine r_iconst C dX2_isHeardAt_14 ?_
    exact r_zret C dX2_isHeardAt_15 (by first | exact Or.inr rfl | exact Or.inl rfl | exact bI_01 _) (by exact congrArg (fun z => some (vI z)) (bI_f (by first | omega | (simp_all; done) | (simp_all; omega))).symm) (by first | rfl | (simp [*]; done))
  · skip
    refine r_iconst C dX2_isHeardAt_10 ?_
    refine r_goto C (tgt := 15) dX2_isHeardAt_11 (by decide) ?_
    exact r_zret C dX2_isHeardAt_15 (by first | exact Or.inr rfl | exact Or.inl rfl | exact bI_01 _) (by exact congrArg (fun z => some (vI z)) (bI_t (by first | omega | (simp_all; done) | (simp_all; omega))).symm) (by first | rfl | (simp [*]; done))

set_option maxRecDepth 100000 in
set_option maxHeartbeats 8000000 in
theorem c_X2_isKnown {l : Launch} {G : Gt} (hG : Gok G) {t : Nat} {v : Nat} (ht : t ≤ 1) (hv : v ≤ 7) {w : Mm} {p : Int} (hp : inR p) : Con l G yX2_isKnown wsX2_isKnown ({ frames := 0, cells := 0, slots := 0, locals := 0 } : Room) w [.ref (adr G (t, v, 0)), vI p] (some (vI (bI (kno w t v p)))) w 0 0 := by
  refine Con.head (cc := cX2_isKnown) (nL := 2) (ret := (some .boolean)) hG (by decide +kernel) rfl (Nat.le_of_ble_eq_true rfl) ?_
  intro B A hBl C hr
  have hr0 := hr
  have hrI := hr
  have hinX2 : ∀ w ∈ u_ws RX2 TX2 13, w ∈ wsX2_isKnown := by decide +kernel
  refine r_iload_n C (k := 1) dX2_isKnown_0 rfl ?_
  refine r_if_lt C (tgt := 24) dX2_isKnown_1 (by decide) (by first | exact hr _ _ | exact hr0 _ _ | exact hrI _ _ | assumption | exact ⟨by omega, by omega⟩) (fun h_1 => ?_) (fun h_1 => ?_)
  · skip
    refine r_iconst C dX2_isKnown_24 ?_
    exact r_zret C dX2_isKnown_25 (by first | exact Or.inr rfl | exact Or.inl rfl | exact bI_01 _) (by exact congrArg (fun z => some (vI z)) (bI_f (by first | omega | (simp_all; done) | (simp_all; omega))).symm) (by first | rfl | (simp [*]; done))
  · skip
    refine r_iload_n C (k := 1) dX2_isKnown_4 rfl ?_
    refine r_bipush C dX2_isKnown_5 (by decide) ?_
    refine r_icmp_ge C (tgt := 24) dX2_isKnown_7 (by decide) (by first | exact hr _ _ | exact hr0 _ _ | exact hrI _ _ | assumption | exact ⟨by omega, by omega⟩) ⟨by decide, by decide⟩ (fun h_2 => ?_) (fun h_2 => ?_)
    · skip
      refine r_iconst C dX2_isKnown_24 ?_
      exact r_zret C dX2_isKnown_25 (by first | exact Or.inr rfl | exact Or.inl rfl | exact bI_01 _) (by exact congrArg (fun z => some (vI z)) (bI_f (by first | omega | (simp_all; done) | (simp_all; omega))).symm) (by first | rfl | (simp [*]; done))
    · skip
      refine r_aload_n C (k := 0) dX2_isKnown_10 rfl ?_
      refine r_getf C 10 (v := .ref (adr G (t, v, 2))) (ok_of hG (kdv0 ht hv) (by decide) (Nat.le_trans ht (by decide))) (kdv0 ht hv) (by decide) rfl hinX2 (by decide) (by decide +kernel) rfl rfl dX2_isKnown_11 ?_
      refine r_iload_n C (k := 1) dX2_isKnown_14 rfl ?_
      refine r_iald C ((p).toNat) (ok_of hG (kdv2 ht hv) (by decide) (Nat.le_trans ht (by decide))) (kdv2 ht hv) (Int.toNat_of_nonneg (by first | omega | assumption)).symm (by first | omega | assumption) (by decide) dX2_isKnown_15 ?_
      refine r_iconst C dX2_isKnown_16 ?_
      refine r_icmp_eq C (tgt := 24) dX2_isKnown_17 (by decide) (by first | exact hr _ _ | exact hr0 _ _ | exact hrI _ _ | assumption | exact ⟨by omega, by omega⟩) ⟨by decide, by decide⟩ (fun h_3 => ?_) (fun h_3 => ?_)
      · skip
        refine r_iconst C dX2_isKnown_24 ?_
        exact r_zret C dX2_isKnown_25 (by first | exact Or.inr rfl | exact Or.inl rfl | exact bI_01 _) (by exact congrArg (fun z => some (vI z)) (bI_f (by first | omega | (simp_all; done) | (simp_all; omega))).symm) (by first | rfl | (simp [*]; done))
      · skip
        refine r_iconst C dX2_isKnown_20 ?_
        refine r_goto C (tgt := 25) dX2_isKnown_21 (by decide) ?_
        exact r_zret C dX2_isKnown_25 (by first | exact Or.inr rfl | exact Or.inl rfl | exact bI_01 _) (by exact congrArg (fun z => some (vI z)) (bI_t (by first | omega | (simp_all; done) | (simp_all; omega))).symm) (by first | rfl | (simp [*]; done))

set_option maxRecDepth 100000 in
set_option maxHeartbeats 8000000 in
theorem c_X2_phrasesKnown {l : Launch} {G : Gt} (hG : Gok G) {t : Nat} {v : Nat} (ht : t ≤ 1) (hv : v ≤ 7) {w : Mm} : Con l G yX2_phrasesKnown wsX2_phrasesKnown ({ frames := 1, cells := 0, slots := 0, locals := 21 } : Room) w [.ref (adr G (t, v, 0))] (some (vI (((s2kn w t v 12 : Nat) : Int)))) w 0 0 := by
  refine Con.head (cc := cX2_phrasesKnown) (nL := 3) (ret := (some .int)) hG (by decide +kernel) rfl (Nat.le_of_ble_eq_true rfl) ?_
  intro B A hBl C hr
  have hr0 := hr
  have hrI := hr
  refine r_iconst C dX2_phrasesKnown_0 ?_
  refine r_istore_n C (i := 1) (lv' := [(1, vI (0)), (0, .ref (adr G (t, v, 0)))]) dX2_phrasesKnown_1 rfl (by decide) rfl ?_
  refine r_iconst C dX2_phrasesKnown_2 ?_
  refine r_istore_n C (i := 2) (lv' := [(2, vI (0)), (1, vI (0)), (0, .ref (adr G (t, v, 0)))]) dX2_phrasesKnown_3 rfl (by decide) rfl ?_
  have loop_4 : ∀ (n : Nat) (i : Nat), (i ≤ 12) → 12 - i < n → rng w → Wm B 3 G A (Qe B G A (some (vI (((s2kn w t v 12 : Nat) : Int)))) w 0 0) w 0 0 4 [(0, .ref (adr G (t, v, 0))), (1, vI (((s2kn w t v i : Nat) : Int))), (2, vI (((i : Nat) : Int)))] [] := by
    intro n4
    induction n4 with
    | zero => intro i hi hm; exact absurd hm (Nat.not_lt_zero _)
    | succ n4 ih4 =>
      intro i hi hm hr
      have hrI := hr
      have hsl := s2kn_le w t v i
      refine r_iload_n C (k := 2) dX2_phrasesKnown_4 rfl ?_
      refine r_bipush C dX2_phrasesKnown_5 (by decide) ?_
      refine r_icmp_ge C (tgt := 27) dX2_phrasesKnown_7 (by decide) (by first | exact hr _ _ | exact hr0 _ _ | exact hrI _ _ | assumption | exact ⟨by omega, by omega⟩) ⟨by decide, by decide⟩ (fun h_1 => ?_) (fun h_1 => ?_)
      · skip
        refine r_iload_n C (k := 1) dX2_phrasesKnown_27 rfl ?_
        exact r_iret C dX2_phrasesKnown_28 (by (obtain rfl : i = 12 := (by omega)); rfl) (by first | rfl | (simp [*]; done))
      · skip
        refine r_aload_n C (k := 0) dX2_phrasesKnown_10 rfl ?_
        refine r_iload_n C (k := 2) dX2_phrasesKnown_11 rfl ?_
        refine r_callV C (w' := w) [vI (((i : Nat) : Int))] 1 (c_X2_isKnown hG ht hv (by first | assumption | omega | exact hr _ _ | exact hr0 _ _ | exact hrI _ _ | exact ⟨by omega, by omega⟩ | exact bI_inR _ | (simp [st1] <;> omega) | exact rowR.so (by assumption) (by simp))) gX2_phrasesKnown_X2_isKnown rfl rfl rfl (by decide +kernel) (Nat.le_of_ble_eq_true rfl) (Nat.le_of_ble_eq_true rfl) ⟨(Nat.zero_le _), (Nat.zero_le _)⟩ (ok_of hG (kdv0 ht hv) (by decide) (Nat.le_trans ht (by decide))) (kdv0 ht hv) (by decide) rfl rfl rfl (Nat.le_of_ble_eq_true rfl) (st' := [vI (bI (kno w t v (((i : Nat) : Int))))]) rfl dX2_phrasesKnown_12 (fun hr => ?_)
        refine r_if_eqP C (P := kno w t v (((i : Nat) : Int))) (tgt := 21) dX2_phrasesKnown_15 (by decide) (fun h_2 => ?_) (fun h_2 => ?_)
        · skip
          refine r_iinc C (k := 2) (lv' := [(2, vI (((i + 1 : Nat) : Int))), (0, .ref (adr G (t, v, 0))), (1, vI (((s2kn w t v i : Nat) : Int)))]) dX2_phrasesKnown_21 rfl (by decide) rfl ?_
          refine r_goto C (tgt := 4) dX2_phrasesKnown_24 (by decide) ?_
          have e_3 : w = w := by rfl
          refine Wm.sub (lv' := [(0, .ref (adr G (t, v, 0))), (1, vI (((s2kn w t v i : Nat) : Int))), (2, vI (((i + 1 : Nat) : Int)))]) [1, 2, 0] rfl ?_
          refine Wm.mem (lv' := [(0, .ref (adr G (t, v, 0))), (1, vI (((s2kn w t v (i + 1) : Nat) : Int))), (2, vI ((((i + 1) : Nat) : Int)))]) e_3 (by (simp only [s2kn]; first | rw [if_pos (by assumption)] | rw [if_neg (by assumption)]); try rfl) ?_
          exact ih4 ((i + 1)) (by omega) (by omega) (e_3 ▸ hr)
        · skip
          refine r_iinc C (k := 1) (lv' := [(1, vI (((s2kn w t v i + 1 : Nat) : Int))), (0, .ref (adr G (t, v, 0))), (2, vI (((i : Nat) : Int)))]) dX2_phrasesKnown_18 rfl (by decide) rfl ?_
          refine r_iinc C (k := 2) (lv' := [(2, vI (((i + 1 : Nat) : Int))), (1, vI (((s2kn w t v i + 1 : Nat) : Int))), (0, .ref (adr G (t, v, 0)))]) dX2_phrasesKnown_21 rfl (by decide) rfl ?_
          refine r_goto C (tgt := 4) dX2_phrasesKnown_24 (by decide) ?_
          have e_4 : w = w := by rfl
          refine Wm.sub (lv' := [(0, .ref (adr G (t, v, 0))), (1, vI (((s2kn w t v i + 1 : Nat) : Int))), (2, vI (((i + 1 : Nat) : Int)))]) [2, 1, 0] rfl ?_
          refine Wm.mem (lv' := [(0, .ref (adr G (t, v, 0))), (1, vI (((s2kn w t v (i + 1) : Nat) : Int))), (2, vI ((((i + 1) : Nat) : Int)))]) e_4 (by (simp only [s2kn]; first | rw [if_pos (by assumption)] | rw [if_neg (by assumption)]); try rfl) ?_
          exact ih4 ((i + 1)) (by omega) (by omega) (e_4 ▸ hr)
  have e_5 : w = w := by rfl
  refine Wm.sub (lv' := [(0, .ref (adr G (t, v, 0))), (1, vI (0)), (2, vI (0))]) [2, 1, 0] rfl ?_
  refine Wm.mem (lv' := [(0, .ref (adr G (t, v, 0))), (1, vI (((s2kn w t v 0 : Nat) : Int))), (2, vI (((0 : Nat) : Int)))]) e_5 (by rfl) ?_
  exact loop_4 _ (0) (by omega) (Nat.lt_succ_self _) (e_5 ▸ hr)

set_option maxRecDepth 100000 in
set_option maxHeartbeats 8000000 in
theorem c_X2_takeIn {l : Launch} {G : Gt} (hG : Gok G) {t : Nat} {v : Nat} (ht : t ≤ 1) (hv : v ≤ 7) {w : Mm} {p : Int} {b : Int} (hq : 0 ≤ w (t, v, 0) 9 ∧ w (t, v, 0) 9 ≤ 5) (hp : inR p) (hb : inR b) : Con l G yX2_takeIn wsX2_takeIn ({ frames := 0, cells := 0, slots := 0, locals := 0 } : Room) w [.ref (adr G (t, v, 0)), vI p, vI b] none (s2take w t v p b) 0 0 := by
  refine Con.head (cc := cX2_takeIn) (nL := 3) (ret := none) hG (by decide +kernel) rfl (Nat.le_of_ble_eq_true rfl) ?_
  intro B A hBl C hr
  have hr0 := hr
  have hrI := hr
  have hinX2 : ∀ w ∈ u_ws RX2 TX2 13, w ∈ wsX2_takeIn := by decide +kernel
  refine r_iload_n C (k := 1) dX2_takeIn_0 rfl ?_
  refine r_if_lt C (tgt := 10) dX2_takeIn_1 (by decide) (by first | exact hr _ _ | exact hr0 _ _ | exact hrI _ _ | assumption | exact ⟨by omega, by omega⟩) (fun h_1 => ?_) (fun h_1 => ?_)
  · skip
    exact r_vret C dX2_takeIn_10 (by (unfold s2take; first | rw [if_pos (by omega)] | (rw [if_neg (by omega)]; (repeat' split) <;> first | rfl | (exfalso; omega))))
  · skip
    refine r_iload_n C (k := 1) dX2_takeIn_4 rfl ?_
    refine r_bipush C dX2_takeIn_5 (by decide) ?_
    refine r_icmp_lt C (tgt := 11) dX2_takeIn_7 (by decide) (by first | exact hr _ _ | exact hr0 _ _ | exact hrI _ _ | assumption | exact ⟨by omega, by omega⟩) ⟨by decide, by decide⟩ (fun h_2 => ?_) (fun h_2 => ?_)
    · skip
      refine r_aload_n C (k := 0) dX2_takeIn_11 rfl ?_
      refine r_getf C 10 (v := .ref (adr G (t, v, 2))) (ok_of hG (kdv0 ht hv) (by decide) (Nat.le_trans ht (by decide))) (kdv0 ht hv) (by decide) rfl hinX2 (by decide) (by decide +kernel) rfl rfl dX2_takeIn_12 ?_
      refine r_iload_n C (k := 1) dX2_takeIn_15 rfl ?_
      refine r_iald C ((p).toNat) (ok_of hG (kdv2 ht hv) (by decide) (Nat.le_trans ht (by decide))) (kdv2 ht hv) (Int.toNat_of_nonneg (by first | omega | assumption)).symm (by first | omega | assumption) (by decide) dX2_takeIn_16 ?_
      refine r_iconst C dX2_takeIn_17 ?_
      refine r_icmp_ne C (tgt := 28) dX2_takeIn_18 (by decide) (by first | exact hr _ _ | exact hr0 _ _ | exact hrI _ _ | assumption | exact ⟨by omega, by omega⟩) ⟨by decide, by decide⟩ (fun h_3 => ?_) (fun h_3 => ?_)
      · skip
        refine r_aload_n C (k := 0) dX2_takeIn_28 rfl ?_
        refine r_getf C 9 (ok_of hG (kdv0 ht hv) (by decide) (Nat.le_trans ht (by decide))) (kdv0 ht hv) (by decide) rfl hinX2 (by decide) (by decide +kernel) rfl rfl dX2_takeIn_29 ?_
        refine r_iconst C dX2_takeIn_32 ?_
        refine r_icmp_ge C (tgt := 56) dX2_takeIn_33 (by decide) (by first | exact hr _ _ | exact hr0 _ _ | exact hrI _ _ | assumption | exact ⟨by omega, by omega⟩) ⟨by decide, by decide⟩ (fun h_4 => ?_) (fun h_4 => ?_)
        · skip
          exact r_vret C dX2_takeIn_56 (by (unfold s2take; first | rw [if_pos (by omega)] | (rw [if_neg (by omega)]; (repeat' split) <;> first | rfl | (exfalso; omega))))
        · skip
          refine r_aload_n C (k := 0) dX2_takeIn_36 rfl ?_
          refine r_getf C 8 (v := .ref (adr G (t, v, 1))) (ok_of hG (kdv0 ht hv) (by decide) (Nat.le_trans ht (by decide))) (kdv0 ht hv) (by decide) rfl hinX2 (by decide) (by decide +kernel) rfl rfl dX2_takeIn_37 ?_
          refine r_aload_n C (k := 0) dX2_takeIn_40 rfl ?_
          refine r_getf C 9 (ok_of hG (kdv0 ht hv) (by decide) (Nat.le_trans ht (by decide))) (kdv0 ht hv) (by decide) rfl hinX2 (by decide) (by decide +kernel) rfl rfl dX2_takeIn_41 ?_
          refine r_iload_n C (k := 1) dX2_takeIn_44 rfl ?_
          refine r_iast C ((w (t, v, 0) (9)).toNat) hr (by first | exact hr _ _ | exact hr0 _ _ | exact hrI _ _ | assumption | exact ⟨by omega, by omega⟩) (ok_of hG (kdv1 ht hv) (by decide) (Nat.le_trans ht (by decide))) (kdv1 ht hv) (Int.toNat_of_nonneg (by first | omega | assumption)).symm (by first | omega | assumption) (by decide) dX2_takeIn_45 (fun hr => ?_)
          refine r_aload_n C (k := 0) dX2_takeIn_46 rfl ?_
          refine r_dup C dX2_takeIn_47 rfl ?_
          refine r_getf C 9 (ok_of hG (kdv0 ht hv) (by decide) (Nat.le_trans ht (by decide))) (kdv0 ht hv) (by decide) rfl hinX2 (by decide) (by decide +kernel) rfl rfl dX2_takeIn_48 ?_
          refine Wm.top (z' := w (t, v, 0) (9)) (by simp [st1, cpy]) ?_
          refine r_iconst C dX2_takeIn_51 ?_
          refine r_iadd C dX2_takeIn_52 ?_
          refine r_putf C 9 hr (by first | exact hr _ _ | exact hr0 _ _ | exact hrI _ _ | assumption | exact ⟨by omega, by omega⟩) (ok_of hG (kdv0 ht hv) (by decide) (Nat.le_trans ht (by decide))) (kdv0 ht hv) (by decide) rfl hinX2 tyX2_ok nmX2 (by decide) (by decide +kernel) rfl rfl (ty := .int) (by decide +kernel) rfl rfl rfl (Nat.le_of_ble_eq_true rfl) dX2_takeIn_53 (fun hr => ?_)
          exact r_vret C dX2_takeIn_56 (by (unfold s2take; first | rw [if_pos (by omega)] | (rw [if_neg (by omega)]; (repeat' split) <;> first | rfl | (exfalso; omega))))
      · skip
        refine r_aload_n C (k := 0) dX2_takeIn_21 rfl ?_
        refine r_getf C 10 (v := .ref (adr G (t, v, 2))) (ok_of hG (kdv0 ht hv) (by decide) (Nat.le_trans ht (by decide))) (kdv0 ht hv) (by decide) rfl hinX2 (by decide) (by decide +kernel) rfl rfl dX2_takeIn_22 ?_
        refine r_iload_n C (k := 1) dX2_takeIn_25 rfl ?_
        refine r_iload_n C (k := 2) dX2_takeIn_26 rfl ?_
        refine r_iast C ((p).toNat) hr (by first | exact hr _ _ | exact hr0 _ _ | exact hrI _ _ | assumption | exact ⟨by omega, by omega⟩) (ok_of hG (kdv2 ht hv) (by decide) (Nat.le_trans ht (by decide))) (kdv2 ht hv) (Int.toNat_of_nonneg (by first | omega | assumption)).symm (by first | omega | assumption) (by decide) dX2_takeIn_27 (fun hr => ?_)
        refine r_aload_n C (k := 0) dX2_takeIn_28 rfl ?_
        refine r_getf C 9 (ok_of hG (kdv0 ht hv) (by decide) (Nat.le_trans ht (by decide))) (kdv0 ht hv) (by decide) rfl hinX2 (by decide) (by decide +kernel) rfl rfl dX2_takeIn_29 ?_
        refine Wm.top (z' := w (t, v, 0) (9)) (by simp [st1, cpy]) ?_
        refine r_iconst C dX2_takeIn_32 ?_
        refine r_icmp_ge C (tgt := 56) dX2_takeIn_33 (by decide) (by first | exact hr _ _ | exact hr0 _ _ | exact hrI _ _ | assumption | exact ⟨by omega, by omega⟩) ⟨by decide, by decide⟩ (fun h_5 => ?_) (fun h_5 => ?_)
        · skip
          exact r_vret C dX2_takeIn_56 (by (unfold s2take; first | rw [if_pos (by omega)] | (rw [if_neg (by omega)]; (repeat' split) <;> first | rfl | (exfalso; omega))))
        · skip
          refine r_aload_n C (k := 0) dX2_takeIn_36 rfl ?_
          refine r_getf C 8 (v := .ref (adr G (t, v, 1))) (ok_of hG (kdv0 ht hv) (by decide) (Nat.le_trans ht (by decide))) (kdv0 ht hv) (by decide) rfl hinX2 (by decide) (by decide +kernel) rfl rfl dX2_takeIn_37 ?_
          refine r_aload_n C (k := 0) dX2_takeIn_40 rfl ?_
          refine r_getf C 9 (ok_of hG (kdv0 ht hv) (by decide) (Nat.le_trans ht (by decide))) (kdv0 ht hv) (by decide) rfl hinX2 (by decide) (by decide +kernel) rfl rfl dX2_takeIn_41 ?_
          refine Wm.top (z' := w (t, v, 0) (9)) (by simp [st1, cpy]) ?_
          refine r_iload_n C (k := 1) dX2_takeIn_44 rfl ?_
          refine r_iast C ((w (t, v, 0) (9)).toNat) hr (by first | exact hr _ _ | exact hr0 _ _ | exact hrI _ _ | assumption | exact ⟨by omega, by omega⟩) (ok_of hG (kdv1 ht hv) (by decide) (Nat.le_trans ht (by decide))) (kdv1 ht hv) (Int.toNat_of_nonneg (by first | omega | assumption)).symm (by first | omega | assumption) (by decide) dX2_takeIn_45 (fun hr => ?_)
          refine r_aload_n C (k := 0) dX2_takeIn_46 rfl ?_
          refine r_dup C dX2_takeIn_47 rfl ?_
          refine r_getf C 9 (ok_of hG (kdv0 ht hv) (by decide) (Nat.le_trans ht (by decide))) (kdv0 ht hv) (by decide) rfl hinX2 (by decide) (by decide +kernel) rfl rfl dX2_takeIn_48 ?_
          refine Wm.top (z' := w (t, v, 0) (9)) (by simp [st1, cpy]) ?_
          refine r_iconst C dX2_takeIn_51 ?_
          refine r_iadd C dX2_takeIn_52 ?_
          refine r_putf C 9 hr (by first | exact hr _ _ | exact hr0 _ _ | exact hrI _ _ | assumption | exact ⟨by omega, by omega⟩) (ok_of hG (kdv0 ht hv) (by decide) (Nat.le_trans ht (by decide))) (kdv0 ht hv) (by decide) rfl hinX2 tyX2_ok nmX2 (by decide) (by decide +kernel) rfl rfl (ty := .int) (by decide +kernel) rfl rfl rfl (Nat.le_of_ble_eq_true rfl) dX2_takeIn_53 (fun hr => ?_)
          exact r_vret C dX2_takeIn_56 (by (unfold s2take; first | rw [if_pos (by omega)] | (rw [if_neg (by omega)]; (repeat' split) <;> first | rfl | (exfalso; omega))))
    · skip
      exact r_vret C dX2_takeIn_10 (by (unfold s2take; first | rw [if_pos (by omega)] | (rw [if_neg (by omega)]; (repeat' split) <;> first | rfl | (exfalso; omega))))

set_option maxRecDepth 100000 in
set_option maxHeartbeats 8000000 in
theorem c_X2_takeFromQueue {l : Launch} {G : Gt} (hG : Gok G) {t : Nat} {v : Nat} (ht : t ≤ 1) (hv : v ≤ 7) {w : Mm} (hq : 0 ≤ w (t, v, 0) 9 ∧ w (t, v, 0) 9 ≤ 5) : Con l G yX2_takeFromQueue wsX2_takeFromQueue ({ frames := 1, cells := 0, slots := 0, locals := 26 } : Room) w [.ref (adr G (t, v, 0))] (some (vI (s2top w t v))) (s2pop w t v) 0 0 := by
  refine Con.head (cc := cX2_takeFromQueue) (nL := 2) (ret := (some .int)) hG (by decide +kernel) rfl (Nat.le_of_ble_eq_true rfl) ?_
  intro B A hBl C hr
  have hr0 := hr
  have hrI := hr
  have hinX2 : ∀ w ∈ u_ws RX2 TX2 13, w ∈ wsX2_takeFromQueue := by decide +kernel
  refine r_aload_n C (k := 0) dX2_takeFromQueue_0 rfl ?_
  refine r_getf C 9 (ok_of hG (kdv0 ht hv) (by decide) (Nat.le_trans ht (by decide))) (kdv0 ht hv) (by decide) rfl hinX2 (by decide) (by decide +kernel) rfl rfl dX2_takeFromQueue_1 ?_
  refine r_if_ne C (tgt := 9) dX2_takeFromQueue_4 (by decide) (by first | exact hr _ _ | exact hr0 _ _ | exact hrI _ _ | assumption | exact ⟨by omega, by omega⟩) (fun h_1 => ?_) (fun h_1 => ?_)
  · skip
    refine r_aload_n C (k := 0) dX2_takeFromQueue_9 rfl ?_
    refine r_getf C 8 (v := .ref (adr G (t, v, 1))) (ok_of hG (kdv0 ht hv) (by decide) (Nat.le_trans ht (by decide))) (kdv0 ht hv) (by decide) rfl hinX2 (by decide) (by decide +kernel) rfl rfl dX2_takeFromQueue_10 ?_
    refine r_iconst C dX2_takeFromQueue_13 ?_
    refine r_iald C (0) (ok_of hG (kdv1 ht hv) (by decide) (Nat.le_trans ht (by decide))) (kdv1 ht hv) rfl (by first | omega | assumption) (by decide) dX2_takeFromQueue_14 ?_
    refine r_istore_n C (i := 1) (lv' := [(1, vI (w (t, v, 1) (0))), (0, .ref (adr G (t, v, 0)))]) dX2_takeFromQueue_15 rfl (by decide) rfl ?_
    refine r_aload_n C (k := 1) dX2_takeFromQueue_16 rfl ?_
    refine r_dup C dX2_takeFromQueue_17 rfl ?_
    refine r_getf C 9 (ok_of hG (kdv0 ht hv) (by decide) (Nat.le_trans ht (by decide))) (kdv0 ht hv) (by decide) rfl hinX2 (by decide) (by decide +kernel) rfl rfl dX2_takeFromQueue_18 ?_
    refine r_iconst C dX2_takeFromQueue_21 ?_
    refine r_isub C dX2_takeFromQueue_22 ?_
    refine r_putf C 9 hr (by first | exact hr _ _ | exact hr0 _ _ | exact hrI _ _ | assumption | exact ⟨by omega, by omega⟩) (ok_of hG (kdv0 ht hv) (by decide) (Nat.le_trans ht (by decide))) (kdv0 ht hv) (by decide) rfl hinX2 tyX2_ok nmX2 (by decide) (by decide +kernel) rfl rfl (ty := .int) (by decide +kernel) rfl rfl rfl (Nat.le_of_ble_eq_true rfl) dX2_takeFromQueue_23 (fun hr => ?_)
    refine r_aload_n C (k := 1) dX2_takeFromQueue_26 rfl ?_
    refine r_getf C 8 (v := .ref (adr G (t, v, 1))) (ok_of hG (kdv0 ht hv) (by decide) (Nat.le_trans ht (by decide))) (kdv0 ht hv) (by decide) rfl hinX2 (by decide) (by decide +kernel) rfl rfl dX2_takeFromQueue_27 ?_
    refine r_iconst C dX2_takeFromQueue_30 ?_
    refine r_aload_n C (k := 1) dX2_takeFromQueue_31 rfl ?_
    refine r_getf C 8 (v := .ref (adr G (t, v, 1))) (ok_of hG (kdv0 ht hv) (by decide) (Nat.le_trans ht (by decide))) (kdv0 ht hv) (by decide) rfl hinX2 (by decide) (by decide +kernel) rfl rfl dX2_takeFromQueue_32 ?_
    refine r_iconst C dX2_takeFromQueue_35 ?_
    refine r_aload_n C (k := 1) dX2_takeFromQueue_36 rfl ?_
    refine r_getf C 9 (ok_of hG (kdv0 ht hv) (by decide) (Nat.le_trans ht (by decide))) (kdv0 ht hv) (by decide) rfl hinX2 (by decide) (by decide +kernel) rfl rfl dX2_takeFromQueue_37 ?_
    refine Wm.top (z' := (w (t, v, 0) (9) - 1)) (by simp [st1, cpy]) ?_
    refine r_copy C (1) (0) (((w (t, v, 0) (9) - 1)).toNat) hr (ok_of hG (kdv1 ht hv) (by decide) (Nat.le_trans ht (by decide))) (ok_of hG (kdv1 ht hv) (by decide) (Nat.le_trans ht (by decide))) (kdv1 ht hv) (kdv1 ht hv) rfl rfl (Int.toNat_of_nonneg (by first | omega | assumption)).symm (by first | omega | assumption) (by first | omega | assumption) (by decide) (by decide) (by decide +kernel) (by decide +kernel) (by decide +kernel) (by decide +kernel) (Nat.le_of_ble_eq_true rfl) (Nat.le_of_ble_eq_true rfl) dX2_takeFromQueue_40 (fun hr => ?_)
    refine r_iload_n C (k := 0) dX2_takeFromQueue_43 rfl ?_
    exact r_iret C dX2_takeFromQueue_44 (by (unfold s2top; first | rw [if_pos (by assumption)] | rw [if_neg (by assumption)])) (by (unfold s2pop; first | rw [if_pos (by assumption)] | rw [if_neg (by assumption)]))
  · skip
    refine r_iconst C dX2_takeFromQueue_7 ?_
    exact r_iret C dX2_takeFromQueue_8 (by (unfold s2top; first | rw [if_pos (by assumption)] | rw [if_neg (by assumption)])) (by (unfold s2pop; first | rw [if_pos (by assumption)] | rw [if_neg (by assumption)]))

set_option maxRecDepth 100000 in
set_option maxHeartbeats 8000000 in
theorem c_X2_drownIfDisturbed {l : Launch} {G : Gt} (hG : Gok G) {t : Nat} {v : Nat} (ht : t ≤ 1) (hv : v ≤ 7) {w : Mm} {b : Int} (hz : 0 ≤ w (t, v, 3) 4 ∧ w (t, v, 3) 4 ≤ 112) (hb : inR (b - w (t, v, 0) 4)) (hb2 : inR b) : Con l G yX2_drownIfDisturbed wsX2_drownIfDisturbed ({ frames := 2, cells := 0, slots := 0, locals := 43 } : Room) w [.ref (adr G (t, v, 0)), vI b] none (s2dr w t v b) 0 0 := by
  refine Con.head (cc := cX2_drownIfDisturbed) (nL := 2) (ret := none) hG (by decide +kernel) rfl (Nat.le_of_ble_eq_true rfl) ?_
  intro B A hBl C hr
  have hr0 := hr
  have hrI := hr
  have hinX2 : ∀ w ∈ u_ws RX2 TX2 13, w ∈ wsX2_drownIfDisturbed := by decide +kernel
  obtain ⟨hz1, hz2⟩ := hz
  have hsl := s1last_le w t v b (w (t, v, 3) 4).toNat
  refine r_aload_n C (k := 0) dX2_drownIfDisturbed_0 rfl ?_
  refine r_iload_n C (k := 1) dX2_drownIfDisturbed_1 rfl ?_
  refine r_callV C (w' := w) [vI (b)] 1 (c_X2_isAwake hG ht hv (by first | assumption | omega | exact hr _ _ | exact hr0 _ _ | exact hrI _ _ | exact ⟨by omega, by omega⟩ | exact bI_inR _ | (simp [st1] <;> omega) | exact rowR.so (by assumption) (by simp))) gX2_drownIfDisturbed_X2_isAwake rfl rfl rfl (by decide +kernel) (Nat.le_of_ble_eq_true rfl) (Nat.le_of_ble_eq_true rfl) ⟨(Nat.zero_le _), (Nat.zero_le _)⟩ (ok_of hG (kdv0 ht hv) (by decide) (Nat.le_trans ht (by decide))) (kdv0 ht hv) (by decide) rfl rfl rfl (Nat.le_of_ble_eq_true rfl) (st' := [vI (bI (awk w t v (b)))]) rfl dX2_drownIfDisturbed_2 (fun hr => ?_)
  refine r_if_eqP C (P := awk w t v (b)) (tgt := 27) dX2_drownIfDisturbed_5 (by decide) (fun h_1 => ?_) (fun h_1 => ?_)
  · skip
    refine r_aload_n C (k := 0) dX2_drownIfDisturbed_27 rfl ?_
    refine r_getf C 11 (v := .ref (adr G (t, v, 3))) (ok_of hG (kdv0 ht hv) (by decide) (Nat.le_trans ht (by decide))) (kdv0 ht hv) (by decide) rfl hinX2 (by decide) (by decide +kernel) rfl rfl dX2_drownIfDisturbed_28 ?_
    refine r_iload_n C (k := 1) dX2_drownIfDisturbed_31 rfl ?_
    refine r_callV C (w' := (s1drown w t v (b) (w (t, v, 3) 4).toNat)) [vI (b)] 1 (c_X1_drown hG ht hv (by first | assumption | omega | exact hr _ _ | exact hr0 _ _ | exact hrI _ _ | exact ⟨by omega, by omega⟩ | exact bI_inR _ | (simp [st1] <;> omega) | exact rowR.so (by assumption) (by simp)) (by first | assumption | omega | exact hr _ _ | exact hr0 _ _ | exact hrI _ _ | exact ⟨by omega, by omega⟩ | exact bI_inR _ | (simp [st1] <;> omega) | exact rowR.so (by assumption) (by simp))) gX2_drownIfDisturbed_X1_drown rfl rfl rfl (by decide +kernel) (Nat.le_of_ble_eq_true rfl) (Nat.le_of_ble_eq_true rfl) ⟨(Nat.zero_le _), (Nat.zero_le _)⟩ (ok_of hG (kdv3 ht hv) (by decide) (Nat.le_trans ht (by decide))) (kdv3 ht hv) (by decide) rfl rfl rfl (Nat.le_of_ble_eq_true rfl) (st' := []) rfl dX2_drownIfDisturbed_32 (fun hr => ?_)
    exact r_vret C dX2_drownIfDisturbed_35 (by (unfold s2dr; first | rw [if_pos (by omega)] | rw [if_neg (by omega)]))
  · skip
    refine r_aload_n C (k := 0) dX2_drownIfDisturbed_8 rfl ?_
    refine r_callV C (w' := w) [] 0 (c_X2_isDrumming hG ht hv) gX2_drownIfDisturbed_X2_isDrumming rfl rfl rfl (by decide +kernel) (Nat.le_of_ble_eq_true rfl) (Nat.le_of_ble_eq_true rfl) ⟨(Nat.zero_le _), (Nat.zero_le _)⟩ (ok_of hG (kdv0 ht hv) (by decide) (Nat.le_trans ht (by decide))) (kdv0 ht hv) (by decide) rfl rfl rfl (Nat.le_of_ble_eq_true rfl) (st' := [vI (bI (¬ w (t, v, 0) 6 = -1))]) rfl dX2_drownIfDisturbed_9 (fun hr => ?_)
    refine r_if_neP C (P := ¬ w (t, v, 0) 6 = -1) (tgt := 27) dX2_drownIfDisturbed_12 (by decide) (fun h_2 => ?_) (fun h_2 => ?_)
    · skip
      refine r_aload_n C (k := 0) dX2_drownIfDisturbed_27 rfl ?_
      refine r_getf C 11 (v := .ref (adr G (t, v, 3))) (ok_of hG (kdv0 ht hv) (by decide) (Nat.le_trans ht (by decide))) (kdv0 ht hv) (by decide) rfl hinX2 (by decide) (by decide +kernel) rfl rfl dX2_drownIfDisturbed_28 ?_
      refine r_iload_n C (k := 1) dX2_drownIfDisturbed_31 rfl ?_
      refine r_callV C (w' := (s1drown w t v (b) (w (t, v, 3) 4).toNat)) [vI (b)] 1 (c_X1_drown hG ht hv (by first | assumption | omega | exact hr _ _ | exact hr0 _ _ | exact hrI _ _ | exact ⟨by omega, by omega⟩ | exact bI_inR _ | (simp [st1] <;> omega) | exact rowR.so (by assumption) (by simp)) (by first | assumption | omega | exact hr _ _ | exact hr0 _ _ | exact hrI _ _ | exact ⟨by omega, by omega⟩ | exact bI_inR _ | (simp [st1] <;> omega) | exact rowR.so (by assumption) (by simp))) gX2_drownIfDisturbed_X1_drown rfl rfl rfl (by decide +kernel) (Nat.le_of_ble_eq_true rfl) (Nat.le_of_ble_eq_true rfl) ⟨(Nat.zero_le _), (Nat.zero_le _)⟩ (ok_of hG (kdv3 ht hv) (by decide) (Nat.le_trans ht (by decide))) (kdv3 ht hv) (by decide) rfl rfl rfl (Nat.le_of_ble_eq_true rfl) (st' := []) rfl dX2_drownIfDisturbed_32 (fun hr => ?_)
      exact r_vret C dX2_drownIfDisturbed_35 (by (unfold s2dr; first | rw [if_pos (by omega)] | rw [if_neg (by omega)]))
    · skip
      refine r_aload_n C (k := 0) dX2_drownIfDisturbed_15 rfl ?_
      refine r_getf C 11 (v := .ref (adr G (t, v, 3))) (ok_of hG (kdv0 ht hv) (by decide) (Nat.le_trans ht (by decide))) (kdv0 ht hv) (by decide) rfl hinX2 (by decide) (by decide +kernel) rfl rfl dX2_drownIfDisturbed_16 ?_
      refine r_iload_n C (k := 1) dX2_drownIfDisturbed_19 rfl ?_
      refine r_callV C (w' := w) [vI (b)] 1 (c_X1_lasting hG ht hv (by first | assumption | omega | exact hr _ _ | exact hr0 _ _ | exact hrI _ _ | exact ⟨by omega, by omega⟩ | exact bI_inR _ | (simp [st1] <;> omega) | exact rowR.so (by assumption) (by simp)) (by first | assumption | omega | exact hr _ _ | exact hr0 _ _ | exact hrI _ _ | exact ⟨by omega, by omega⟩ | exact bI_inR _ | (simp [st1] <;> omega) | exact rowR.so (by assumption) (by simp))) gX2_drownIfDisturbed_X1_lasting rfl rfl rfl (by decide +kernel) (Nat.le_of_ble_eq_true rfl) (Nat.le_of_ble_eq_true rfl) ⟨(Nat.zero_le _), (Nat.zero_le _)⟩ (ok_of hG (kdv3 ht hv) (by decide) (Nat.le_trans ht (by decide))) (kdv3 ht hv) (by decide) rfl rfl rfl (Nat.le_of_ble_eq_true rfl) (st' := [vI ((((s1last w t v (b) (w (t, v, 3) 4).toNat : Nat) : Int)))]) rfl dX2_drownIfDisturbed_20 (fun hr => ?_)
      refine r_iconst C dX2_drownIfDisturbed_23 ?_
      refine r_icmp_lt C (tgt := 35) dX2_drownIfDisturbed_24 (by decide) (by first | exact hr _ _ | exact hr0 _ _ | exact hrI _ _ | assumption | exact ⟨by omega, by omega⟩) ⟨by decide, by decide⟩ (fun h_3 => ?_) (fun h_3 => ?_)
      · skip
        exact r_vret C dX2_drownIfDisturbed_35 (by (unfold s2dr; first | rw [if_pos (by omega)] | rw [if_neg (by omega)]))
      · skip
        refine r_aload_n C (k := 0) dX2_drownIfDisturbed_27 rfl ?_
        refine r_getf C 11 (v := .ref (adr G (t, v, 3))) (ok_of hG (kdv0 ht hv) (by decide) (Nat.le_trans ht (by decide))) (kdv0 ht hv) (by decide) rfl hinX2 (by decide) (by decide +kernel) rfl rfl dX2_drownIfDisturbed_28 ?_
        refine r_iload_n C (k := 1) dX2_drownIfDisturbed_31 rfl ?_
        refine r_callV C (w' := (s1drown w t v (b) (w (t, v, 3) 4).toNat)) [vI (b)] 1 (c_X1_drown hG ht hv (by first | assumption | omega | exact hr _ _ | exact hr0 _ _ | exact hrI _ _ | exact ⟨by omega, by omega⟩ | exact bI_inR _ | (simp [st1] <;> omega) | exact rowR.so (by assumption) (by simp)) (by first | assumption | omega | exact hr _ _ | exact hr0 _ _ | exact hrI _ _ | exact ⟨by omega, by omega⟩ | exact bI_inR _ | (simp [st1] <;> omega) | exact rowR.so (by assumption) (by simp))) gX2_drownIfDisturbed_X1_drown rfl rfl rfl (by decide +kernel) (Nat.le_of_ble_eq_true rfl) (Nat.le_of_ble_eq_true rfl) ⟨(Nat.zero_le _), (Nat.zero_le _)⟩ (ok_of hG (kdv3 ht hv) (by decide) (Nat.le_trans ht (by decide))) (kdv3 ht hv) (by decide) rfl rfl rfl (Nat.le_of_ble_eq_true rfl) (st' := []) rfl dX2_drownIfDisturbed_32 (fun hr => ?_)
        exact r_vret C dX2_drownIfDisturbed_35 (by (unfold s2dr; first | rw [if_pos (by omega)] | rw [if_neg (by omega)]))

set_option maxRecDepth 100000 in
set_option maxHeartbeats 8000000 in
theorem c_X2_endDrumBeat {l : Launch} {G : Gt} (hG : Gok G) {t : Nat} {v : Nat} (ht : t ≤ 1) (hv : v ≤ 7) {w : Mm} (hl : 0 ≤ w (t, v, 0) 7) : Con l G yX2_endDrumBeat wsX2_endDrumBeat ({ frames := 1, cells := 0, slots := 0, locals := 20 } : Room) w [.ref (adr G (t, v, 0))] none (s2edb w t v) 0 0 := by
  refine Con.head (cc := cX2_endDrumBeat) (nL := 1) (ret := none) hG (by decide +kernel) rfl (Nat.le_of_ble_eq_true rfl) ?_
  intro B A hBl C hr
  have hr0 := hr
  have hrI := hr
  have hinX2 : ∀ w ∈ u_ws RX2 TX2 13, w ∈ wsX2_endDrumBeat := by decide +kernel
  have hr7 := hr (t, v, 0) 7
  unfold inR at hr7
  refine r_aload_n C (k := 0) dX2_endDrumBeat_0 rfl ?_
  refine r_callV C (w' := w) [] 0 (c_X2_isDrumming hG ht hv) gX2_endDrumBeat_X2_isDrumming rfl rfl rfl (by decide +kernel) (Nat.le_of_ble_eq_true rfl) (Nat.le_of_ble_eq_true rfl) ⟨(Nat.zero_le _), (Nat.zero_le _)⟩ (ok_of hG (kdv0 ht hv) (by decide) (Nat.le_trans ht (by decide))) (kdv0 ht hv) (by decide) rfl rfl rfl (Nat.le_of_ble_eq_true rfl) (st' := [vI (bI (¬ w (t, v, 0) 6 = -1))]) rfl dX2_endDrumBeat_1 (fun hr => ?_)
  refine r_if_neP C (P := ¬ w (t, v, 0) 6 = -1) (tgt := 8) dX2_endDrumBeat_4 (by decide) (fun h_1 => ?_) (fun h_1 => ?_)
  · skip
    refine r_aload_n C (k := 0) dX2_endDrumBeat_8 rfl ?_
    refine r_dup C dX2_endDrumBeat_9 rfl ?_
    refine r_getf C 7 (ok_of hG (kdv0 ht hv) (by decide) (Nat.le_trans ht (by decide))) (kdv0 ht hv) (by decide) rfl hinX2 (by decide) (by decide +kernel) rfl rfl dX2_endDrumBeat_10 ?_
    refine r_iconst C dX2_endDrumBeat_13 ?_
    refine r_isub C dX2_endDrumBeat_14 ?_
    refine r_putf C 7 hr (by first | exact hr _ _ | exact hr0 _ _ | exact hrI _ _ | assumption | exact ⟨by omega, by omega⟩) (ok_of hG (kdv0 ht hv) (by decide) (Nat.le_trans ht (by decide))) (kdv0 ht hv) (by decide) rfl hinX2 tyX2_ok nmX2 (by decide) (by decide +kernel) rfl rfl (ty := .int) (by decide +kernel) rfl rfl rfl (Nat.le_of_ble_eq_true rfl) dX2_endDrumBeat_15 (fun hr => ?_)
    refine r_aload_n C (k := 0) dX2_endDrumBeat_18 rfl ?_
    refine r_getf C 7 (ok_of hG (kdv0 ht hv) (by decide) (Nat.le_trans ht (by decide))) (kdv0 ht hv) (by decide) rfl hinX2 (by decide) (by decide +kernel) rfl rfl dX2_endDrumBeat_19 ?_
    refine Wm.top (z' := (w (t, v, 0) (7) - 1)) (by simp [st1, cpy]) ?_
    refine r_if_ne C (tgt := 30) dX2_endDrumBeat_22 (by decide) (by first | exact hr _ _ | exact hr0 _ _ | exact hrI _ _ | assumption | exact ⟨by omega, by omega⟩) (fun h_2 => ?_) (fun h_2 => ?_)
    · skip
      exact r_vret C dX2_endDrumBeat_30 (by (unfold s2edb; (repeat' split) <;> first | rfl | (exfalso; omega)))
    · skip
      refine r_aload_n C (k := 0) dX2_endDrumBeat_25 rfl ?_
      refine r_iconst C dX2_endDrumBeat_26 ?_
      refine r_putf C 6 hr ⟨by decide, by decide⟩ (ok_of hG (kdv0 ht hv) (by decide) (Nat.le_trans ht (by decide))) (kdv0 ht hv) (by decide) rfl hinX2 tyX2_ok nmX2 (by decide) (by decide +kernel) rfl rfl (ty := .int) (by decide +kernel) rfl rfl rfl (Nat.le_of_ble_eq_true rfl) dX2_endDrumBeat_27 (fun hr => ?_)
      exact r_vret C dX2_endDrumBeat_30 (by (unfold s2edb; (repeat' split) <;> first | rfl | (exfalso; omega)))
  · skip
    exact r_vret C dX2_endDrumBeat_7 (by (unfold s2edb; (repeat' split) <;> first | rfl | (exfalso; omega)))

set_option maxRecDepth 100000 in
set_option maxHeartbeats 8000000 in
theorem c_X2_figure {l : Launch} {G : Gt} (hG : Gok G) {t : Nat} {v : Nat} (ht : t ≤ 1) (hv : v ≤ 7) {w : Mm} {a : Int} {b : Int} (ha : 0 ≤ a ∧ a ≤ 9) (hb : inR (b - w (t, v, 0) 4)) (hc : w (t, v, 0) 3 = 0 ∨ w (t, v, 0) 3 = 1) : Con l G yX2_figure wsX2_figure ({ frames := 2, cells := 0, slots := 0, locals := 43 } : Room) w [.ref (adr G (t, v, 0)), vI a, vI b] (some (vI (s2fig w t v b (a).toNat))) w 0 0 := by
  refine Con.head (cc := cX2_figure) (nL := 3) (ret := (some .int)) hG (by decide +kernel) rfl (Nat.le_of_ble_eq_true rfl) ?_
  intro B A hBl C hr
  have hr0 := hr
  have hrI := hr
  have hinX2 : ∀ w ∈ u_ws RX2 TX2 13, w ∈ wsX2_figure := by decide +kernel
  refine r_iload_n C (k := 1) dX2_figure_0 rfl ?_
  rcases (show a = 0 ∨ a = 1 ∨ a = 2 ∨ a = 3 ∨ a = 4 ∨ a = 5 ∨ a = 6 ∨ a = 7 ∨ a = 8 ∨ a = 9 by omega) with rfl | rfl | rfl | rfl | rfl | rfl | rfl | rfl | rfl | rfl
  · refine r_tsIn C (tgt := 52) dX2_figure_1 ⟨by decide, by decide⟩ (by decide) (by decide) rfl (by decide) ?_
    refine r_aload_n C (k := 0) dX2_figure_52 rfl ?_
    refine r_getf C 0 (ok_of hG (kdv0 ht hv) (by decide) (Nat.le_trans ht (by decide))) (kdv0 ht hv) (by decide) rfl hinX2 (by decide) (by decide +kernel) rfl rfl dX2_figure_53 ?_
    exact r_iret C dX2_figure_56 (by first | rfl | exact congrArg (fun z => some (vI z)) (bI_t (by assumption)).symm | exact congrArg (fun z => some (vI z)) (bI_f (by assumption)).symm | exact congrArg (fun z => some (vI z)) (show _ = w (t, v, 0) 3 by omega)) (by first | rfl | (simp [*]; done))
  · refine r_tsIn C (tgt := 57) dX2_figure_1 ⟨by decide, by decide⟩ (by decide) (by decide) rfl (by decide) ?_
    refine r_aload_n C (k := 0) dX2_figure_57 rfl ?_
    refine r_getf C 1 (ok_of hG (kdv0 ht hv) (by decide) (Nat.le_trans ht (by decide))) (kdv0 ht hv) (by decide) rfl hinX2 (by decide) (by decide +kernel) rfl rfl dX2_figure_58 ?_
    exact r_iret C dX2_figure_61 (by first | rfl | exact congrArg (fun z => some (vI z)) (bI_t (by assumption)).symm | exact congrArg (fun z => some (vI z)) (bI_f (by assumption)).symm | exact congrArg (fun z => some (vI z)) (show _ = w (t, v, 0) 3 by omega)) (by first | rfl | (simp [*]; done))
  · refine r_tsIn C (tgt := 62) dX2_figure_1 ⟨by decide, by decide⟩ (by decide) (by decide) rfl (by decide) ?_
    refine r_aload_n C (k := 0) dX2_figure_62 rfl ?_
    refine r_getf C 2 (ok_of hG (kdv0 ht hv) (by decide) (Nat.le_trans ht (by decide))) (kdv0 ht hv) (by decide) rfl hinX2 (by decide) (by decide +kernel) rfl rfl dX2_figure_63 ?_
    exact r_iret C dX2_figure_66 (by first | rfl | exact congrArg (fun z => some (vI z)) (bI_t (by assumption)).symm | exact congrArg (fun z => some (vI z)) (bI_f (by assumption)).symm | exact congrArg (fun z => some (vI z)) (show _ = w (t, v, 0) 3 by omega)) (by first | rfl | (simp [*]; done))
  · refine r_tsIn C (tgt := 67) dX2_figure_1 ⟨by decide, by decide⟩ (by decide) (by decide) rfl (by decide) ?_
    refine r_aload_n C (k := 0) dX2_figure_67 rfl ?_
    refine r_getf C 3 (ok_of hG (kdv0 ht hv) (by decide) (Nat.le_trans ht (by decide))) (kdv0 ht hv) (by decide) rfl hinX2 (by decide) (by decide +kernel) rfl rfl dX2_figure_68 ?_
    refine r_if_eq C (tgt := 78) dX2_figure_71 (by decide) (by first | exact hr _ _ | exact hr0 _ _ | exact hrI _ _ | assumption | exact ⟨by omega, by omega⟩) (fun h_1 => ?_) (fun h_1 => ?_)
    · skip
      refine r_iconst C dX2_figure_78 ?_
      exact r_iret C dX2_figure_79 (by first | rfl | exact congrArg (fun z => some (vI z)) (bI_t (by assumption)).symm | exact congrArg (fun z => some (vI z)) (bI_f (by assumption)).symm | exact congrArg (fun z => some (vI z)) (show _ = w (t, v, 0) 3 by omega)) (by first | rfl | (simp [*]; done))
    · skip
      refine r_iconst C dX2_figure_74 ?_
      refine r_goto C (tgt := 79) dX2_figure_75 (by decide) ?_
      exact r_iret C dX2_figure_79 (by first | rfl | exact congrArg (fun z => some (vI z)) (bI_t (by assumption)).symm | exact congrArg (fun z => some (vI z)) (bI_f (by assumption)).symm | exact congrArg (fun z => some (vI z)) (show _ = w (t, v, 0) 3 by omega)) (by first | rfl | (simp [*]; done))
  · refine r_tsIn C (tgt := 80) dX2_figure_1 ⟨by decide, by decide⟩ (by decide) (by decide) rfl (by decide) ?_
    refine r_aload_n C (k := 0) dX2_figure_80 rfl ?_
    refine r_iload_n C (k := 2) dX2_figure_81 rfl ?_
    refine r_callV C (w' := w) [vI (b)] 1 (c_X2_isAwake hG ht hv (by first | assumption | omega | exact hr _ _ | exact hr0 _ _ | exact hrI _ _ | exact ⟨by omega, by omega⟩ | exact bI_inR _ | (simp [st1] <;> omega) | exact rowR.so (by assumption) (by simp))) gX2_figure_X2_isAwake rfl rfl rfl (by decide +kernel) (Nat.le_of_ble_eq_true rfl) (Nat.le_of_ble_eq_true rfl) ⟨(Nat.zero_le _), (Nat.zero_le _)⟩ (ok_of hG (kdv0 ht hv) (by decide) (Nat.le_trans ht (by decide))) (kdv0 ht hv) (by decide) rfl rfl rfl (Nat.le_of_ble_eq_true rfl) (st' := [vI (bI (awk w t v (b)))]) rfl dX2_figure_82 (fun hr => ?_)
    refine r_if_eqP C (P := awk w t v (b)) (tgt := 92) dX2_figure_85 (by decide) (fun h_2 => ?_) (fun h_2 => ?_)
    · skip
      refine r_iconst C dX2_figure_92 ?_
      exact r_iret C dX2_figure_93 (by first | rfl | exact congrArg (fun z => some (vI z)) (bI_t (by assumption)).symm | exact congrArg (fun z => some (vI z)) (bI_f (by assumption)).symm | exact congrArg (fun z => some (vI z)) (show _ = w (t, v, 0) 3 by omega)) (by first | rfl | (simp [*]; done))
    · skip
      refine r_iconst C dX2_figure_88 ?_
      refine r_goto C (tgt := 93) dX2_figure_89 (by decide) ?_
      exact r_iret C dX2_figure_93 (by first | rfl | exact congrArg (fun z => some (vI z)) (bI_t (by assumption)).symm | exact congrArg (fun z => some (vI z)) (bI_f (by assumption)).symm | exact congrArg (fun z => some (vI z)) (show _ = w (t, v, 0) 3 by omega)) (by first | rfl | (simp [*]; done))
  · refine r_tsIn C (tgt := 94) dX2_figure_1 ⟨by decide, by decide⟩ (by decide) (by decide) rfl (by decide) ?_
    refine r_aload_n C (k := 0) dX2_figure_94 rfl ?_
    refine r_getf C 6 (ok_of hG (kdv0 ht hv) (by decide) (Nat.le_trans ht (by decide))) (kdv0 ht hv) (by decide) rfl hinX2 (by decide) (by decide +kernel) rfl rfl dX2_figure_95 ?_
    exact r_iret C dX2_figure_98 (by first | rfl | exact congrArg (fun z => some (vI z)) (bI_t (by assumption)).symm | exact congrArg (fun z => some (vI z)) (bI_f (by assumption)).symm | exact congrArg (fun z => some (vI z)) (show _ = w (t, v, 0) 3 by omega)) (by first | rfl | (simp [*]; done))
  · refine r_tsIn C (tgt := 99) dX2_figure_1 ⟨by decide, by decide⟩ (by decide) (by decide) rfl (by decide) ?_
    refine r_aload_n C (k := 0) dX2_figure_99 rfl ?_
    refine r_getf C 7 (ok_of hG (kdv0 ht hv) (by decide) (Nat.le_trans ht (by decide))) (kdv0 ht hv) (by decide) rfl hinX2 (by decide) (by decide +kernel) rfl rfl dX2_figure_100 ?_
    exact r_iret C dX2_figure_103 (by first | rfl | exact congrArg (fun z => some (vI z)) (bI_t (by assumption)).symm | exact congrArg (fun z => some (vI z)) (bI_f (by assumption)).symm | exact congrArg (fun z => some (vI z)) (show _ = w (t, v, 0) 3 by omega)) (by first | rfl | (simp [*]; done))
  · refine r_tsIn C (tgt := 104) dX2_figure_1 ⟨by decide, by decide⟩ (by decide) (by decide) rfl (by decide) ?_
    refine r_aload_n C (k := 0) dX2_figure_104 rfl ?_
    refine r_getf C 9 (ok_of hG (kdv0 ht hv) (by decide) (Nat.le_trans ht (by decide))) (kdv0 ht hv) (by decide) rfl hinX2 (by decide) (by decide +kernel) rfl rfl dX2_figure_105 ?_
    exact r_iret C dX2_figure_108 (by first | rfl | exact congrArg (fun z => some (vI z)) (bI_t (by assumption)).symm | exact congrArg (fun z => some (vI z)) (bI_f (by assumption)).symm | exact congrArg (fun z => some (vI z)) (show _ = w (t, v, 0) 3 by omega)) (by first | rfl | (simp [*]; done))
  · refine r_tsIn C (tgt := 109) dX2_figure_1 ⟨by decide, by decide⟩ (by decide) (by decide) rfl (by decide) ?_
    refine r_aload_n C (k := 0) dX2_figure_109 rfl ?_
    refine r_callV C (w' := w) [] 0 (c_X2_phrasesKnown hG ht hv) gX2_figure_X2_phrasesKnown rfl rfl rfl (by decide +kernel) (Nat.le_of_ble_eq_true rfl) (Nat.le_of_ble_eq_true rfl) ⟨(Nat.zero_le _), (Nat.zero_le _)⟩ (ok_of hG (kdv0 ht hv) (by decide) (Nat.le_trans ht (by decide))) (kdv0 ht hv) (by decide) rfl rfl rfl (Nat.le_of_ble_eq_true rfl) (st' := [vI ((((s2kn w t v 12 : Nat) : Int)))]) rfl dX2_figure_110 (fun hr => ?_)
    exact r_iret C dX2_figure_113 (by first | rfl | exact congrArg (fun z => some (vI z)) (bI_t (by assumption)).symm | exact congrArg (fun z => some (vI z)) (bI_f (by assumption)).symm | exact congrArg (fun z => some (vI z)) (show _ = w (t, v, 0) 3 by omega)) (by first | rfl | (simp [*]; done))
  · refine r_tsOut C (tgt := 114) dX2_figure_1 ⟨by decide, by decide⟩ (by decide) (by decide) ?_
    refine r_aload_n C (k := 0) dX2_figure_114 rfl ?_
    refine r_getf C 12 (ok_of hG (kdv0 ht hv) (by decide) (Nat.le_trans ht (by decide))) (kdv0 ht hv) (by decide) rfl hinX2 (by decide) (by decide +kernel) rfl rfl dX2_figure_115 ?_
    exact r_iret C dX2_figure_118 (by first | rfl | exact congrArg (fun z => some (vI z)) (bI_t (by assumption)).symm | exact congrArg (fun z => some (vI z)) (bI_f (by assumption)).symm | exact congrArg (fun z => some (vI z)) (show _ = w (t, v, 0) 3 by omega)) (by first | rfl | (simp [*]; done))

set_option maxRecDepth 100000 in
set_option maxHeartbeats 8000000 in
theorem c_X2_endSounds {l : Launch} {G : Gt} (hG : Gok G) {t : Nat} {v : Nat} (ht : t ≤ 1) (hv : v ≤ 7) {w : Mm} {b : Int} (hz : 0 ≤ w (t, v, 3) 4 ∧ w (t, v, 3) 4 ≤ 112) (hq : 0 ≤ w (t, v, 0) 9 ∧ w (t, v, 0) 9 ≤ 5) (hd : 0 ≤ w (t, v, 0) 12 ∧ w (t, v, 0) 12 ≤ 2000000000) (hb : inR b) : Con l G yX2_endSounds wsX2_endSounds ({ frames := 1, cells := 0, slots := 0, locals := 22 } : Room) w [.ref (adr G (t, v, 0)), vI b] (some (vI ((((s2endL w t v b (w (t, v, 3) 4).toNat).2.1 : Nat) : Int)))) (s2end w t v b) 0 0 := by
  refine Con.head (cc := cX2_endSounds) (nL := 5) (ret := (some .int)) hG (by decide +kernel) rfl (Nat.le_of_ble_eq_true rfl) ?_
  intro B A hBl C hr
  have hr0 := hr
  have hrI := hr
  have hinX1 : ∀ w ∈ u_ws RX1 TX1 5, w ∈ wsX2_endSounds := by decide +kernel
  have hinX2 : ∀ w ∈ u_ws RX2 TX2 13, w ∈ wsX2_endSounds := by decide +kernel
  obtain ⟨hz1, hz2⟩ := hz
  obtain ⟨hd1, hd2⟩ := hd
  refine r_iconst C dX2_endSounds_0 ?_
  refine r_istore_n C (i := 2) (lv' := [(2, vI (0)), (0, .ref (adr G (t, v, 0))), (1, vI (b))]) dX2_endSounds_1 rfl (by decide) rfl ?_
  refine r_iconst C dX2_endSounds_2 ?_
  refine r_istore_n C (i := 3) (lv' := [(3, vI (0)), (2, vI (0)), (0, .ref (adr G (t, v, 0))), (1, vI (b))]) dX2_endSounds_3 rfl (by decide) rfl ?_
  refine r_iconst C dX2_endSounds_4 ?_
  refine r_istore C (i := 4) (lv' := [(4, vI (0)), (3, vI (0)), (2, vI (0)), (0, .ref (adr G (t, v, 0))), (1, vI (b))]) dX2_endSounds_5 (by decide) rfl ?_
  have loop_7 : ∀ (n : Nat) (i : Nat), (i ≤ (w (t, v, 3) 4).toNat) → (w (t, v, 3) 4).toNat - i < n → rng ((s2endL w t v b i).1) → Wm B 5 G A (Qe B G A (some (vI ((((s2endL w t v b (w (t, v, 3) 4).toNat).2.1 : Nat) : Int)))) (s2end w t v b) 0 0) ((s2endL w t v b i).1) 0 0 7 [(0, .ref (adr G (t, v, 0))), (1, vI (b)), (2, vI ((((s2endL w t v b i).2.1 : Nat) : Int))), (3, vI ((((s2endL w t v b i).2.2 : Nat) : Int))), (4, vI (((i : Nat) : Int)))] [] := by
    intro n7
    induction n7 with
    | zero => intro i hi hm; exact absurd hm (Nat.not_lt_zero _)
    | succ n7 ih7 =>
      intro i hi hm hr
      have hrI := hr
      obtain ⟨f1, f2, f3, f4, f5, f6⟩ := s2endL_facts w t v b hq i
      obtain ⟨f41, f42⟩ := f4
      refine r_iload C (k := 4) dX2_endSounds_7 rfl ?_
      refine r_aload_n C (k := 0) dX2_endSounds_9 rfl ?_
      refine r_getf C 11 (v := .ref (adr G (t, v, 3))) (ok_of hG (kdv0 ht hv) (by decide) (Nat.le_trans ht (by decide))) (kdv0 ht hv) (by decide) rfl hinX2 (by decide) (by decide +kernel) rfl rfl dX2_endSounds_10 ?_
      refine r_getf C 4 (ok_of hG (kdv3 ht hv) (by decide) (Nat.le_trans ht (by decide))) (kdv3 ht hv) (by decide) rfl hinX1 (by decide) (by decide +kernel) rfl rfl dX2_endSounds_13 ?_
      refine r_icmp_ge C (tgt := 116) dX2_endSounds_16 (by decide) (by first | exact hr _ _ | exact hr0 _ _ | exact hrI _ _ | assumption | exact ⟨by omega, by omega⟩) (by first | exact hr _ _ | exact hr0 _ _ | exact hrI _ _ | assumption | exact ⟨by omega, by omega⟩) (fun h_1 => ?_) (fun h_1 => ?_)
      · skip
        refine r_aload_n C (k := 0) dX2_endSounds_116 rfl ?_
        refine r_getf C 11 (v := .ref (adr G (t, v, 3))) (ok_of hG (kdv0 ht hv) (by decide) (Nat.le_trans ht (by decide))) (kdv0 ht hv) (by decide) rfl hinX2 (by decide) (by decide +kernel) rfl rfl dX2_endSounds_117 ?_
        refine r_iload_n C (k := 3) dX2_endSounds_120 rfl ?_
        refine r_putf C 4 hr (by first | exact hr _ _ | exact hr0 _ _ | exact hrI _ _ | assumption | exact ⟨by omega, by omega⟩) (ok_of hG (kdv3 ht hv) (by decide) (Nat.le_trans ht (by decide))) (kdv3 ht hv) (by decide) rfl hinX1 tyX1_ok nmX1 (by decide) (by decide +kernel) rfl rfl (ty := .int) (by decide +kernel) rfl rfl rfl (Nat.le_of_ble_eq_true rfl) dX2_endSounds_121 (fun hr => ?_)
        refine r_iload_n C (k := 2) dX2_endSounds_124 rfl ?_
        exact r_iret C dX2_endSounds_125 (by (obtain rfl : i = (w (t, v, 3) 4).toNat := (by omega)); rfl) (by (obtain rfl : i = (w (t, v, 3) 4).toNat := (by omega)); rfl)
      · skip
        refine r_aload_n C (k := 0) dX2_endSounds_19 rfl ?_
        refine r_getf C 11 (v := .ref (adr G (t, v, 3))) (ok_of hG (kdv0 ht hv) (by decide) (Nat.le_trans ht (by decide))) (kdv0 ht hv) (by decide) rfl hinX2 (by decide) (by decide +kernel) rfl rfl dX2_endSounds_20 ?_
        refine r_getf C 2 (v := .ref (adr G (t, v, 6))) (ok_of hG (kdv3 ht hv) (by decide) (Nat.le_trans ht (by decide))) (kdv3 ht hv) (by decide) rfl hinX1 (by decide) (by decide +kernel) rfl rfl dX2_endSounds_23 ?_
        refine r_iload C (k := 4) dX2_endSounds_26 rfl ?_
        refine r_iald C (i) (ok_of hG (kdv6 ht hv) (by decide) (Nat.le_trans ht (by decide))) (kdv6 ht hv) rfl (by first | omega | assumption) (by decide) dX2_endSounds_28 ?_
        refine r_iload_n C (k := 1) dX2_endSounds_29 rfl ?_
        refine r_icmp_eq C (tgt := 49) dX2_endSounds_30 (by decide) (by first | exact hr _ _ | exact hr0 _ _ | exact hrI _ _ | assumption | exact ⟨by omega, by omega⟩) (by first | exact hr _ _ | exact hr0 _ _ | exact hrI _ _ | assumption | exact ⟨by omega, by omega⟩) (fun h_2 => ?_) (fun h_2 => ?_)
        · skip
          refine r_aload_n C (k := 0) dX2_endSounds_49 rfl ?_
          refine r_getf C 11 (v := .ref (adr G (t, v, 3))) (ok_of hG (kdv0 ht hv) (by decide) (Nat.le_trans ht (by decide))) (kdv0 ht hv) (by decide) rfl hinX2 (by decide) (by decide +kernel) rfl rfl dX2_endSounds_50 ?_
          refine r_getf C 3 (v := .ref (adr G (t, v, 7))) (ok_of hG (kdv3 ht hv) (by decide) (Nat.le_trans ht (by decide))) (kdv3 ht hv) (by decide) rfl hinX1 (by decide) (by decide +kernel) rfl rfl dX2_endSounds_53 ?_
          refine r_iload C (k := 4) dX2_endSounds_56 rfl ?_
          refine r_iald C (i) (ok_of hG (kdv7 ht hv) (by decide) (Nat.le_trans ht (by decide))) (kdv7 ht hv) rfl (by first | omega | assumption) (by decide) dX2_endSounds_58 ?_
          refine r_if_eq C (tgt := 75) dX2_endSounds_59 (by decide) (by first | exact hr _ _ | exact hr0 _ _ | exact hrI _ _ | assumption | exact ⟨by omega, by omega⟩) (fun h_3 => ?_) (fun h_3 => ?_)
          · skip
            refine r_aload_n C (k := 0) dX2_endSounds_75 rfl ?_
            refine r_aload_n C (k := 0) dX2_endSounds_76 rfl ?_
            refine r_getf C 11 (v := .ref (adr G (t, v, 3))) (ok_of hG (kdv0 ht hv) (by decide) (Nat.le_trans ht (by decide))) (kdv0 ht hv) (by decide) rfl hinX2 (by decide) (by decide +kernel) rfl rfl dX2_endSounds_77 ?_
            refine r_getf C 0 (v := .ref (adr G (t, v, 4))) (ok_of hG (kdv3 ht hv) (by decide) (Nat.le_trans ht (by decide))) (kdv3 ht hv) (by decide) rfl hinX1 (by decide) (by decide +kernel) rfl rfl dX2_endSounds_80 ?_
            refine r_iload C (k := 4) dX2_endSounds_83 rfl ?_
            refine r_iald C (i) (ok_of hG (kdv4 ht hv) (by decide) (Nat.le_trans ht (by decide))) (kdv4 ht hv) rfl (by first | omega | assumption) (by decide) dX2_endSounds_85 ?_
            refine r_callV C (w' := ((s2endL w t v b i).1)) [vI (((s2endL w t v b i).1) (t, v, 4) (i))] 1 (c_X2_isKnown hG ht hv (by first | assumption | omega | exact hr _ _ | exact hr0 _ _ | exact hrI _ _ | exact ⟨by omega, by omega⟩ | exact bI_inR _ | (simp [st1] <;> omega) | exact rowR.so (by assumption) (by simp))) gX2_endSounds_X2_isKnown rfl rfl rfl (by decide +kernel) (Nat.le_of_ble_eq_true rfl) (Nat.le_of_ble_eq_true rfl) ⟨(Nat.zero_le _), (Nat.zero_le _)⟩ (ok_of hG (kdv0 ht hv) (by decide) (Nat.le_trans ht (by decide))) (kdv0 ht hv) (by decide) rfl rfl rfl (Nat.le_of_ble_eq_true rfl) (st' := [vI (bI (kno ((s2endL w t v b i).1) t v (((s2endL w t v b i).1) (t, v, 4) (i))))]) rfl dX2_endSounds_86 (fun hr => ?_)
            refine r_if_neP C (P := kno ((s2endL w t v b i).1) t v (((s2endL w t v b i).1) (t, v, 4) (i))) (tgt := 110) dX2_endSounds_89 (by decide) (fun h_4 => ?_) (fun h_4 => ?_)
            · skip
              refine r_iinc C (k := 4) (lv' := [(4, vI (((i + 1 : Nat) : Int))), (0, .ref (adr G (t, v, 0))), (1, vI (b)), (2, vI ((((s2endL w t v b i).2.1 : Nat) : Int))), (3, vI ((((s2endL w t v b i).2.2 : Nat) : Int)))]) dX2_endSounds_110 rfl (by decide) rfl ?_
              refine r_goto C (tgt := 7) dX2_endSounds_113 (by decide) ?_
              have e_5 : ((s2endL w t v b i).1) = ((s2endL w t v b (i + 1)).1) := by (simp only [s2endL]; (repeat' split) <;> first | rfl | (exfalso; simp_all; done) | (exfalso; omega))
              refine Wm.sub (lv' := [(0, .ref (adr G (t, v, 0))), (1, vI (b)), (2, vI ((((s2endL w t v b i).2.1 : Nat) : Int))), (3, vI ((((s2endL w t v b i).2.2 : Nat) : Int))), (4, vI (((i + 1 : Nat) : Int)))]) [1, 2, 3, 4, 0] rfl ?_
              refine Wm.mem (lv' := [(0, .ref (adr G (t, v, 0))), (1, vI (b)), (2, vI ((((s2endL w t v b (i + 1)).2.1 : Nat) : Int))), (3, vI ((((s2endL w t v b (i + 1)).2.2 : Nat) : Int))), (4, vI ((((i + 1) : Nat) : Int)))]) e_5 (by (simp only [s2endL]; (repeat' split) <;> first | rfl | (exfalso; simp_all; done) | (exfalso; omega))) ?_
              exact ih7 ((i + 1)) (by omega) (by omega) (e_5 ▸ hr)
            · skip
              refine r_aload_n C (k := 0) dX2_endSounds_92 rfl ?_
              refine r_aload_n C (k := 0) dX2_endSounds_93 rfl ?_
              refine r_getf C 11 (v := .ref (adr G (t, v, 3))) (ok_of hG (kdv0 ht hv) (by decide) (Nat.le_trans ht (by decide))) (kdv0 ht hv) (by decide) rfl hinX2 (by decide) (by decide +kernel) rfl rfl dX2_endSounds_94 ?_
              refine r_getf C 0 (v := .ref (adr G (t, v, 4))) (ok_of hG (kdv3 ht hv) (by decide) (Nat.le_trans ht (by decide))) (kdv3 ht hv) (by decide) rfl hinX1 (by decide) (by decide +kernel) rfl rfl dX2_endSounds_97 ?_
              refine r_iload C (k := 4) dX2_endSounds_100 rfl ?_
              refine r_iald C (i) (ok_of hG (kdv4 ht hv) (by decide) (Nat.le_trans ht (by decide))) (kdv4 ht hv) rfl (by first | omega | assumption) (by decide) dX2_endSounds_102 ?_
              refine r_iload_n C (k := 1) dX2_endSounds_103 rfl ?_
              refine r_callV C (w' := (s2take ((s2endL w t v b i).1) t v (((s2endL w t v b i).1) (t, v, 4) (i)) (b))) [vI (((s2endL w t v b i).1) (t, v, 4) (i)), vI (b)] 2 (c_X2_takeIn hG ht hv (by first | assumption | omega | exact hr _ _ | exact hr0 _ _ | exact hrI _ _ | exact ⟨by omega, by omega⟩ | exact bI_inR _ | (simp [st1] <;> omega) | exact rowR.so (by assumption) (by simp)) (by first | assumption | omega | exact hr _ _ | exact hr0 _ _ | exact hrI _ _ | exact ⟨by omega, by omega⟩ | exact bI_inR _ | (simp [st1] <;> omega) | exact rowR.so (by assumption) (by simp)) (by first | assumption | omega | exact hr _ _ | exact hr0 _ _ | exact hrI _ _ | exact ⟨by omega, by omega⟩ | exact bI_inR _ | (simp [st1] <;> omega) | exact rowR.so (by assumption) (by simp))) gX2_endSounds_X2_takeIn rfl rfl rfl (by decide +kernel) (Nat.le_of_ble_eq_true rfl) (Nat.le_of_ble_eq_true rfl) ⟨(Nat.zero_le _), (Nat.zero_le _)⟩ (ok_of hG (kdv0 ht hv) (by decide) (Nat.le_trans ht (by decide))) (kdv0 ht hv) (by decide) rfl rfl rfl (Nat.le_of_ble_eq_true rfl) (st' := []) rfl dX2_endSounds_104 (fun hr => ?_)
              refine r_iinc C (k := 2) (lv' := [(2, vI ((((s2endL w t v b i).2.1 + 1 : Nat) : Int))), (0, .ref (adr G (t, v, 0))), (1, vI (b)), (3, vI ((((s2endL w t v b i).2.2 : Nat) : Int))), (4, vI (((i : Nat) : Int)))]) dX2_endSounds_107 rfl (by decide) rfl ?_
              refine r_iinc C (k := 4) (lv' := [(4, vI (((i + 1 : Nat) : Int))), (2, vI ((((s2endL w t v b i).2.1 + 1 : Nat) : Int))), (0, .ref (adr G (t, v, 0))), (1, vI (b)), (3, vI ((((s2endL w t v b i).2.2 : Nat) : Int)))]) dX2_endSounds_110 rfl (by decide) rfl ?_
              refine r_goto C (tgt := 7) dX2_endSounds_113 (by decide) ?_
              have e_6 : (s2take ((s2endL w t v b i).1) t v (((s2endL w t v b i).1) (t, v, 4) (i)) (b)) = ((s2endL w t v b (i + 1)).1) := by (simp only [s2endL]; (repeat' split) <;> first | rfl | (exfalso; simp_all; done) | (exfalso; omega))
              refine Wm.sub (lv' := [(0, .ref (adr G (t, v, 0))), (1, vI (b)), (2, vI ((((s2endL w t v b i).2.1 + 1 : Nat) : Int))), (3, vI ((((s2endL w t v b i).2.2 : Nat) : Int))), (4, vI (((i + 1 : Nat) : Int)))]) [2, 3, 1, 4, 0] rfl ?_
              refine Wm.mem (lv' := [(0, .ref (adr G (t, v, 0))), (1, vI (b)), (2, vI ((((s2endL w t v b (i + 1)).2.1 : Nat) : Int))), (3, vI ((((s2endL w t v b (i + 1)).2.2 : Nat) : Int))), (4, vI ((((i + 1) : Nat) : Int)))]) e_6 (by (simp only [s2endL]; (repeat' split) <;> first | rfl | (exfalso; simp_all; done) | (exfalso; omega))) ?_
              exact ih7 ((i + 1)) (by omega) (by omega) (e_6 ▸ hr)
          · skip
            refine r_aload_n C (k := 0) dX2_endSounds_62 rfl ?_
            refine r_dup C dX2_endSounds_63 rfl ?_
            refine r_getf C 12 (ok_of hG (kdv0 ht hv) (by decide) (Nat.le_trans ht (by decide))) (kdv0 ht hv) (by decide) rfl hinX2 (by decide) (by decide +kernel) rfl rfl dX2_endSounds_64 ?_
            refine r_iconst C dX2_endSounds_67 ?_
            refine r_iadd C dX2_endSounds_68 ?_
            refine r_putf C 12 hr (by first | exact hr _ _ | exact hr0 _ _ | exact hrI _ _ | assumption | exact ⟨by omega, by omega⟩) (ok_of hG (kdv0 ht hv) (by decide) (Nat.le_trans ht (by decide))) (kdv0 ht hv) (by decide) rfl hinX2 tyX2_ok nmX2 (by decide) (by decide +kernel) rfl rfl (ty := .int) (by decide +kernel) rfl rfl rfl (Nat.le_of_ble_eq_true rfl) dX2_endSounds_69 (fun hr => ?_)
            refine r_goto C (tgt := 110) dX2_endSounds_72 (by decide) ?_
            refine r_iinc C (k := 4) (lv' := [(4, vI (((i + 1 : Nat) : Int))), (0, .ref (adr G (t, v, 0))), (1, vI (b)), (2, vI ((((s2endL w t v b i).2.1 : Nat) : Int))), (3, vI ((((s2endL w t v b i).2.2 : Nat) : Int)))]) dX2_endSounds_110 rfl (by decide) rfl ?_
            refine r_goto C (tgt := 7) dX2_endSounds_113 (by decide) ?_
            have e_7 : (st1 ((s2endL w t v b i).1) (t, v, 0) (12) ((((s2endL w t v b i).1) (t, v, 0) (12) + 1))) = ((s2endL w t v b (i + 1)).1) := by (simp only [s2endL]; (repeat' split) <;> first | rfl | (exfalso; simp_all; done) | (exfalso; omega))
            refine Wm.sub (lv' := [(0, .ref (adr G (t, v, 0))), (1, vI (b)), (2, vI ((((s2endL w t v b i).2.1 : Nat) : Int))), (3, vI ((((s2endL w t v b i).2.2 : Nat) : Int))), (4, vI (((i + 1 : Nat) : Int)))]) [1, 2, 3, 4, 0] rfl ?_
            refine Wm.mem (lv' := [(0, .ref (adr G (t, v, 0))), (1, vI (b)), (2, vI ((((s2endL w t v b (i + 1)).2.1 : Nat) : Int))), (3, vI ((((s2endL w t v b (i + 1)).2.2 : Nat) : Int))), (4, vI ((((i + 1) : Nat) : Int)))]) e_7 (by (simp only [s2endL]; (repeat' split) <;> first | rfl | (exfalso; simp_all; done) | (exfalso; omega))) ?_
            exact ih7 ((i + 1)) (by omega) (by omega) (e_7 ▸ hr)
        · skip
          refine r_aload_n C (k := 0) dX2_endSounds_33 rfl ?_
          refine r_getf C 11 (v := .ref (adr G (t, v, 3))) (ok_of hG (kdv0 ht hv) (by decide) (Nat.le_trans ht (by decide))) (kdv0 ht hv) (by decide) rfl hinX2 (by decide) (by decide +kernel) rfl rfl dX2_endSounds_34 ?_
          refine r_iload C (k := 4) dX2_endSounds_37 rfl ?_
          refine r_iload_n C (k := 3) dX2_endSounds_39 rfl ?_
          refine r_callV C (w' := (s1move ((s2endL w t v b i).1) t v (((i : Nat) : Int)) ((((s2endL w t v b i).2.2 : Nat) : Int)))) [vI (((i : Nat) : Int)), vI ((((s2endL w t v b i).2.2 : Nat) : Int))] 2 (c_X1_move hG ht hv (by first | assumption | omega | exact hr _ _ | exact hr0 _ _ | exact hrI _ _ | exact ⟨by omega, by omega⟩ | exact bI_inR _ | (simp [st1] <;> omega) | exact rowR.so (by assumption) (by simp)) (by first | assumption | omega | exact hr _ _ | exact hr0 _ _ | exact hrI _ _ | exact ⟨by omega, by omega⟩ | exact bI_inR _ | (simp [st1] <;> omega) | exact rowR.so (by assumption) (by simp)) (by first | assumption | omega | exact hr _ _ | exact hr0 _ _ | exact hrI _ _ | exact ⟨by omega, by omega⟩ | exact bI_inR _ | (simp [st1] <;> omega) | exact rowR.so (by assumption) (by simp))) gX2_endSounds_X1_move rfl rfl rfl (by decide +kernel) (Nat.le_of_ble_eq_true rfl) (Nat.le_of_ble_eq_true rfl) ⟨(Nat.zero_le _), (Nat.zero_le _)⟩ (ok_of hG (kdv3 ht hv) (by decide) (Nat.le_trans ht (by decide))) (kdv3 ht hv) (by decide) rfl rfl rfl (Nat.le_of_ble_eq_true rfl) (st' := []) rfl dX2_endSounds_40 (fun hr => ?_)
          refine r_iinc C (k := 3) (lv' := [(3, vI ((((s2endL w t v b i).2.2 + 1 : Nat) : Int))), (0, .ref (adr G (t, v, 0))), (1, vI (b)), (2, vI ((((s2endL w t v b i).2.1 : Nat) : Int))), (4, vI (((i : Nat) : Int)))]) dX2_endSounds_43 rfl (by decide) rfl ?_
          refine r_goto C (tgt := 110) dX2_endSounds_46 (by decide) ?_
          refine r_iinc C (k := 4) (lv' := [(4, vI (((i + 1 : Nat) : Int))), (3, vI ((((s2endL w t v b i).2.2 + 1 : Nat) : Int))), (0, .ref (adr G (t, v, 0))), (1, vI (b)), (2, vI ((((s2endL w t v b i).2.1 : Nat) : Int)))]) dX2_endSounds_110 rfl (by decide) rfl ?_
          refine r_goto C (tgt := 7) dX2_endSounds_113 (by decide) ?_
          have e_8 : (s1move ((s2endL w t v b i).1) t v (((i : Nat) : Int)) ((((s2endL w t v b i).2.2 : Nat) : Int))) = ((s2endL w t v b (i + 1)).1) := by (simp only [s2endL]; (repeat' split) <;> first | rfl | (exfalso; simp_all; done) | (exfalso; omega))
          refine Wm.sub (lv' := [(0, .ref (adr G (t, v, 0))), (1, vI (b)), (2, vI ((((s2endL w t v b i).2.1 : Nat) : Int))), (3, vI ((((s2endL w t v b i).2.2 + 1 : Nat) : Int))), (4, vI (((i + 1 : Nat) : Int)))]) [2, 3, 4, 1, 0] rfl ?_
          refine Wm.mem (lv' := [(0, .ref (adr G (t, v, 0))), (1, vI (b)), (2, vI ((((s2endL w t v b (i + 1)).2.1 : Nat) : Int))), (3, vI ((((s2endL w t v b (i + 1)).2.2 : Nat) : Int))), (4, vI ((((i + 1) : Nat) : Int)))]) e_8 (by (simp only [s2endL]; (repeat' split) <;> first | rfl | (exfalso; simp_all; done) | (exfalso; omega))) ?_
          exact ih7 ((i + 1)) (by omega) (by omega) (e_8 ▸ hr)
  have e_9 : w = ((s2endL w t v b 0).1) := by rfl
  refine Wm.sub (lv' := [(0, .ref (adr G (t, v, 0))), (1, vI (b)), (2, vI (0)), (3, vI (0)), (4, vI (0))]) [3, 4, 2, 1, 0] rfl ?_
  refine Wm.mem (lv' := [(0, .ref (adr G (t, v, 0))), (1, vI (b)), (2, vI ((((s2endL w t v b 0).2.1 : Nat) : Int))), (3, vI ((((s2endL w t v b 0).2.2 : Nat) : Int))), (4, vI (((0 : Nat) : Int)))]) e_9 (by rfl) ?_
  exact loop_7 _ (0) (by omega) (Nat.lt_succ_self _) (e_9 ▸ hr)

set_option maxRecDepth 100000 in
set_option maxHeartbeats 8000000 in
theorem c_X2_copy {l : Launch} {G : Gt} (hG : Gok G) {t : Nat} {v : Nat} {t2 : Nat} {v2 : Nat} (ht : t ≤ 1) (hv : v ≤ 7) (ht2 : t2 ≤ 1) (hv2 : v2 ≤ 7) {w : Mm} (hz : 0 ≤ w (t2, v2, 3) 4 ∧ w (t2, v2, 3) 4 ≤ 112) (hne : t ≠ t2) (hc : w (t2, v2, 0) 3 = 0 ∨ w (t2, v2, 0) 3 = 1) : Con l G yX2_copy wsX2_copy ({ frames := 2, cells := 0, slots := 0, locals := 47 } : Room) w [.ref (adr G (t, v, 0)), .ref (adr G (t2, v2, 0))] none (s2cp w t v t2 v2) 0 0 := by
  refine Con.head (cc := cX2_copy) (nL := 2) (ret := none) hG (by decide +kernel) rfl (Nat.le_of_ble_eq_true rfl) ?_
  intro B A hBl C hr
  have hr0 := hr
  have hrI := hr
  have hinX2 : ∀ w ∈ u_ws RX2 TX2 13, w ∈ wsX2_copy := by decide +kernel
  obtain ⟨hz1, hz2⟩ := hz
  have hne2 : t2 ≠ t := fun q => hne q.symm
  refine r_aload_n C (k := 0) dX2_copy_0 rfl ?_
  refine r_aload_n C (k := 1) dX2_copy_1 rfl ?_
  refine r_getf C 0 (ok_of hG (kdv0 ht2 hv2) (by decide) (Nat.le_trans ht2 (by decide))) (kdv0 ht2 hv2) (by decide) rfl hinX2 (by decide) (by decide +kernel) rfl rfl dX2_copy_2 ?_
  refine r_putf C 0 hr (by first | exact hr _ _ | exact hr0 _ _ | exact hrI _ _ | assumption | exact ⟨by omega, by omega⟩) (ok_of hG (kdv0 ht hv) (by decide) (Nat.le_trans ht (by decide))) (kdv0 ht hv) (by decide) rfl hinX2 tyX2_ok nmX2 (by decide) (by decide +kernel) rfl rfl (ty := .int) (by decide +kernel) rfl rfl rfl (Nat.le_of_ble_eq_true rfl) dX2_copy_5 (fun hr => ?_)
  refine r_aload_n C (k := 0) dX2_copy_8 rfl ?_
  refine r_aload_n C (k := 1) dX2_copy_9 rfl ?_
  refine r_getf C 1 (ok_of hG (kdv0 ht2 hv2) (by decide) (Nat.le_trans ht2 (by decide))) (kdv0 ht2 hv2) (by decide) rfl hinX2 (by decide) (by decide +kernel) rfl rfl dX2_copy_10 ?_
  refine Wm.top (z' := w (t2, v2, 0) (1)) (by simp [st1, cpy, hne, hne2]) ?_
  refine r_putf C 1 hr (by first | exact hr _ _ | exact hr0 _ _ | exact hrI _ _ | assumption | exact ⟨by omega, by omega⟩) (ok_of hG (kdv0 ht hv) (by decide) (Nat.le_trans ht (by decide))) (kdv0 ht hv) (by decide) rfl hinX2 tyX2_ok nmX2 (by decide) (by decide +kernel) rfl rfl (ty := .int) (by decide +kernel) rfl rfl rfl (Nat.le_of_ble_eq_true rfl) dX2_copy_13 (fun hr => ?_)
  refine r_aload_n C (k := 0) dX2_copy_16 rfl ?_
  refine r_aload_n C (k := 1) dX2_copy_17 rfl ?_
  refine r_getf C 2 (ok_of hG (kdv0 ht2 hv2) (by decide) (Nat.le_trans ht2 (by decide))) (kdv0 ht2 hv2) (by decide) rfl hinX2 (by decide) (by decide +kernel) rfl rfl dX2_copy_18 ?_
  refine Wm.top (z' := w (t2, v2, 0) (2)) (by simp [st1, cpy, hne, hne2]) ?_
  refine r_putf C 2 hr (by first | exact hr _ _ | exact hr0 _ _ | exact hrI _ _ | assumption | exact ⟨by omega, by omega⟩) (ok_of hG (kdv0 ht hv) (by decide) (Nat.le_trans ht (by decide))) (kdv0 ht hv) (by decide) rfl hinX2 tyX2_ok nmX2 (by decide) (by decide +kernel) rfl rfl (ty := .int) (by decide +kernel) rfl rfl rfl (Nat.le_of_ble_eq_true rfl) dX2_copy_21 (fun hr => ?_)
  refine r_aload_n C (k := 0) dX2_copy_24 rfl ?_
  refine r_aload_n C (k := 1) dX2_copy_25 rfl ?_
  refine r_getf C 3 (ok_of hG (kdv0 ht2 hv2) (by decide) (Nat.le_trans ht2 (by decide))) (kdv0 ht2 hv2) (by decide) rfl hinX2 (by decide) (by decide +kernel) rfl rfl dX2_copy_26 ?_
  refine Wm.top (z' := w (t2, v2, 0) (3)) (by simp [st1, cpy, hne, hne2]) ?_
  refine r_putf C 3 hr (by first | exact hr _ _ | exact hr0 _ _ | exact hrI _ _ | assumption | exact ⟨by omega, by omega⟩) (ok_of hG (kdv0 ht hv) (by decide) (Nat.le_trans ht (by decide))) (kdv0 ht hv) (by decide) rfl hinX2 tyX2_ok nmX2 (by decide) (by decide +kernel) rfl rfl (ty := .boolean) (by decide +kernel) (by rcases hc with h | h <;> rw [h] <;> decide) (by rcases hc with h | h <;> rw [h] <;> decide) rfl (Nat.le_of_ble_eq_true rfl) dX2_copy_29 (fun hr => ?_)
  refine r_aload_n C (k := 0) dX2_copy_32 rfl ?_
  refine r_aload_n C (k := 1) dX2_copy_33 rfl ?_
  refine r_getf C 4 (ok_of hG (kdv0 ht2 hv2) (by decide) (Nat.le_trans ht2 (by decide))) (kdv0 ht2 hv2) (by decide) rfl hinX2 (by decide) (by decide +kernel) rfl rfl dX2_copy_34 ?_
  refine Wm.top (z' := w (t2, v2, 0) (4)) (by simp [st1, cpy, hne, hne2]) ?_
  refine r_putf C 4 hr (by first | exact hr _ _ | exact hr0 _ _ | exact hrI _ _ | assumption | exact ⟨by omega, by omega⟩) (ok_of hG (kdv0 ht hv) (by decide) (Nat.le_trans ht (by decide))) (kdv0 ht hv) (by decide) rfl hinX2 tyX2_ok nmX2 (by decide) (by decide +kernel) rfl rfl (ty := .int) (by decide +kernel) rfl rfl rfl (Nat.le_of_ble_eq_true rfl) dX2_copy_37 (fun hr => ?_)
  refine r_aload_n C (k := 0) dX2_copy_40 rfl ?_
  refine r_aload_n C (k := 1) dX2_copy_41 rfl ?_
  refine r_getf C 5 (ok_of hG (kdv0 ht2 hv2) (by decide) (Nat.le_trans ht2 (by decide))) (kdv0 ht2 hv2) (by decide) rfl hinX2 (by decide) (by decide +kernel) rfl rfl dX2_copy_42 ?_
  refine Wm.top (z' := w (t2, v2, 0) (5)) (by simp [st1, cpy, hne, hne2]) ?_
  refine r_putf C 5 hr (by first | exact hr _ _ | exact hr0 _ _ | exact hrI _ _ | assumption | exact ⟨by omega, by omega⟩) (ok_of hG (kdv0 ht hv) (by decide) (Nat.le_trans ht (by decide))) (kdv0 ht hv) (by decide) rfl hinX2 tyX2_ok nmX2 (by decide) (by decide +kernel) rfl rfl (ty := .int) (by decide +kernel) rfl rfl rfl (Nat.le_of_ble_eq_true rfl) dX2_copy_45 (fun hr => ?_)
  refine r_aload_n C (k := 0) dX2_copy_48 rfl ?_
  refine r_aload_n C (k := 1) dX2_copy_49 rfl ?_
  refine r_getf C 6 (ok_of hG (kdv0 ht2 hv2) (by decide) (Nat.le_trans ht2 (by decide))) (kdv0 ht2 hv2) (by decide) rfl hinX2 (by decide) (by decide +kernel) rfl rfl dX2_copy_50 ?_
  refine Wm.top (z' := w (t2, v2, 0) (6)) (by simp [st1, cpy, hne, hne2]) ?_
  refine r_putf C 6 hr (by first | exact hr _ _ | exact hr0 _ _ | exact hrI _ _ | assumption | exact ⟨by omega, by omega⟩) (ok_of hG (kdv0 ht hv) (by decide) (Nat.le_trans ht (by decide))) (kdv0 ht hv) (by decide) rfl hinX2 tyX2_ok nmX2 (by decide) (by decide +kernel) rfl rfl (ty := .int) (by decide +kernel) rfl rfl rfl (Nat.le_of_ble_eq_true rfl) dX2_copy_53 (fun hr => ?_)
  refine r_aload_n C (k := 0) dX2_copy_56 rfl ?_
  refine r_aload_n C (k := 1) dX2_copy_57 rfl ?_
  refine r_getf C 7 (ok_of hG (kdv0 ht2 hv2) (by decide) (Nat.le_trans ht2 (by decide))) (kdv0 ht2 hv2) (by decide) rfl hinX2 (by decide) (by decide +kernel) rfl rfl dX2_copy_58 ?_
  refine Wm.top (z' := w (t2, v2, 0) (7)) (by simp [st1, cpy, hne, hne2]) ?_
  refine r_putf C 7 hr (by first | exact hr _ _ | exact hr0 _ _ | exact hrI _ _ | assumption | exact ⟨by omega, by omega⟩) (ok_of hG (kdv0 ht hv) (by decide) (Nat.le_trans ht (by decide))) (kdv0 ht hv) (by decide) rfl hinX2 tyX2_ok nmX2 (by decide) (by decide +kernel) rfl rfl (ty := .int) (by decide +kernel) rfl rfl rfl (Nat.le_of_ble_eq_true rfl) dX2_copy_61 (fun hr => ?_)
  refine r_aload_n C (k := 1) dX2_copy_64 rfl ?_
  refine r_getf C 8 (v := .ref (adr G (t2, v2, 1))) (ok_of hG (kdv0 ht2 hv2) (by decide) (Nat.le_trans ht2 (by decide))) (kdv0 ht2 hv2) (by decide) rfl hinX2 (by decide) (by decide +kernel) rfl rfl dX2_copy_65 ?_
  refine r_iconst C dX2_copy_68 ?_
  refine r_aload_n C (k := 0) dX2_copy_69 rfl ?_
  refine r_getf C 8 (v := .ref (adr G (t, v, 1))) (ok_of hG (kdv0 ht hv) (by decide) (Nat.le_trans ht (by decide))) (kdv0 ht hv) (by decide) rfl hinX2 (by decide) (by decide +kernel) rfl rfl dX2_copy_70 ?_
  refine r_iconst C dX2_copy_73 ?_
  refine r_iconst C dX2_copy_74 ?_
  refine r_copy C (0) (0) (5) hr (ok_of hG (kdv1 ht2 hv2) (by decide) (Nat.le_trans ht2 (by decide))) (ok_of hG (kdv1 ht hv) (by decide) (Nat.le_trans ht (by decide))) (kdv1 ht2 hv2) (kdv1 ht hv) rfl rfl rfl (by first | omega | assumption) (by first | omega | assumption) (by decide) (by decide) (by decide +kernel) (by decide +kernel) (by decide +kernel) (by decide +kernel) (Nat.le_of_ble_eq_true rfl) (Nat.le_of_ble_eq_true rfl) dX2_copy_75 (fun hr => ?_)
  refine r_aload_n C (k := 0) dX2_copy_78 rfl ?_
  refine r_aload_n C (k := 1) dX2_copy_79 rfl ?_
  refine r_getf C 9 (ok_of hG (kdv0 ht2 hv2) (by decide) (Nat.le_trans ht2 (by decide))) (kdv0 ht2 hv2) (by decide) rfl hinX2 (by decide) (by decide +kernel) rfl rfl dX2_copy_80 ?_
  refine Wm.top (z' := w (t2, v2, 0) (9)) (by simp [st1, cpy, hne, hne2]) ?_
  refine r_putf C 9 hr (by first | exact hr _ _ | exact hr0 _ _ | exact hrI _ _ | assumption | exact ⟨by omega, by omega⟩) (ok_of hG (kdv0 ht hv) (by decide) (Nat.le_trans ht (by decide))) (kdv0 ht hv) (by decide) rfl hinX2 tyX2_ok nmX2 (by decide) (by decide +kernel) rfl rfl (ty := .int) (by decide +kernel) rfl rfl rfl (Nat.le_of_ble_eq_true rfl) dX2_copy_83 (fun hr => ?_)
  refine r_aload_n C (k := 1) dX2_copy_86 rfl ?_
  refine r_getf C 10 (v := .ref (adr G (t2, v2, 2))) (ok_of hG (kdv0 ht2 hv2) (by decide) (Nat.le_trans ht2 (by decide))) (kdv0 ht2 hv2) (by decide) rfl hinX2 (by decide) (by decide +kernel) rfl rfl dX2_copy_87 ?_
  refine r_iconst C dX2_copy_90 ?_
  refine r_aload_n C (k := 0) dX2_copy_91 rfl ?_
  refine r_getf C 10 (v := .ref (adr G (t, v, 2))) (ok_of hG (kdv0 ht hv) (by decide) (Nat.le_trans ht (by decide))) (kdv0 ht hv) (by decide) rfl hinX2 (by decide) (by decide +kernel) rfl rfl dX2_copy_92 ?_
  refine r_iconst C dX2_copy_95 ?_
  refine r_bipush C dX2_copy_96 (by decide) ?_
  refine r_copy C (0) (0) (12) hr (ok_of hG (kdv2 ht2 hv2) (by decide) (Nat.le_trans ht2 (by decide))) (ok_of hG (kdv2 ht hv) (by decide) (Nat.le_trans ht (by decide))) (kdv2 ht2 hv2) (kdv2 ht hv) rfl rfl rfl (by first | omega | assumption) (by first | omega | assumption) (by decide) (by decide) (by decide +kernel) (by decide +kernel) (by decide +kernel) (by decide +kernel) (Nat.le_of_ble_eq_true rfl) (Nat.le_of_ble_eq_true rfl) dX2_copy_98 (fun hr => ?_)
  refine r_aload_n C (k := 0) dX2_copy_101 rfl ?_
  refine r_getf C 11 (v := .ref (adr G (t, v, 3))) (ok_of hG (kdv0 ht hv) (by decide) (Nat.le_trans ht (by decide))) (kdv0 ht hv) (by decide) rfl hinX2 (by decide) (by decide +kernel) rfl rfl dX2_copy_102 ?_
  refine r_aload_n C (k := 1) dX2_copy_105 rfl ?_
  refine r_getf C 11 (v := .ref (adr G (t2, v2, 3))) (ok_of hG (kdv0 ht2 hv2) (by decide) (Nat.le_trans ht2 (by decide))) (kdv0 ht2 hv2) (by decide) rfl hinX2 (by decide) (by decide +kernel) rfl rfl dX2_copy_106 ?_
  refine r_callV C (w' := (s1cp (cpy (st1 (cpy (st1 (st1 (st1 (st1 (st1 (st1 (st1 (st1 w (t, v, 0) (0) (w (t2, v2, 0) (0))) (t, v, 0) (1) (w (t2, v2, 0) (1))) (t, v, 0) (2) (w (t2, v2, 0) (2))) (t, v, 0) (3) (w (t2, v2, 0) (3))) (t, v, 0) (4) (w (t2, v2, 0) (4))) (t, v, 0) (5) (w (t2, v2, 0) (5))) (t, v, 0) (6) (w (t2, v2, 0) (6))) (t, v, 0) (7) (w (t2, v2, 0) (7))) (t2, v2, 1) (t, v, 1) (0) (0) (5)) (t, v, 0) (9) (w (t2, v2, 0) (9))) (t2, v2, 2) (t, v, 2) (0) (0) (12)) t v t2 v2)) [.ref (adr G (t2, v2, 3))] 1 (c_X1_copy hG ht hv ht2 hv2 (by (simp [st1, cpy, hne, hne2]; omega)) (by first | assumption | omega | exact hr _ _ | exact hr0 _ _ | exact hrI _ _ | exact ⟨by omega, by omega⟩ | exact bI_inR _ | (simp [st1] <;> omega) | exact rowR.so (by assumption) (by simp))) gX2_copy_X1_copy rfl rfl rfl (by decide +kernel) (Nat.le_of_ble_eq_true rfl) (Nat.le_of_ble_eq_true rfl) ⟨(Nat.zero_le _), (Nat.zero_le _)⟩ (ok_of hG (kdv3 ht hv) (by decide) (Nat.le_trans ht (by decide))) (kdv3 ht hv) (by decide) rfl rfl rfl (Nat.le_of_ble_eq_true rfl) (st' := []) rfl dX2_copy_109 (fun hr => ?_)
  refine r_aload_n C (k := 0) dX2_copy_112 rfl ?_
  refine r_aload_n C (k := 1) dX2_copy_113 rfl ?_
  refine r_getf C 12 (ok_of hG (kdv0 ht2 hv2) (by decide) (Nat.le_trans ht2 (by decide))) (kdv0 ht2 hv2) (by decide) rfl hinX2 (by decide) (by decide +kernel) rfl rfl dX2_copy_114 ?_
  refine Wm.top (z' := w (t2, v2, 0) (12)) (by simp [st1, cpy, s1cp_off, hne, hne2]) ?_
  refine r_putf C 12 hr (by first | exact hr _ _ | exact hr0 _ _ | exact hrI _ _ | assumption | exact ⟨by omega, by omega⟩) (ok_of hG (kdv0 ht hv) (by decide) (Nat.le_trans ht (by decide))) (kdv0 ht hv) (by decide) rfl hinX2 tyX2_ok nmX2 (by decide) (by decide +kernel) rfl rfl (ty := .int) (by decide +kernel) rfl rfl rfl (Nat.le_of_ble_eq_true rfl) dX2_copy_117 (fun hr => ?_)
  exact r_vret C dX2_copy_120 (by first | rfl | (simp [*]; done))
