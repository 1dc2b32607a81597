set_option maxRecDepth 100000 in
set_option maxHeartbeats 1500000 in
theorem c_X3_isPlace {l : Launch} {G : Gt} (hG : Gok G)  {w : Mm} {a : Int} (ha : inR a) : Con l G yX3_isPlace wsX3_isPlace ({ frames := 0, cells := 0, slots := 0, locals := 0 } : Room) w [vI a] (some (vI (bI (0 ≤ a ∧ a ≤ 30)))) w 0 0 := by
  refine Con.head (cc := cX3_isPlace) (nL := 1) (ret := (some .boolean)) hG (by decide +kernel) rfl (Nat.le_of_ble_eq_true rfl) ?_
  intro B A hBl C hr
  have hr0 := hr
  have hrI := hr
  refine r_iload_n C (k := 0) dX3_isPlace_0 rfl ?_
  refine r_if_lt C (tgt := 14) dX3_isPlace_1 (by decide) (by first | exact hr _ _ | exact hr0 _ _ | exact hrI _ _ | assumption | exact ⟨by omega, by omega⟩) (fun h_1 => ?_) (fun h_1 => ?_)
  · skip
    refine r_iconst C dX3_isPlace_14 ?_
    exact r_zret C dX3_isPlace_15 (by first | exact Or.inr rfl | exact Or.inl rfl | exact bI_01 _) (by exact congrArg (fun z => some (vI z)) (bI_f (by first | omega | (simp_all; done) | (simp_all; omega))).symm) (by first | rfl | (simp [*]; done))
  · skip
    refine r_iload_n C (k := 0) dX3_isPlace_4 rfl ?_
    refine r_bipush C dX3_isPlace_5 (by decide) ?_
    refine r_icmp_gt C (tgt := 14) dX3_isPlace_7 (by decide) (by first | exact hr _ _ | exact hr0 _ _ | exact hrI _ _ | assumption | exact ⟨by omega, by omega⟩) ⟨by decide, by decide⟩ (fun h_2 => ?_) (fun h_2 => ?_)
    · skip
      refine r_iconst C dX3_isPlace_14 ?_
      exact r_zret C dX3_isPlace_15 (by first | exact Or.inr rfl | exact Or.inl rfl | exact bI_01 _) (by exact congrArg (fun z => some (vI z)) (bI_f (by first | omega | (simp_all; done) | (simp_all; omega))).symm) (by first | rfl | (simp [*]; done))
    · skip
      refine r_iconst C dX3_isPlace_10 ?_
      refine r_goto C (tgt := 15) dX3_isPlace_11 (by decide) ?_
      exact r_zret C dX3_isPlace_15 (by first | exact Or.inr rfl | exact Or.inl rfl | exact bI_01 _) (by exact congrArg (fun z => some (vI z)) (bI_t (by first | omega | (simp_all; done) | (simp_all; omega))).symm) (by first | rfl | (simp [*]; done))

set_option maxRecDepth 100000 in
set_option maxHeartbeats 1500000 in
theorem c_X3_isDrum {l : Launch} {G : Gt} (hG : Gok G)  {w : Mm} {a : Int} (ha : inR a) : Con l G yX3_isDrum wsX3_isDrum ({ frames := 0, cells := 0, slots := 0, locals := 0 } : Room) w [vI a] (some (vI (bI (1 ≤ a ∧ a ≤ 9)))) w 0 0 := by
  refine Con.head (cc := cX3_isDrum) (nL := 1) (ret := (some .boolean)) hG (by decide +kernel) rfl (Nat.le_of_ble_eq_true rfl) ?_
  intro B A hBl C hr
  have hr0 := hr
  have hrI := hr
  refine r_iload_n C (k := 0) dX3_isDrum_0 rfl ?_
  refine r_iconst C dX3_isDrum_1 ?_
  refine r_icmp_lt C (tgt := 15) dX3_isDrum_2 (by decide) (by first | exact hr _ _ | exact hr0 _ _ | exact hrI _ _ | assumption | exact ⟨by omega, by omega⟩) ⟨by decide, by decide⟩ (fun h_1 => ?_) (fun h_1 => ?_)
  · skip
    refine r_iconst C dX3_isDrum_15 ?_
    exact r_zret C dX3_isDrum_16 (by first | exact Or.inr rfl | exact Or.inl rfl | exact bI_01 _) (by exact congrArg (fun z => some (vI z)) (bI_f (by first | omega | (simp_all; done) | (simp_all; omega))).symm) (by first | rfl | (simp [*]; done))
  · skip
    refine r_iload_n C (k := 0) dX3_isDrum_5 rfl ?_
    refine r_bipush C dX3_isDrum_6 (by decide) ?_
    refine r_icmp_gt C (tgt := 15) dX3_isDrum_8 (by decide) (by first | exact hr _ _ | exact hr0 _ _ | exact hrI _ _ | assumption | exact ⟨by omega, by omega⟩) ⟨by decide, by decide⟩ (fun h_2 => ?_) (fun h_2 => ?_)
    · skip
      refine r_iconst C dX3_isDrum_15 ?_
      exact r_zret C dX3_isDrum_16 (by first | exact Or.inr rfl | exact Or.inl rfl | exact bI_01 _) (by exact congrArg (fun z => some (vI z)) (bI_f (by first | omega | (simp_all; done) | (simp_all; omega))).symm) (by first | rfl | (simp [*]; done))
    · skip
      refine r_iconst C dX3_isDrum_11 ?_
      refine r_goto C (tgt := 16) dX3_isDrum_12 (by decide) ?_
      exact r_zret C dX3_isDrum_16 (by first | exact Or.inr rfl | exact Or.inl rfl | exact bI_01 _) (by exact congrArg (fun z => some (vI z)) (bI_t (by first | omega | (simp_all; done) | (simp_all; omega))).symm) (by first | rfl | (simp [*]; done))

set_option maxRecDepth 100000 in
set_option maxHeartbeats 1500000 in
theorem c_X3_countTones {l : Launch} {G : Gt} (hG : Gok G)  {w : Mm} {n : Int} (hn : inR n) : Con l G yX3_countTones wsX3_countTones ({ frames := 0, cells := 0, slots := 0, locals := 0 } : Room) w [vI n] (some (vI (((ctf 9 n 0 : Nat) : Int)))) w 0 0 := by
  refine Con.head (cc := cX3_countTones) (nL := 4) (ret := (some .int)) hG (by decide +kernel) rfl (Nat.le_of_ble_eq_true rfl) ?_
  intro B A hBl C hr
  have hr0 := hr
  have hrI := hr
  refine r_iload_n C (k := 0) dX3_countTones_0 rfl ?_
  refine r_istore_n C (i := 1) (lv' := [(1, vI (n)), (0, vI (n))]) dX3_countTones_1 rfl (by decide) rfl ?_
  refine r_iconst C dX3_countTones_2 ?_
  refine r_istore_n C (i := 2) (lv' := [(2, vI (0)), (1, vI (n)), (0, vI (n))]) dX3_countTones_3 rfl (by decide) rfl ?_
  have loop_4 : ∀ (nf : Nat) (k : Nat) (r : Int), (k ≤ 9) → (inR r) → (ctf (9 - k) r k = ctf 9 n 0) → 9 - k < nf → rng w → Wm B 4 G A (Qe B G A (some (vI (((ctf 9 n 0 : Nat) : Int)))) w 0 0) w (0) (0) 4 [(0, vI (n)), (1, vI (r)), (2, vI (((k : Nat) : Int)))] [] := by
    intro n4
    induction n4 with
    | zero => intro k r hk hR hq hm; exact absurd hm (Nat.not_lt_zero _)
    | succ n4 ih4 =>
      intro k r hk hR hq hm hr
      have hrI := hr
      refine r_iload_n C (k := 2) dX3_countTones_4 rfl ?_
      refine r_bipush C dX3_countTones_5 (by decide) ?_
      refine r_icmp_gt C (tgt := 44) dX3_countTones_7 (by decide) (by first | exact hR | exact ⟨by decide, by decide⟩ | exact ⟨by omega, by omega⟩) ⟨by decide, by decide⟩ (fun h_1 => ?_) (fun h_1 => ?_)
      · skip
        refine r_iconst C dX3_countTones_44 ?_
        exact r_iret C dX3_countTones_45 (by rw [← hq, show 9 - k = 0 from by omega]; rfl) (by first | rfl | (simp [*]; done))
      · skip
        refine r_iload_n C (k := 1) dX3_countTones_10 rfl ?_
        refine r_if_ne C (tgt := 16) dX3_countTones_11 (by decide) (by first | exact hR | exact ⟨by decide, by decide⟩ | exact ⟨by omega, by omega⟩) (fun h_2 => ?_) (fun h_2 => ?_)
        · have hz := Int.tmod_lt_of_pos r (show (0 : Int) < 10 by decide)
          have hz2 := Int.lt_tmod_of_pos r (show (0 : Int) < 10 by decide)
          refine r_iload_n C (k := 1) dX3_countTones_16 rfl ?_
          refine r_bipush C dX3_countTones_17 (by decide) ?_
          refine r_iremT C dX3_countTones_19 hR (by decide) (by decide) ?_
          refine r_istore_n C (i := 3) (lv' := [(3, vI ((r.tmod 10))), (0, vI (n)), (1, vI (r)), (2, vI (((k : Nat) : Int)))]) dX3_countTones_20 rfl (by decide) rfl ?_
          refine r_iload_n C (k := 0) dX3_countTones_21 rfl ?_
          refine r_iconst C dX3_countTones_22 ?_
          refine r_icmp_eq C (tgt := 33) dX3_countTones_23 (by decide) (by first | exact hR | exact ⟨by decide, by decide⟩ | exact ⟨by omega, by omega⟩) ⟨by decide, by decide⟩ (fun h_3 => ?_) (fun h_3 => ?_)
          · obtain ⟨r0, r1⟩ := tm10 (r := r) (Or.inl (by assumption))
            have hR1 := hR.1
            have hR2 := hR.2
            refine r_iload_n C (k := 2) dX3_countTones_33 rfl ?_
            refine r_bipush C dX3_countTones_34 (by decide) ?_
            refine r_idiv C dX3_countTones_36 (by first | omega | assumption) (by first | omega | assumption) (by first | omega | assumption) (by first | omega | assumption) ?_
            refine r_istore_n C (i := 1) (lv' := [(1, vI ((r / 10))), (3, vI ((r.tmod 10))), (0, vI (n)), (2, vI (((k : Nat) : Int)))]) dX3_countTones_37 rfl (by decide) rfl ?_
            refine r_iinc C (k := 3) (lv' := [(2, vI (((k + 1 : Nat) : Int))), (1, vI ((r / 10))), (3, vI ((r.tmod 10))), (0, vI (n))]) dX3_countTones_38 rfl (by decide) rfl ?_
            refine r_goto C (tgt := 4) dX3_countTones_41 (by decide) ?_
            have e_4 : w = w := by rfl
            refine Wm.sub (lv' := [(0, vI (n)), (1, vI ((r / 10))), (2, vI (((k + 1 : Nat) : Int)))]) [3, 1, 0] rfl ?_
            refine Wm.mem (lv' := [(0, vI (n)), (1, vI ((r / 10))), (2, vI ((((k + 1) : Nat) : Int)))]) e_4 (by rfl) ?_
            exact ih4 ((k + 1)) ((r / 10)) (by omega) (by exact ⟨by omega, by omega⟩) (by rw [← hq]; exact (ctf_n (by omega) (by assumption) (by first | exact Or.inl (by assumption) | exact Or.inr (by assumption))).symm) (by omega) (e_4 ▸ hr)
          · skip
            refine r_iload_n C (k := 0) dX3_countTones_26 rfl ?_
            refine r_iconst C dX3_countTones_27 ?_
            refine r_icmp_eq C (tgt := 33) dX3_countTones_28 (by decide) (by first | exact hR | exact ⟨by decide, by decide⟩ | exact ⟨by omega, by omega⟩) ⟨by decide, by decide⟩ (fun h_5 => ?_) (fun h_5 => ?_)
            · obtain ⟨r0, r1⟩ := tm10 (r := r) (Or.inr (by assumption))
              have hR1 := hR.1
              have hR2 := hR.2
              refine r_iload_n C (k := 2) dX3_countTones_33 rfl ?_
              refine r_bipush C dX3_countTones_34 (by decide) ?_
              refine r_idiv C dX3_countTones_36 (by first | omega | assumption) (by first | omega | assumption) (by first | omega | assumption) (by first | omega | assumption) ?_
              refine r_istore_n C (i := 1) (lv' := [(1, vI ((r / 10))), (3, vI ((r.tmod 10))), (0, vI (n)), (2, vI (((k : Nat) : Int)))]) dX3_countTones_37 rfl (by decide) rfl ?_
              refine r_iinc C (k := 3) (lv' := [(2, vI (((k + 1 : Nat) : Int))), (1, vI ((r / 10))), (3, vI ((r.tmod 10))), (0, vI (n))]) dX3_countTones_38 rfl (by decide) rfl ?_
              refine r_goto C (tgt := 4) dX3_countTones_41 (by decide) ?_
              have e_6 : w = w := by rfl
              refine Wm.sub (lv' := [(0, vI (n)), (1, vI ((r / 10))), (2, vI (((k + 1 : Nat) : Int)))]) [3, 1, 0] rfl ?_
              refine Wm.mem (lv' := [(0, vI (n)), (1, vI ((r / 10))), (2, vI ((((k + 1) : Nat) : Int)))]) e_6 (by rfl) ?_
              exact ih4 ((k + 1)) ((r / 10)) (by omega) (by exact ⟨by omega, by omega⟩) (by rw [← hq]; exact (ctf_n (by omega) (by assumption) (by first | exact Or.inl (by assumption) | exact Or.inr (by assumption))).symm) (by omega) (e_6 ▸ hr)
            · skip
              refine r_iconst C dX3_countTones_31 ?_
              exact r_iret C dX3_countTones_32 (by rw [← hq, ctf_x (by omega) (by assumption) (fun q => q.elim (by assumption) (by assumption))]; rfl) (by first | rfl | (simp [*]; done))
        · skip
          refine r_iload_n C (k := 2) dX3_countTones_14 rfl ?_
          exact r_iret C dX3_countTones_15 (by rw [← hq, ctf_e (by omega) (by assumption)]) (by first | rfl | (simp [*]; done))
  have e_7 : w = w := by rfl
  refine Wm.sub (lv' := [(0, vI (n)), (1, vI (n)), (2, vI (0))]) [2, 1, 0] rfl ?_
  refine Wm.mem (lv' := [(0, vI (n)), (1, vI (n)), (2, vI (((0 : Nat) : Int)))]) e_7 (by rfl) ?_
  exact loop_4 _ (0) (n) (by omega) (by exact hn) (by rfl) (Nat.lt_succ_self _) (e_7 ▸ hr)

set_option maxRecDepth 100000 in
set_option maxHeartbeats 1500000 in
theorem c_X3_checkVillage {l : Launch} {G : Gt} (hG : Gok G) (hl9 : l.stackTraces = false)  {w : Mm} {n : Int} (hn : inR n) : ConX l G yX3_checkVillage wsX3_checkVillage ({ frames := 6, cells := 1, slots := 6, locals := 82 } : Room) w [.ref (adr G (2, 0, 0)), vI n] (if 0 ≤ n ∧ n < w (0, 8, 0) 1 then none else eI) none w 1 6 := by
  refine ConX.head (cc := cX3_checkVillage) (nL := 2) (ret := none) hG (by decide +kernel) rfl (Nat.le_of_ble_eq_true rfl) ?_
  intro B A hBl hxt C hr
  have hB9 : B.2.1.stackTraces = false := by rw [hBl]; exact hl9
  have hr0 := hr
  have hrI := hr
  have hinX0 : ∀ w ∈ u_ws RX0 TX0 7, w ∈ wsX3_checkVillage := by decide +kernel
  have hinX3 : ∀ w ∈ u_ws RX3 TX3 2, w ∈ wsX3_checkVillage := by decide +kernel
  refine r_iload_n C (k := 1) dX3_checkVillage_0 rfl ?_
  refine r_if_lt C (tgt := 15) dX3_checkVillage_1 (by decide) (by first | exact hr _ _ | exact hr0 _ _ | exact hrI _ _ | assumption | exact ⟨by omega, by omega⟩) (fun h_1 => ?_) (fun h_1 => ?_)
  · skip
    exact r_throw C hxt hB9 (ik := 107) (is := 185) (ic := 111) (E := "java/lang/IndexOutOfBoundsException") (text := "no such village") (by (repeat' split) <;> first | rfl | contradiction | (exfalso; omega) | (exfalso; simp_all; done) | (exfalso; simp_all; omega)) rfl (by decide +kernel) (by decide +kernel) (by decide +kernel) (by decide +kernel) (by decide +kernel) (by decide +kernel) (by decide +kernel) dX3_checkVillage_15 dX3_checkVillage_18 dX3_checkVillage_19 dX3_checkVillage_21 dX3_checkVillage_24 (Nat.le_of_ble_eq_true rfl) (Nat.le_of_ble_eq_true rfl) (Nat.le_of_ble_eq_true rfl) (Nat.le_of_ble_eq_true rfl) (Nat.le_of_ble_eq_true rfl) (Nat.le_of_ble_eq_true rfl)
  · skip
    refine r_iload_n C (k := 1) dX3_checkVillage_4 rfl ?_
    refine r_aload_n C (k := 0) dX3_checkVillage_5 rfl ?_
    refine r_getf C 0 (v := .ref (adr G (0, 8, 0))) (ok_of hG (show kd (2, 0, 0) = _ from rfl) (by decide) (show (2 : Nat) ≤ 6 by decide)) (show kd (2, 0, 0) = _ from rfl) (by decide) rfl hinX3 (by decide) (by decide +kernel) rfl rfl dX3_checkVillage_6 ?_
    refine r_getf C 1 (ok_of hG (kdl0 (Nat.zero_le 1)) (by decide) (show (0 : Nat) ≤ 6 by decide)) (kdl0 (Nat.zero_le 1)) (by decide) rfl hinX0 (by decide) (by decide +kernel) rfl rfl dX3_checkVillage_9 ?_
    refine r_icmp_lt C (tgt := 25) dX3_checkVillage_12 (by decide) (by first | exact hr _ _ | exact hr0 _ _ | exact hrI _ _ | assumption | exact ⟨by omega, by omega⟩) (by first | exact hr _ _ | exact hr0 _ _ | exact hrI _ _ | assumption | exact ⟨by omega, by omega⟩) (fun h_2 => ?_) (fun h_2 => ?_)
    · skip
      refine Wm.x (by (repeat' split) <;> first | rfl | contradiction | (exfalso; omega) | (exfalso; simp_all; done) | (exfalso; simp_all; omega)) (Nat.le_of_ble_eq_true rfl) (Nat.le_of_ble_eq_true rfl) ?_
      exact r_vret C dX3_checkVillage_25 (by first | rfl | (simp [*]; done))
    · skip
      exact r_throw C hxt hB9 (ik := 107) (is := 185) (ic := 111) (E := "java/lang/IndexOutOfBoundsException") (text := "no such village") (by (repeat' split) <;> first | rfl | contradiction | (exfalso; omega) | (exfalso; simp_all; done) | (exfalso; simp_all; omega)) rfl (by decide +kernel) (by decide +kernel) (by decide +kernel) (by decide +kernel) (by decide +kernel) (by decide +kernel) (by decide +kernel) dX3_checkVillage_15 dX3_checkVillage_18 dX3_checkVillage_19 dX3_checkVillage_21 dX3_checkVillage_24 (Nat.le_of_ble_eq_true rfl) (Nat.le_of_ble_eq_true rfl) (Nat.le_of_ble_eq_true rfl) (Nat.le_of_ble_eq_true rfl) (Nat.le_of_ble_eq_true rfl) (Nat.le_of_ble_eq_true rfl)

set_option maxRecDepth 100000 in
set_option maxHeartbeats 1500000 in
theorem c_X3_checkPhrase {l : Launch} {G : Gt} (hG : Gok G) (hl9 : l.stackTraces = false)  {w : Mm} {n : Int} (hn : inR n) : ConX l G yX3_checkPhrase wsX3_checkPhrase ({ frames := 6, cells := 1, slots := 6, locals := 82 } : Room) w [.ref (adr G (2, 0, 0)), vI n] (if 0 ≤ n ∧ n < w (0, 8, 0) 4 then none else eI) none w 1 6 := by
  refine ConX.head (cc := cX3_checkPhrase) (nL := 2) (ret := none) hG (by decide +kernel) rfl (Nat.le_of_ble_eq_true rfl) ?_
  intro B A hBl hxt C hr
  have hB9 : B.2.1.stackTraces = false := by rw [hBl]; exact hl9
  have hr0 := hr
  have hrI := hr
  have hinX0 : ∀ w ∈ u_ws RX0 TX0 7, w ∈ wsX3_checkPhrase := by decide +kernel
  have hinX3 : ∀ w ∈ u_ws RX3 TX3 2, w ∈ wsX3_checkPhrase := by decide +kernel
  refine r_iload_n C (k := 1) dX3_checkPhrase_0 rfl ?_
  refine r_if_lt C (tgt := 15) dX3_checkPhrase_1 (by decide) (by first | exact hr _ _ | exact hr0 _ _ | exact hrI _ _ | assumption | exact ⟨by omega, by omega⟩) (fun h_1 => ?_) (fun h_1 => ?_)
  · skip
    exact r_throw C hxt hB9 (ik := 107) (is := 187) (ic := 111) (E := "java/lang/IndexOutOfBoundsException") (text := "no such phrase") (by (repeat' split) <;> first | rfl | contradiction | (exfalso; omega) | (exfalso; simp_all; done) | (exfalso; simp_all; omega)) rfl (by decide +kernel) (by decide +kernel) (by decide +kernel) (by decide +kernel) (by decide +kernel) (by decide +kernel) (by decide +kernel) dX3_checkPhrase_15 dX3_checkPhrase_18 dX3_checkPhrase_19 dX3_checkPhrase_21 dX3_checkPhrase_24 (Nat.le_of_ble_eq_true rfl) (Nat.le_of_ble_eq_true rfl) (Nat.le_of_ble_eq_true rfl) (Nat.le_of_ble_eq_true rfl) (Nat.le_of_ble_eq_true rfl) (Nat.le_of_ble_eq_true rfl)
  · skip
    refine r_iload_n C (k := 1) dX3_checkPhrase_4 rfl ?_
    refine r_aload_n C (k := 0) dX3_checkPhrase_5 rfl ?_
    refine r_getf C 0 (v := .ref (adr G (0, 8, 0))) (ok_of hG (show kd (2, 0, 0) = _ from rfl) (by decide) (show (2 : Nat) ≤ 6 by decide)) (show kd (2, 0, 0) = _ from rfl) (by decide) rfl hinX3 (by decide) (by decide +kernel) rfl rfl dX3_checkPhrase_6 ?_
    refine r_getf C 4 (ok_of hG (kdl0 (Nat.zero_le 1)) (by decide) (show (0 : Nat) ≤ 6 by decide)) (kdl0 (Nat.zero_le 1)) (by decide) rfl hinX0 (by decide) (by decide +kernel) rfl rfl dX3_checkPhrase_9 ?_
    refine r_icmp_lt C (tgt := 25) dX3_checkPhrase_12 (by decide) (by first | exact hr _ _ | exact hr0 _ _ | exact hrI _ _ | assumption | exact ⟨by omega, by omega⟩) (by first | exact hr _ _ | exact hr0 _ _ | exact hrI _ _ | assumption | exact ⟨by omega, by omega⟩) (fun h_2 => ?_) (fun h_2 => ?_)
    · skip
      refine Wm.x (by (repeat' split) <;> first | rfl | contradiction | (exfalso; omega) | (exfalso; simp_all; done) | (exfalso; simp_all; omega)) (Nat.le_of_ble_eq_true rfl) (Nat.le_of_ble_eq_true rfl) ?_
      exact r_vret C dX3_checkPhrase_25 (by first | rfl | (simp [*]; done))
    · skip
      exact r_throw C hxt hB9 (ik := 107) (is := 187) (ic := 111) (E := "java/lang/IndexOutOfBoundsException") (text := "no such phrase") (by (repeat' split) <;> first | rfl | contradiction | (exfalso; omega) | (exfalso; simp_all; done) | (exfalso; simp_all; omega)) rfl (by decide +kernel) (by decide +kernel) (by decide +kernel) (by decide +kernel) (by decide +kernel) (by decide +kernel) (by decide +kernel) dX3_checkPhrase_15 dX3_checkPhrase_18 dX3_checkPhrase_19 dX3_checkPhrase_21 dX3_checkPhrase_24 (Nat.le_of_ble_eq_true rfl) (Nat.le_of_ble_eq_true rfl) (Nat.le_of_ble_eq_true rfl) (Nat.le_of_ble_eq_true rfl) (Nat.le_of_ble_eq_true rfl) (Nat.le_of_ble_eq_true rfl)

set_option maxRecDepth 100000 in
set_option maxHeartbeats 1500000 in
theorem c_X3_villageOf {l : Launch} {G : Gt} (hG : Gok G) (hl9 : l.stackTraces = false)  {w : Mm} {n : Int} (hn : inR n) (hvb : 0 ≤ w (0, 8, 0) 1 ∧ w (0, 8, 0) 1 ≤ 8) : ConX l G yX3_villageOf wsX3_villageOf ({ frames := 7, cells := 1, slots := 6, locals := 103 } : Room) w [.ref (adr G (2, 0, 0)), vI n] (if 0 ≤ n ∧ n < w (0, 8, 0) 1 then none else eI) (some (.ref (adr G (0, (n).toNat, 0)))) w 1 6 := by
  refine ConX.head (cc := cX3_villageOf) (nL := 2) (ret := (some (.object "DrumTalk$Village"))) hG (by decide +kernel) rfl (Nat.le_of_ble_eq_true rfl) ?_
  intro B A hBl hxt C hr
  have hB9 : B.2.1.stackTraces = false := by rw [hBl]; exact hl9
  have hr0 := hr
  have hrI := hr
  have hinX0 : ∀ w ∈ u_ws RX0 TX0 7, w ∈ wsX3_villageOf := by decide +kernel
  have hinX3 : ∀ w ∈ u_ws RX3 TX3 2, w ∈ wsX3_villageOf := by decide +kernel
  obtain ⟨y1, y2⟩ := hvb
  refine r_aload_n C (k := 0) dX3_villageOf_0 rfl ?_
  refine r_iload_n C (k := 1) dX3_villageOf_1 rfl ?_
  refine r_callVX C hxt (w' := w) [vI (n)] 1 (c_X3_checkVillage hG hB9 (by first | assumption | omega | exact hr _ _ | exact hr0 _ _ | exact hrI _ _ | exact ⟨by omega, by omega⟩ | exact bI_inR _ | (simp [st1] <;> omega) | exact rowR.so (by assumption) (by simp))) (by intro E9 h9; revert h9; (repeat' split) <;> first | exact fun h => h | (exfalso; omega) | (intro h; cases h; done) | (exfalso; simp_all; done)) rfl (Nat.le_of_ble_eq_true rfl) (Nat.le_of_ble_eq_true rfl) gX3_villageOf_X3_checkVillage rfl rfl rfl (by decide +kernel) (Nat.le_of_ble_eq_true rfl) (Nat.le_of_ble_eq_true rfl) ⟨(Nat.le_of_ble_eq_true rfl), (Nat.le_of_ble_eq_true rfl)⟩ (ok_of hG (show kd (2, 0, 0) = _ from rfl) (by decide) (show (2 : Nat) ≤ 6 by decide)) (show kd (2, 0, 0) = _ from rfl) (by decide) rfl rfl rfl (Nat.le_of_ble_eq_true rfl) (st' := []) rfl dX3_villageOf_2 (fun ho9 hr => ?_)
  obtain ⟨xa_1, xb_1⟩ := iteN ho9
  refine r_aload_n C (k := 0) dX3_villageOf_5 rfl ?_
  refine r_getf C 0 (v := .ref (adr G (0, 8, 0))) (ok_of hG (show kd (2, 0, 0) = _ from rfl) (by decide) (show (2 : Nat) ≤ 6 by decide)) (show kd (2, 0, 0) = _ from rfl) (by decide) rfl hinX3 (by decide) (by decide +kernel) rfl rfl dX3_villageOf_6 ?_
  refine r_getf C 0 (v := .ref (adr G (0, 8, 3))) (ok_of hG (kdl0 (Nat.zero_le 1)) (by decide) (show (0 : Nat) ≤ 6 by decide)) (kdl0 (Nat.zero_le 1)) (by decide) rfl hinX0 (by decide) (by decide +kernel) rfl rfl dX3_villageOf_9 ?_
  refine r_iload_n C (k := 1) dX3_villageOf_12 rfl ?_
  refine r_aald C ((n).toNat) (ok_of hG (kdl3 (Nat.zero_le 1)) (by decide) (show (0 : Nat) ≤ 6 by decide)) (Nat.zero_le 1) (Int.toNat_of_nonneg (by first | omega | assumption)).symm (by first | omega | assumption) dX3_villageOf_13 ?_
  refine Wm.x (by (repeat' split) <;> first | rfl | contradiction | (exfalso; omega) | (exfalso; simp_all; done) | (exfalso; simp_all; omega)) (Nat.le_of_ble_eq_true rfl) (Nat.le_of_ble_eq_true rfl) ?_
  exact r_aret C ⟨_, rfl⟩ dX3_villageOf_14 rfl rfl

set_option maxRecDepth 100000 in
set_option maxHeartbeats 1500000 in
theorem c_X3_found {l : Launch} {G : Gt} (hG : Gok G) (hl9 : l.stackTraces = false)  {w : Mm} {x : Int} {y : Int} {d : Int} (hx : inR x) (hy : inR y) (hd : inR d) (hvb : 0 ≤ w (0, 8, 0) 1 ∧ w (0, 8, 0) 1 ≤ 8) : ConX l G yX3_found wsX3_found ({ frames := 6, cells := 1, slots := 6, locals := 82 } : Room) w [.ref (adr G (2, 0, 0)), vI x, vI y, vI d] ((if (0 ≤ x ∧ x ≤ 30) ∧ (0 ≤ y ∧ y ≤ 30) ∧ (1 ≤ d ∧ d ≤ 9) then (if w (0, 8, 0) 1 < 8 ∧ ¬ s0has w 0 x y then none else eS) else eA)) (some (vI (w (0, 8, 0) 1))) (s0addV w 0 x y d) 1 6 := by
  refine ConX.head (cc := cX3_found) (nL := 4) (ret := (some .int)) hG (by decide +kernel) rfl (Nat.le_of_ble_eq_true rfl) ?_
  intro B A hBl hxt C hr
  have hB9 : B.2.1.stackTraces = false := by rw [hBl]; exact hl9
  have hr0 := hr
  have hrI := hr
  have hinX0 : ∀ w ∈ u_ws RX0 TX0 7, w ∈ wsX3_found := by decide +kernel
  have hinX3 : ∀ w ∈ u_ws RX3 TX3 2, w ∈ wsX3_found := by decide +kernel
  obtain ⟨y1, y2⟩ := hvb
  refine r_iload_n C (k := 1) dX3_found_0 rfl ?_
  refine r_callS C (w' := w) [vI (x)] 1 (c_X3_isPlace hG (by first | assumption | omega | exact hr _ _ | exact hr0 _ _ | exact hrI _ _ | exact ⟨by omega, by omega⟩ | exact bI_inR _ | (simp [st1] <;> omega) | exact rowR.so (by assumption) (by simp))) gX3_found_X3_isPlace rfl rfl rfl (by decide +kernel) (Nat.le_of_ble_eq_true rfl) (Nat.le_of_ble_eq_true rfl) ⟨(Nat.le_of_ble_eq_true rfl), (Nat.le_of_ble_eq_true rfl)⟩ rfl rfl (Nat.le_of_ble_eq_true rfl) (st' := [vI (bI (0 ≤ (x) ∧ (x) ≤ 30))]) rfl dX3_found_1 (fun hr => ?_)
  refine r_if_eqP C (P := 0 ≤ (x) ∧ (x) ≤ 30) (tgt := 21) dX3_found_4 (by decide) (fun h_1 => ?_) (fun h_1 => ?_)
  · skip
    exact r_throw C hxt hB9 (ik := 26) (is := 28) (ic := 30) (E := "java/lang/IllegalArgumentException") (text := "a place is 0 to 30, a drum 1 to 9") (by (repeat' split) <;> first | rfl | contradiction | (exfalso; omega) | (exfalso; simp_all; done) | (exfalso; simp_all; omega)) rfl (by decide +kernel) (by decide +kernel) (by decide +kernel) (by decide +kernel) (by decide +kernel) (by decide +kernel) (by decide +kernel) dX3_found_21 dX3_found_24 dX3_found_25 dX3_found_27 dX3_found_30 (Nat.le_of_ble_eq_true rfl) (Nat.le_of_ble_eq_true rfl) (Nat.le_of_ble_eq_true rfl) (Nat.le_of_ble_eq_true rfl) (Nat.le_of_ble_eq_true rfl) (Nat.le_of_ble_eq_true rfl)
  · skip
    refine r_iload_n C (k := 2) dX3_found_7 rfl ?_
    refine r_callS C (w' := w) [vI (y)] 1 (c_X3_isPlace hG (by first | assumption | omega | exact hr _ _ | exact hr0 _ _ | exact hrI _ _ | exact ⟨by omega, by omega⟩ | exact bI_inR _ | (simp [st1] <;> omega) | exact rowR.so (by assumption) (by simp))) gX3_found_X3_isPlace rfl rfl rfl (by decide +kernel) (Nat.le_of_ble_eq_true rfl) (Nat.le_of_ble_eq_true rfl) ⟨(Nat.le_of_ble_eq_true rfl), (Nat.le_of_ble_eq_true rfl)⟩ rfl rfl (Nat.le_of_ble_eq_true rfl) (st' := [vI (bI (0 ≤ (y) ∧ (y) ≤ 30))]) rfl dX3_found_8 (fun hr => ?_)
    refine r_if_eqP C (P := 0 ≤ (y) ∧ (y) ≤ 30) (tgt := 21) dX3_found_11 (by decide) (fun h_2 => ?_) (fun h_2 => ?_)
    · skip
      exact r_throw C hxt hB9 (ik := 26) (is := 28) (ic := 30) (E := "java/lang/IllegalArgumentException") (text := "a place is 0 to 30, a drum 1 to 9") (by (repeat' split) <;> first | rfl | contradiction | (exfalso; omega) | (exfalso; simp_all; done) | (exfalso; simp_all; omega)) rfl (by decide +kernel) (by decide +kernel) (by decide +kernel) (by decide +kernel) (by decide +kernel) (by decide +kernel) (by decide +kernel) dX3_found_21 dX3_found_24 dX3_found_25 dX3_found_27 dX3_found_30 (Nat.le_of_ble_eq_true rfl) (Nat.le_of_ble_eq_true rfl) (Nat.le_of_ble_eq_true rfl) (Nat.le_of_ble_eq_true rfl) (Nat.le_of_ble_eq_true rfl) (Nat.le_of_ble_eq_true rfl)
    · skip
      refine r_iload_n C (k := 3) dX3_found_14 rfl ?_
      refine r_callS C (w' := w) [vI (d)] 1 (c_X3_isDrum hG (by first | assumption | omega | exact hr _ _ | exact hr0 _ _ | exact hrI _ _ | exact ⟨by omega, by omega⟩ | exact bI_inR _ | (simp [st1] <;> omega) | exact rowR.so (by assumption) (by simp))) gX3_found_X3_isDrum rfl rfl rfl (by decide +kernel) (Nat.le_of_ble_eq_true rfl) (Nat.le_of_ble_eq_true rfl) ⟨(Nat.le_of_ble_eq_true rfl), (Nat.le_of_ble_eq_true rfl)⟩ rfl rfl (Nat.le_of_ble_eq_true rfl) (st' := [vI (bI (1 ≤ (d) ∧ (d) ≤ 9))]) rfl dX3_found_15 (fun hr => ?_)
      refine r_if_neP C (P := 1 ≤ (d) ∧ (d) ≤ 9) (tgt := 31) dX3_found_18 (by decide) (fun h_3 => ?_) (fun h_3 => ?_)
      · skip
        refine r_aload_n C (k := 0) dX3_found_31 rfl ?_
        refine r_getf C 0 (v := .ref (adr G (0, 8, 0))) (ok_of hG (show kd (2, 0, 0) = _ from rfl) (by decide) (show (2 : Nat) ≤ 6 by decide)) (show kd (2, 0, 0) = _ from rfl) (by decide) rfl hinX3 (by decide) (by decide +kernel) rfl rfl dX3_found_32 ?_
        refine r_getf C 1 (ok_of hG (kdl0 (Nat.zero_le 1)) (by decide) (show (0 : Nat) ≤ 6 by decide)) (kdl0 (Nat.zero_le 1)) (by decide) rfl hinX0 (by decide) (by decide +kernel) rfl rfl dX3_found_35 ?_
        refine r_bipush C dX3_found_38 (by decide) ?_
        refine r_icmp_ge C (tgt := 55) dX3_found_40 (by decide) (by first | exact hr _ _ | exact hr0 _ _ | exact hrI _ _ | assumption | exact ⟨by omega, by omega⟩) ⟨by decide, by decide⟩ (fun h_4 => ?_) (fun h_4 => ?_)
        · skip
          exact r_throw C hxt hB9 (ik := 41) (is := 43) (ic := 45) (E := "java/lang/IllegalStateException") (text := "there are 8 villages, or one is at this place") (by (repeat' split) <;> first | rfl | contradiction | (exfalso; omega) | (exfalso; simp_all; done) | (exfalso; simp_all; omega)) rfl (by decide +kernel) (by decide +kernel) (by decide +kernel) (by decide +kernel) (by decide +kernel) (by decide +kernel) (by decide +kernel) dX3_found_55 dX3_found_58 dX3_found_59 dX3_found_61 dX3_found_64 (Nat.le_of_ble_eq_true rfl) (Nat.le_of_ble_eq_true rfl) (Nat.le_of_ble_eq_true rfl) (Nat.le_of_ble_eq_true rfl) (Nat.le_of_ble_eq_true rfl) (Nat.le_of_ble_eq_true rfl)
        · skip
          refine r_aload_n C (k := 0) dX3_found_43 rfl ?_
          refine r_getf C 0 (v := .ref (adr G (0, 8, 0))) (ok_of hG (show kd (2, 0, 0) = _ from rfl) (by decide) (show (2 : Nat) ≤ 6 by decide)) (show kd (2, 0, 0) = _ from rfl) (by decide) rfl hinX3 (by decide) (by decide +kernel) rfl rfl dX3_found_44 ?_
          refine r_iload_n C (k := 1) dX3_found_47 rfl ?_
          refine r_iload_n C (k := 2) dX3_found_48 rfl ?_
          refine r_callV C (w' := w) [vI (x), vI (y)] 2 (c_X0_hasVillageAt hG (Nat.zero_le 1) (by first | assumption | omega | exact hr _ _ | exact hr0 _ _ | exact hrI _ _ | exact ⟨by omega, by omega⟩ | exact bI_inR _ | (simp [st1] <;> omega) | exact rowR.so (by assumption) (by simp)) (by first | assumption | omega | exact hr _ _ | exact hr0 _ _ | exact hrI _ _ | exact ⟨by omega, by omega⟩ | exact bI_inR _ | (simp [st1] <;> omega) | exact rowR.so (by assumption) (by simp)) (by first | assumption | omega | exact hr _ _ | exact hr0 _ _ | exact hrI _ _ | exact ⟨by omega, by omega⟩ | exact bI_inR _ | (simp [st1] <;> omega) | exact rowR.so (by assumption) (by simp))) gX3_found_X0_hasVillageAt rfl rfl rfl (by decide +kernel) (Nat.le_of_ble_eq_true rfl) (Nat.le_of_ble_eq_true rfl) ⟨(Nat.le_of_ble_eq_true rfl), (Nat.le_of_ble_eq_true rfl)⟩ (ok_of hG (kdl0 (Nat.zero_le 1)) (by decide) (show (0 : Nat) ≤ 6 by decide)) (kdl0 (Nat.zero_le 1)) (by decide) rfl rfl rfl (Nat.le_of_ble_eq_true rfl) (st' := [vI (bI (s0has w 0 (x) (y)))]) rfl dX3_found_49 (fun hr => ?_)
          refine r_if_eqP C (P := s0has w 0 (x) (y)) (tgt := 65) dX3_found_52 (by decide) (fun h_5 => ?_) (fun h_5 => ?_)
          · skip
            refine r_aload_n C (k := 0) dX3_found_65 rfl ?_
            refine r_getf C 0 (v := .ref (adr G (0, 8, 0))) (ok_of hG (show kd (2, 0, 0) = _ from rfl) (by decide) (show (2 : Nat) ≤ 6 by decide)) (show kd (2, 0, 0) = _ from rfl) (by decide) rfl hinX3 (by decide) (by decide +kernel) rfl rfl dX3_found_66 ?_
            refine r_iload_n C (k := 1) dX3_found_69 rfl ?_
            refine r_iload_n C (k := 2) dX3_found_70 rfl ?_
            refine r_iload_n C (k := 3) dX3_found_71 rfl ?_
            refine r_callV C (w' := (s0addV w 0 (x) (y) (d))) [vI (x), vI (y), vI (d)] 3 (c_X0_addVillage hG (Nat.zero_le 1) (by first | assumption | omega | exact hr _ _ | exact hr0 _ _ | exact hrI _ _ | exact ⟨by omega, by omega⟩ | exact bI_inR _ | (simp [st1] <;> omega) | exact rowR.so (by assumption) (by simp)) (by first | assumption | omega | exact hr _ _ | exact hr0 _ _ | exact hrI _ _ | exact ⟨by omega, by omega⟩ | exact bI_inR _ | (simp [st1] <;> omega) | exact rowR.so (by assumption) (by simp)) (by first | assumption | omega | exact hr _ _ | exact hr0 _ _ | exact hrI _ _ | exact ⟨by omega, by omega⟩ | exact bI_inR _ | (simp [st1] <;> omega) | exact rowR.so (by assumption) (by simp)) (by first | assumption | omega | exact hr _ _ | exact hr0 _ _ | exact hrI _ _ | exact ⟨by omega, by omega⟩ | exact bI_inR _ | (simp [st1] <;> omega) | exact rowR.so (by assumption) (by simp))) gX3_found_X0_addVillage rfl rfl rfl (by decide +kernel) (Nat.le_of_ble_eq_true rfl) (Nat.le_of_ble_eq_true rfl) ⟨(Nat.le_of_ble_eq_true rfl), (Nat.le_of_ble_eq_true rfl)⟩ (ok_of hG (kdl0 (Nat.zero_le 1)) (by decide) (show (0 : Nat) ≤ 6 by decide)) (kdl0 (Nat.zero_le 1)) (by decide) rfl rfl rfl (Nat.le_of_ble_eq_true rfl) (st' := [vI ((if w (0, 8, 0) 1 < 8 then w (0, 8, 0) 1 else -1))]) rfl dX3_found_72 (fun hr => ?_)
            refine Wm.x (by (repeat' split) <;> first | rfl | contradiction | (exfalso; omega) | (exfalso; simp_all; done) | (exfalso; simp_all; omega)) (Nat.le_of_ble_eq_true rfl) (Nat.le_of_ble_eq_true rfl) ?_
            exact r_iret C dX3_found_75 (by rw [if_pos (by omega)]) (by first | rfl | (simp [*]; done))
          · skip
            exact r_throw C hxt hB9 (ik := 41) (is := 43) (ic := 45) (E := "java/lang/IllegalStateException") (text := "there are 8 villages, or one is at this place") (by (repeat' split) <;> first | rfl | contradiction | (exfalso; omega) | (exfalso; simp_all; done) | (exfalso; simp_all; omega)) rfl (by decide +kernel) (by decide +kernel) (by decide +kernel) (by decide +kernel) (by decide +kernel) (by decide +kernel) (by decide +kernel) dX3_found_55 dX3_found_58 dX3_found_59 dX3_found_61 dX3_found_64 (Nat.le_of_ble_eq_true rfl) (Nat.le_of_ble_eq_true rfl) (Nat.le_of_ble_eq_true rfl) (Nat.le_of_ble_eq_true rfl) (Nat.le_of_ble_eq_true rfl) (Nat.le_of_ble_eq_true rfl)
      · skip
        exact r_throw C hxt hB9 (ik := 26) (is := 28) (ic := 30) (E := "java/lang/IllegalArgumentException") (text := "a place is 0 to 30, a drum 1 to 9") (by (repeat' split) <;> first | rfl | contradiction | (exfalso; omega) | (exfalso; simp_all; done) | (exfalso; simp_all; omega)) rfl (by decide +kernel) (by decide +kernel) (by decide +kernel) (by decide +kernel) (by decide +kernel) (by decide +kernel) (by decide +kernel) dX3_found_21 dX3_found_24 dX3_found_25 dX3_found_27 dX3_found_30 (Nat.le_of_ble_eq_true rfl) (Nat.le_of_ble_eq_true rfl) (Nat.le_of_ble_eq_true rfl) (Nat.le_of_ble_eq_true rfl) (Nat.le_of_ble_eq_true rfl) (Nat.le_of_ble_eq_true rfl)

set_option maxRecDepth 100000 in
set_option maxHeartbeats 1500000 in
theorem c_X3_setDrum {l : Launch} {G : Gt} (hG : Gok G) (hl9 : l.stackTraces = false)  {w : Mm} {v : Int} {d : Int} {N D : Int} {X : Nat → Int} (hv : inR v) (hd : inR d) (hL : LI w 0 N D X) : ConX l G yX3_setDrum wsX3_setDrum ({ frames := 8, cells := 2, slots := 12, locals := 124 } : Room) w [.ref (adr G (2, 0, 0)), vI v, vI d] ((if lV w v then (if 1 ≤ d ∧ d ≤ 9 then none else eA) else eI)) (some (vI (w (0, (v).toNat, 0) 2))) (st1 w (0, (v).toNat, 0) 2 d) 2 12 := by
  refine ConX.head (cc := cX3_setDrum) (nL := 5) (ret := (some .int)) hG (by decide +kernel) rfl (Nat.le_of_ble_eq_true rfl) ?_
  intro B A hBl hxt C hr
  have hB9 : B.2.1.stackTraces = false := by rw [hBl]; exact hl9
  have hr0 := hr
  have hrI := hr
  have hinX2 : ∀ w ∈ u_ws RX2 TX2 13, w ∈ wsX3_setDrum := by decide +kernel
  have hL0 := hL
  obtain ⟨⟨v1, v2⟩, ⟨p1, p2⟩, ⟨b1, b2⟩, ⟨d1, d2⟩, htc, hvs⟩ := hL
  refine r_aload_n C (k := 0) dX3_setDrum_0 rfl ?_
  refine r_iload_n C (k := 1) dX3_setDrum_1 rfl ?_
  refine r_callVX C hxt (w' := w) [vI (v)] 1 (c_X3_villageOf hG hB9 (by first | assumption | omega | exact hr _ _ | exact hr0 _ _ | exact hrI _ _ | exact ⟨by omega, by omega⟩ | exact bI_inR _ | (simp [st1] <;> omega) | exact rowR.so (by assumption) (by simp)) (by first | assumption | omega | exact hr _ _ | exact hr0 _ _ | exact hrI _ _ | exact ⟨by omega, by omega⟩ | exact bI_inR _ | (simp [st1] <;> omega) | exact rowR.so (by assumption) (by simp))) (by intro E9 h9; revert h9; (repeat' split) <;> first | exact fun h => h | (exfalso; omega) | (intro h; cases h; done) | (exfalso; simp_all; done)) rfl (Nat.le_of_ble_eq_true rfl) (Nat.le_of_ble_eq_true rfl) gX3_setDrum_X3_villageOf rfl rfl rfl (by decide +kernel) (Nat.le_of_ble_eq_true rfl) (Nat.le_of_ble_eq_true rfl) ⟨(Nat.le_of_ble_eq_true rfl), (Nat.le_of_ble_eq_true rfl)⟩ (ok_of hG (show kd (2, 0, 0) = _ from rfl) (by decide) (show (2 : Nat) ≤ 6 by decide)) (show kd (2, 0, 0) = _ from rfl) (by decide) rfl rfl rfl (Nat.le_of_ble_eq_true rfl) (st' := [.ref (adr G (0, ((v)).toNat, 0))]) rfl dX3_setDrum_2 (fun ho9 hr => ?_)
  obtain ⟨xa_1, xb_1⟩ := iteN ho9
  have hn8 : ¬ (v).toNat = 8 := by omega
  have hn9 : ¬ 8 = (v).toNat := by omega
  obtain ⟨k1, k2, k3, k4, k5, k6, k7, k8, k9, k10⟩ := hL0.v (v := (v).toNat) (by omega)
  refine r_astore_n C (i := 3) (lv' := [(3, .ref (adr G (0, ((v)).toNat, 0))), (0, .ref (adr G (2, 0, 0))), (1, vI (v)), (2, vI (d))]) dX3_setDrum_5 rfl (by decide) rfl ?_
  refine r_iload_n C (k := 3) dX3_setDrum_6 rfl ?_
  refine r_callS C (w' := w) [vI (d)] 1 (c_X3_isDrum hG (by first | assumption | omega | exact hr _ _ | exact hr0 _ _ | exact hrI _ _ | exact ⟨by omega, by omega⟩ | exact bI_inR _ | (simp [st1] <;> omega) | exact rowR.so (by assumption) (by simp))) gX3_setDrum_X3_isDrum rfl rfl rfl (by decide +kernel) (Nat.le_of_ble_eq_true rfl) (Nat.le_of_ble_eq_true rfl) ⟨(Nat.le_of_ble_eq_true rfl), (Nat.le_of_ble_eq_true rfl)⟩ rfl rfl (Nat.le_of_ble_eq_true rfl) (st' := [vI (bI (1 ≤ (d) ∧ (d) ≤ 9))]) rfl dX3_setDrum_7 (fun hr => ?_)
  refine r_if_neP C (P := 1 ≤ (d) ∧ (d) ≤ 9) (tgt := 23) dX3_setDrum_10 (by decide) (fun h_2 => ?_) (fun h_2 => ?_)
  · skip
    refine r_aload_n C (k := 0) dX3_setDrum_23 rfl ?_
    refine r_getf C 2 (ok_of hG (kdv0 (Nat.zero_le 1) (by omega)) (by decide) (show (0 : Nat) ≤ 6 by decide)) (kdv0 (Nat.zero_le 1) (by omega)) (by decide) rfl hinX2 (by decide) (by decide +kernel) rfl rfl dX3_setDrum_24 ?_
    refine r_istore C (i := 4) (lv' := [(4, vI (w (0, ((v)).toNat, 0) (2))), (3, .ref (adr G (0, ((v)).toNat, 0))), (0, .ref (adr G (2, 0, 0))), (1, vI (v)), (2, vI (d))]) dX3_setDrum_27 (by decide) rfl ?_
    refine r_aload_n C (k := 1) dX3_setDrum_29 rfl ?_
    refine r_iload_n C (k := 4) dX3_setDrum_30 rfl ?_
    refine r_putf C 2 hr (by first | exact hr _ _ | exact hr0 _ _ | exact hrI _ _ | assumption | exact ⟨by omega, by omega⟩) (ok_of hG (kdv0 (Nat.zero_le 1) (by omega)) (by decide) (show (0 : Nat) ≤ 6 by decide)) (kdv0 (Nat.zero_le 1) (by omega)) (by decide) rfl hinX2 tyX2_ok nmX2 (by decide) (by decide +kernel) rfl rfl (ty := .int) (by decide +kernel) rfl rfl rfl (Nat.le_of_ble_eq_true rfl) dX3_setDrum_31 (fun hr => ?_)
    refine r_iload C (k := 0) dX3_setDrum_34 rfl ?_
    refine Wm.x (by (repeat' split) <;> first | rfl | contradiction | (exfalso; omega) | (exfalso; simp_all; done) | (exfalso; simp_all; omega)) (Nat.le_of_ble_eq_true rfl) (Nat.le_of_ble_eq_true rfl) ?_
    exact r_iret C dX3_setDrum_36 (by first | rfl | (simp [*]; done)) (by first | rfl | (simp [*]; done))
  · skip
    exact r_throw C hxt hB9 (ik := 26) (is := 54) (ic := 30) (E := "java/lang/IllegalArgumentException") (text := "a drum is 1 to 9") (by (repeat' split) <;> first | rfl | contradiction | (exfalso; omega) | (exfalso; simp_all; done) | (exfalso; simp_all; omega)) rfl (by decide +kernel) (by decide +kernel) (by decide +kernel) (by decide +kernel) (by decide +kernel) (by decide +kernel) (by decide +kernel) dX3_setDrum_13 dX3_setDrum_16 dX3_setDrum_17 dX3_setDrum_19 dX3_setDrum_22 (Nat.le_of_ble_eq_true rfl) (Nat.le_of_ble_eq_true rfl) (Nat.le_of_ble_eq_true rfl) (Nat.le_of_ble_eq_true rfl) (Nat.le_of_ble_eq_true rfl) (Nat.le_of_ble_eq_true rfl)

set_option maxRecDepth 100000 in
set_option maxHeartbeats 1500000 in
theorem c_X3_setCliff {l : Launch} {G : Gt} (hG : Gok G) (hl9 : l.stackTraces = false)  {w : Mm} {v : Int} {d : Int} {N D : Int} {X : Nat → Int} (hv : inR v) (hd : d = 0 ∨ d = 1) (hL : LI w 0 N D X) : ConX l G yX3_setCliff wsX3_setCliff ({ frames := 8, cells := 1, slots := 6, locals := 124 } : Room) w [.ref (adr G (2, 0, 0)), vI v, vI d] ((if lV w v then none else eI)) (some (vI (bI (w (0, (v).toNat, 0) 3 = 1)))) (st1 w (0, (v).toNat, 0) 3 d) 1 6 := by
  refine ConX.head (cc := cX3_setCliff) (nL := 5) (ret := (some .boolean)) hG (by decide +kernel) rfl (Nat.le_of_ble_eq_true rfl) ?_
  intro B A hBl hxt C hr
  have hB9 : B.2.1.stackTraces = false := by rw [hBl]; exact hl9
  have hr0 := hr
  have hrI := hr
  have hinX2 : ∀ w ∈ u_ws RX2 TX2 13, w ∈ wsX3_setCliff := by decide +kernel
  have hL0 := hL
  obtain ⟨⟨v1, v2⟩, ⟨p1, p2⟩, ⟨b1, b2⟩, ⟨d1, d2⟩, htc, hvs⟩ := hL
  refine r_aload_n C (k := 0) dX3_setCliff_0 rfl ?_
  refine r_iload_n C (k := 1) dX3_setCliff_1 rfl ?_
  refine r_callVX C hxt (w' := w) [vI (v)] 1 (c_X3_villageOf hG hB9 (by first | assumption | omega | exact hr _ _ | exact hr0 _ _ | exact hrI _ _ | exact ⟨by omega, by omega⟩ | exact bI_inR _ | (simp [st1] <;> omega) | exact rowR.so (by assumption) (by simp)) (by first | assumption | omega | exact hr _ _ | exact hr0 _ _ | exact hrI _ _ | exact ⟨by omega, by omega⟩ | exact bI_inR _ | (simp [st1] <;> omega) | exact rowR.so (by assumption) (by simp))) (by intro E9 h9; revert h9; (repeat' split) <;> first | exact fun h => h | (exfalso; omega) | (intro h; cases h; done) | (exfalso; simp_all; done)) rfl (Nat.le_of_ble_eq_true rfl) (Nat.le_of_ble_eq_true rfl) gX3_setCliff_X3_villageOf rfl rfl rfl (by decide +kernel) (Nat.le_of_ble_eq_true rfl) (Nat.le_of_ble_eq_true rfl) ⟨(Nat.le_of_ble_eq_true rfl), (Nat.le_of_ble_eq_true rfl)⟩ (ok_of hG (show kd (2, 0, 0) = _ from rfl) (by decide) (show (2 : Nat) ≤ 6 by decide)) (show kd (2, 0, 0) = _ from rfl) (by decide) rfl rfl rfl (Nat.le_of_ble_eq_true rfl) (st' := [.ref (adr G (0, ((v)).toNat, 0))]) rfl dX3_setCliff_2 (fun ho9 hr => ?_)
  obtain ⟨xa_1, xb_1⟩ := iteN ho9
  have hn8 : ¬ (v).toNat = 8 := by omega
  have hn9 : ¬ 8 = (v).toNat := by omega
  obtain ⟨k1, k2, k3, k4, k5, k6, k7, k8, k9, k10⟩ := hL0.v (v := (v).toNat) (by omega)
  refine r_astore_n C (i := 3) (lv' := [(3, .ref (adr G (0, ((v)).toNat, 0))), (0, .ref (adr G (2, 0, 0))), (1, vI (v)), (2, vI (d))]) dX3_setCliff_5 rfl (by decide) rfl ?_
  refine r_aload_n C (k := 0) dX3_setCliff_6 rfl ?_
  refine r_getf C 3 (ok_of hG (kdv0 (Nat.zero_le 1) (by omega)) (by decide) (show (0 : Nat) ≤ 6 by decide)) (kdv0 (Nat.zero_le 1) (by omega)) (by decide) rfl hinX2 (by decide) (by decide +kernel) rfl rfl dX3_setCliff_7 ?_
  refine r_istore C (i := 4) (lv' := [(4, vI (w (0, ((v)).toNat, 0) (3))), (3, .ref (adr G (0, ((v)).toNat, 0))), (0, .ref (adr G (2, 0, 0))), (1, vI (v)), (2, vI (d))]) dX3_setCliff_10 (by decide) rfl ?_
  refine r_aload_n C (k := 1) dX3_setCliff_12 rfl ?_
  refine r_iload_n C (k := 4) dX3_setCliff_13 rfl ?_
  refine r_putf C 3 hr (by first | exact hr _ _ | exact hr0 _ _ | exact hrI _ _ | assumption | exact ⟨by omega, by omega⟩) (ok_of hG (kdv0 (Nat.zero_le 1) (by omega)) (by decide) (show (0 : Nat) ≤ 6 by decide)) (kdv0 (Nat.zero_le 1) (by omega)) (by decide) rfl hinX2 tyX2_ok nmX2 (by decide) (by decide +kernel) rfl rfl (ty := .boolean) (by decide +kernel) (by rcases hd with h | h <;> rw [h] <;> decide) (by rcases hd with h | h <;> rw [h] <;> decide) rfl (Nat.le_of_ble_eq_true rfl) dX3_setCliff_14 (fun hr => ?_)
  refine r_iload C (k := 0) dX3_setCliff_17 rfl ?_
  refine Wm.x (by (repeat' split) <;> first | rfl | contradiction | (exfalso; omega) | (exfalso; simp_all; done) | (exfalso; simp_all; omega)) (Nat.le_of_ble_eq_true rfl) (Nat.le_of_ble_eq_true rfl) ?_
  exact r_zret C dX3_setCliff_19 k3 (by exact congrArg (fun z => some (vI z)) (by rcases k3 with h | h <;> simp [h, bI])) rfl

set_option maxRecDepth 100000 in
set_option maxHeartbeats 1500000 in
theorem c_X3_setAwake {l : Launch} {G : Gt} (hG : Gok G) (hl9 : l.stackTraces = false)  {w : Mm} {v : Int} {a : Int} {b : Int} {N D : Int} {X : Nat → Int} (hv : inR v) (ha : inR a) (hb : inR b) (hL : LI w 0 N D X) : ConX l G yX3_setAwake wsX3_setAwake ({ frames := 8, cells := 2, slots := 12, locals := 124 } : Room) w [.ref (adr G (2, 0, 0)), vI v, vI a, vI b] ((if lV w v then (if (0 ≤ a ∧ a ≤ 23) ∧ (1 ≤ b ∧ b ≤ 24) then none else eA) else eI)) (some (vI (w (0, (v).toNat, 0) 5))) (st1 (st1 w (0, (v).toNat, 0) 4 a) (0, (v).toNat, 0) 5 b) 2 12 := by
  refine ConX.head (cc := cX3_setAwake) (nL := 6) (ret := (some .int)) hG (by decide +kernel) rfl (Nat.le_of_ble_eq_true rfl) ?_
  intro B A hBl hxt C hr
  have hB9 : B.2.1.stackTraces = false := by rw [hBl]; exact hl9
  have hr0 := hr
  have hrI := hr
  have hinX2 : ∀ w ∈ u_ws RX2 TX2 13, w ∈ wsX3_setAwake := by decide +kernel
  have hL0 := hL
  obtain ⟨⟨v1, v2⟩, ⟨p1, p2⟩, ⟨b1, b2⟩, ⟨d1, d2⟩, htc, hvs⟩ := hL
  refine r_aload_n C (k := 0) dX3_setAwake_0 rfl ?_
  refine r_iload_n C (k := 1) dX3_setAwake_1 rfl ?_
  refine r_callVX C hxt (w' := w) [vI (v)] 1 (c_X3_villageOf hG hB9 (by first | assumption | omega | exact hr _ _ | exact hr0 _ _ | exact hrI _ _ | exact ⟨by omega, by omega⟩ | exact bI_inR _ | (simp [st1] <;> omega) | exact rowR.so (by assumption) (by simp)) (by first | assumption | omega | exact hr _ _ | exact hr0 _ _ | exact hrI _ _ | exact ⟨by omega, by omega⟩ | exact bI_inR _ | (simp [st1] <;> omega) | exact rowR.so (by assumption) (by simp))) (by intro E9 h9; revert h9; (repeat' split) <;> first | exact fun h => h | (exfalso; omega) | (intro h; cases h; done) | (exfalso; simp_all; done)) rfl (Nat.le_of_ble_eq_true rfl) (Nat.le_of_ble_eq_true rfl) gX3_setAwake_X3_villageOf rfl rfl rfl (by decide +kernel) (Nat.le_of_ble_eq_true rfl) (Nat.le_of_ble_eq_true rfl) ⟨(Nat.le_of_ble_eq_true rfl), (Nat.le_of_ble_eq_true rfl)⟩ (ok_of hG (show kd (2, 0, 0) = _ from rfl) (by decide) (show (2 : Nat) ≤ 6 by decide)) (show kd (2, 0, 0) = _ from rfl) (by decide) rfl rfl rfl (Nat.le_of_ble_eq_true rfl) (st' := [.ref (adr G (0, ((v)).toNat, 0))]) rfl dX3_setAwake_2 (fun ho9 hr => ?_)
  obtain ⟨xa_1, xb_1⟩ := iteN ho9
  have hn8 : ¬ (v).toNat = 8 := by omega
  have hn9 : ¬ 8 = (v).toNat := by omega
  obtain ⟨k1, k2, k3, k4, k5, k6, k7, k8, k9, k10⟩ := hL0.v (v := (v).toNat) (by omega)
  refine r_astore C (i := 4) (lv' := [(4, .ref (adr G (0, ((v)).toNat, 0))), (0, .ref (adr G (2, 0, 0))), (1, vI (v)), (2, vI (a)), (3, vI (b))]) dX3_setAwake_5 (by decide) rfl ?_
  refine r_iload_n C (k := 3) dX3_setAwake_7 rfl ?_
  refine r_if_lt C (tgt := 28) dX3_setAwake_8 (by decide) (by first | exact hr _ _ | exact hr0 _ _ | exact hrI _ _ | assumption | exact ⟨by omega, by omega⟩) (fun h_2 => ?_) (fun h_2 => ?_)
  · skip
    exact r_throw C hxt hB9 (ik := 26) (is := 65) (ic := 30) (E := "java/lang/IllegalArgumentException") (text := "a village is awake from 0 to 23 on, for 1 to 24 beats") (by (repeat' split) <;> first | rfl | contradiction | (exfalso; omega) | (exfalso; simp_all; done) | (exfalso; simp_all; omega)) rfl (by decide +kernel) (by decide +kernel) (by decide +kernel) (by decide +kernel) (by decide +kernel) (by decide +kernel) (by decide +kernel) dX3_setAwake_28 dX3_setAwake_31 dX3_setAwake_32 dX3_setAwake_34 dX3_setAwake_37 (Nat.le_of_ble_eq_true rfl) (Nat.le_of_ble_eq_true rfl) (Nat.le_of_ble_eq_true rfl) (Nat.le_of_ble_eq_true rfl) (Nat.le_of_ble_eq_true rfl) (Nat.le_of_ble_eq_true rfl)
  · skip
    refine r_iload_n C (k := 3) dX3_setAwake_11 rfl ?_
    refine r_bipush C dX3_setAwake_12 (by decide) ?_
    refine r_icmp_ge C (tgt := 28) dX3_setAwake_14 (by decide) (by first | exact hr _ _ | exact hr0 _ _ | exact hrI _ _ | assumption | exact ⟨by omega, by omega⟩) ⟨by decide, by decide⟩ (fun h_3 => ?_) (fun h_3 => ?_)
    · skip
      exact r_throw C hxt hB9 (ik := 26) (is := 65) (ic := 30) (E := "java/lang/IllegalArgumentException") (text := "a village is awake from 0 to 23 on, for 1 to 24 beats") (by (repeat' split) <;> first | rfl | contradiction | (exfalso; omega) | (exfalso; simp_all; done) | (exfalso; simp_all; omega)) rfl (by decide +kernel) (by decide +kernel) (by decide +kernel) (by decide +kernel) (by decide +kernel) (by decide +kernel) (by decide +kernel) dX3_setAwake_28 dX3_setAwake_31 dX3_setAwake_32 dX3_setAwake_34 dX3_setAwake_37 (Nat.le_of_ble_eq_true rfl) (Nat.le_of_ble_eq_true rfl) (Nat.le_of_ble_eq_true rfl) (Nat.le_of_ble_eq_true rfl) (Nat.le_of_ble_eq_true rfl) (Nat.le_of_ble_eq_true rfl)
    · skip
      refine r_iload_n C (k := 4) dX3_setAwake_17 rfl ?_
      refine r_iconst C dX3_setAwake_18 ?_
      refine r_icmp_lt C (tgt := 28) dX3_setAwake_19 (by decide) (by first | exact hr _ _ | exact hr0 _ _ | exact hrI _ _ | assumption | exact ⟨by omega, by omega⟩) ⟨by decide, by decide⟩ (fun h_4 => ?_) (fun h_4 => ?_)
      · skip
        exact r_throw C hxt hB9 (ik := 26) (is := 65) (ic := 30) (E := "java/lang/IllegalArgumentException") (text := "a village is awake from 0 to 23 on, for 1 to 24 beats") (by (repeat' split) <;> first | rfl | contradiction | (exfalso; omega) | (exfalso; simp_all; done) | (exfalso; simp_all; omega)) rfl (by decide +kernel) (by decide +kernel) (by decide +kernel) (by decide +kernel) (by decide +kernel) (by decide +kernel) (by decide +kernel) dX3_setAwake_28 dX3_setAwake_31 dX3_setAwake_32 dX3_setAwake_34 dX3_setAwake_37 (Nat.le_of_ble_eq_true rfl) (Nat.le_of_ble_eq_true rfl) (Nat.le_of_ble_eq_true rfl) (Nat.le_of_ble_eq_true rfl) (Nat.le_of_ble_eq_true rfl) (Nat.le_of_ble_eq_true rfl)
      · skip
        refine r_iload_n C (k := 4) dX3_setAwake_22 rfl ?_
        refine r_bipush C dX3_setAwake_23 (by decide) ?_
        refine r_icmp_le C (tgt := 38) dX3_setAwake_25 (by decide) (by first | exact hr _ _ | exact hr0 _ _ | exact hrI _ _ | assumption | exact ⟨by omega, by omega⟩) ⟨by decide, by decide⟩ (fun h_5 => ?_) (fun h_5 => ?_)
        · skip
          refine r_aload C (k := 0) dX3_setAwake_38 rfl ?_
          refine r_getf C 5 (ok_of hG (kdv0 (Nat.zero_le 1) (by omega)) (by decide) (show (0 : Nat) ≤ 6 by decide)) (kdv0 (Nat.zero_le 1) (by omega)) (by decide) rfl hinX2 (by decide) (by decide +kernel) rfl rfl dX3_setAwake_40 ?_
          refine r_istore C (i := 5) (lv' := [(5, vI (w (0, ((v)).toNat, 0) (5))), (4, .ref (adr G (0, ((v)).toNat, 0))), (0, .ref (adr G (2, 0, 0))), (1, vI (v)), (2, vI (a)), (3, vI (b))]) dX3_setAwake_43 (by decide) rfl ?_
          refine r_aload C (k := 1) dX3_setAwake_45 rfl ?_
          refine r_iload_n C (k := 4) dX3_setAwake_47 rfl ?_
          refine r_putf C 4 hr (by first | exact hr _ _ | exact hr0 _ _ | exact hrI _ _ | assumption | exact ⟨by omega, by omega⟩) (ok_of hG (kdv0 (Nat.zero_le 1) (by omega)) (by decide) (show (0 : Nat) ≤ 6 by decide)) (kdv0 (Nat.zero_le 1) (by omega)) (by decide) rfl hinX2 tyX2_ok nmX2 (by decide) (by decide +kernel) rfl rfl (ty := .int) (by decide +kernel) rfl rfl rfl (Nat.le_of_ble_eq_true rfl) dX3_setAwake_48 (fun hr => ?_)
          refine r_aload C (k := 1) dX3_setAwake_51 rfl ?_
          refine r_iload_n C (k := 5) dX3_setAwake_53 rfl ?_
          refine r_putf C 5 hr (by first | exact hr _ _ | exact hr0 _ _ | exact hrI _ _ | assumption | exact ⟨by omega, by omega⟩) (ok_of hG (kdv0 (Nat.zero_le 1) (by omega)) (by decide) (show (0 : Nat) ≤ 6 by decide)) (kdv0 (Nat.zero_le 1) (by omega)) (by decide) rfl hinX2 tyX2_ok nmX2 (by decide) (by decide +kernel) rfl rfl (ty := .int) (by decide +kernel) rfl rfl rfl (Nat.le_of_ble_eq_true rfl) dX3_setAwake_54 (fun hr => ?_)
          refine r_iload C (k := 0) dX3_setAwake_57 rfl ?_
          refine Wm.x (by (repeat' split) <;> first | rfl | contradiction | (exfalso; omega) | (exfalso; simp_all; done) | (exfalso; simp_all; omega)) (Nat.le_of_ble_eq_true rfl) (Nat.le_of_ble_eq_true rfl) ?_
          exact r_iret C dX3_setAwake_59 (by first | rfl | (simp [*]; done)) (by first | rfl | (simp [*]; done))
        · skip
          exact r_throw C hxt hB9 (ik := 26) (is := 65) (ic := 30) (E := "java/lang/IllegalArgumentException") (text := "a village is awake from 0 to 23 on, for 1 to 24 beats") (by (repeat' split) <;> first | rfl | contradiction | (exfalso; omega) | (exfalso; simp_all; done) | (exfalso; simp_all; omega)) rfl (by decide +kernel) (by decide +kernel) (by decide +kernel) (by decide +kernel) (by decide +kernel) (by decide +kernel) (by decide +kernel) dX3_setAwake_28 dX3_setAwake_31 dX3_setAwake_32 dX3_setAwake_34 dX3_setAwake_37 (Nat.le_of_ble_eq_true rfl) (Nat.le_of_ble_eq_true rfl) (Nat.le_of_ble_eq_true rfl) (Nat.le_of_ble_eq_true rfl) (Nat.le_of_ble_eq_true rfl) (Nat.le_of_ble_eq_true rfl)

set_option maxRecDepth 100000 in
set_option maxHeartbeats 1500000 in
theorem c_X3_phrase {l : Launch} {G : Gt} (hG : Gok G) (hl9 : l.stackTraces = false)  {w : Mm} {n : Int} (hn : inR n) (hpb : 0 ≤ w (0, 8, 0) 4 ∧ w (0, 8, 0) 4 ≤ 12) : ConX l G yX3_phrase wsX3_phrase ({ frames := 6, cells := 1, slots := 6, locals := 82 } : Room) w [.ref (adr G (2, 0, 0)), vI n] ((if 2 ≤ ctf 9 n 0 ∧ ctf 9 n 0 ≤ 8 then (if w (0, 8, 0) 4 < 12 ∧ ¬ s0hasP w 0 n then none else eS) else eA)) (some (vI (w (0, 8, 0) 4))) (s0addP w 0 n ((ctf 9 n 0 : Nat) : Int)) 1 6 := by
  refine ConX.head (cc := cX3_phrase) (nL := 3) (ret := (some .int)) hG (by decide +kernel) rfl (Nat.le_of_ble_eq_true rfl) ?_
  intro B A hBl hxt C hr
  have hB9 : B.2.1.stackTraces = false := by rw [hBl]; exact hl9
  have hr0 := hr
  have hrI := hr
  have hinX0 : ∀ w ∈ u_ws RX0 TX0 7, w ∈ wsX3_phrase := by decide +kernel
  have hinX3 : ∀ w ∈ u_ws RX3 TX3 2, w ∈ wsX3_phrase := by decide +kernel
  obtain ⟨z1, z2⟩ := hpb
  have hcb := ctf_b 9 n 0
  refine r_iload_n C (k := 1) dX3_phrase_0 rfl ?_
  refine r_callS C (w' := w) [vI (n)] 1 (c_X3_countTones hG (by first | assumption | omega | exact hr _ _ | exact hr0 _ _ | exact hrI _ _ | exact ⟨by omega, by omega⟩ | exact bI_inR _ | (simp [st1] <;> omega) | exact rowR.so (by assumption) (by simp))) gX3_phrase_X3_countTones rfl rfl rfl (by decide +kernel) (Nat.le_of_ble_eq_true rfl) (Nat.le_of_ble_eq_true rfl) ⟨(Nat.le_of_ble_eq_true rfl), (Nat.le_of_ble_eq_true rfl)⟩ rfl rfl (Nat.le_of_ble_eq_true rfl) (st' := [vI ((((ctf 9 (n) 0 : Nat) : Int)))]) rfl dX3_phrase_1 (fun hr => ?_)
  refine r_istore_n C (i := 2) (lv' := [(2, vI ((((ctf 9 (n) 0 : Nat) : Int)))), (0, .ref (adr G (2, 0, 0))), (1, vI (n))]) dX3_phrase_4 rfl (by decide) rfl ?_
  refine r_iload_n C (k := 0) dX3_phrase_5 rfl ?_
  refine r_iconst C dX3_phrase_6 ?_
  refine r_icmp_lt C (tgt := 16) dX3_phrase_7 (by decide) (by first | exact hr _ _ | exact hr0 _ _ | exact hrI _ _ | assumption | exact ⟨by omega, by omega⟩) ⟨by decide, by decide⟩ (fun h_1 => ?_) (fun h_1 => ?_)
  · skip
    exact r_throw C hxt hB9 (ik := 26) (is := 77) (ic := 30) (E := "java/lang/IllegalArgumentException") (text := "a phrase has 2 to 8 tones, 1 or 2 each") (by (repeat' split) <;> first | rfl | contradiction | (exfalso; omega) | (exfalso; simp_all; done) | (exfalso; simp_all; omega)) rfl (by decide +kernel) (by decide +kernel) (by decide +kernel) (by decide +kernel) (by decide +kernel) (by decide +kernel) (by decide +kernel) dX3_phrase_16 dX3_phrase_19 dX3_phrase_20 dX3_phrase_22 dX3_phrase_25 (Nat.le_of_ble_eq_true rfl) (Nat.le_of_ble_eq_true rfl) (Nat.le_of_ble_eq_true rfl) (Nat.le_of_ble_eq_true rfl) (Nat.le_of_ble_eq_true rfl) (Nat.le_of_ble_eq_true rfl)
  · skip
    refine r_iload_n C (k := 0) dX3_phrase_10 rfl ?_
    refine r_bipush C dX3_phrase_11 (by decide) ?_
    refine r_icmp_le C (tgt := 26) dX3_phrase_13 (by decide) (by first | exact hr _ _ | exact hr0 _ _ | exact hrI _ _ | assumption | exact ⟨by omega, by omega⟩) ⟨by decide, by decide⟩ (fun h_2 => ?_) (fun h_2 => ?_)
    · skip
      refine r_aload_n C (k := 1) dX3_phrase_26 rfl ?_
      refine r_getf C 0 (v := .ref (adr G (0, 8, 0))) (ok_of hG (show kd (2, 0, 0) = _ from rfl) (by decide) (show (2 : Nat) ≤ 6 by decide)) (show kd (2, 0, 0) = _ from rfl) (by decide) rfl hinX3 (by decide) (by decide +kernel) rfl rfl dX3_phrase_27 ?_
      refine r_getf C 4 (ok_of hG (kdl0 (Nat.zero_le 1)) (by decide) (show (0 : Nat) ≤ 6 by decide)) (kdl0 (Nat.zero_le 1)) (by decide) rfl hinX0 (by decide) (by decide +kernel) rfl rfl dX3_phrase_30 ?_
      refine r_bipush C dX3_phrase_33 (by decide) ?_
      refine r_icmp_ge C (tgt := 49) dX3_phrase_35 (by decide) (by first | exact hr _ _ | exact hr0 _ _ | exact hrI _ _ | assumption | exact ⟨by omega, by omega⟩) ⟨by decide, by decide⟩ (fun h_3 => ?_) (fun h_3 => ?_)
      · skip
        exact r_throw C hxt hB9 (ik := 41) (is := 85) (ic := 45) (E := "java/lang/IllegalStateException") (text := "there are 12 phrases, or this is one already") (by (repeat' split) <;> first | rfl | contradiction | (exfalso; omega) | (exfalso; simp_all; done) | (exfalso; simp_all; omega)) rfl (by decide +kernel) (by decide +kernel) (by decide +kernel) (by decide +kernel) (by decide +kernel) (by decide +kernel) (by decide +kernel) dX3_phrase_49 dX3_phrase_52 dX3_phrase_53 dX3_phrase_55 dX3_phrase_58 (Nat.le_of_ble_eq_true rfl) (Nat.le_of_ble_eq_true rfl) (Nat.le_of_ble_eq_true rfl) (Nat.le_of_ble_eq_true rfl) (Nat.le_of_ble_eq_true rfl) (Nat.le_of_ble_eq_true rfl)
      · skip
        refine r_aload_n C (k := 1) dX3_phrase_38 rfl ?_
        refine r_getf C 0 (v := .ref (adr G (0, 8, 0))) (ok_of hG (show kd (2, 0, 0) = _ from rfl) (by decide) (show (2 : Nat) ≤ 6 by decide)) (show kd (2, 0, 0) = _ from rfl) (by decide) rfl hinX3 (by decide) (by decide +kernel) rfl rfl dX3_phrase_39 ?_
        refine r_iload_n C (k := 2) dX3_phrase_42 rfl ?_
        refine r_callV C (w' := w) [vI (n)] 1 (c_X0_hasPhrase hG (Nat.zero_le 1) (by first | assumption | omega | exact hr _ _ | exact hr0 _ _ | exact hrI _ _ | exact ⟨by omega, by omega⟩ | exact bI_inR _ | (simp [st1] <;> omega) | exact rowR.so (by assumption) (by simp)) (by first | assumption | omega | exact hr _ _ | exact hr0 _ _ | exact hrI _ _ | exact ⟨by omega, by omega⟩ | exact bI_inR _ | (simp [st1] <;> omega) | exact rowR.so (by assumption) (by simp))) gX3_phrase_X0_hasPhrase rfl rfl rfl (by decide +kernel) (Nat.le_of_ble_eq_true rfl) (Nat.le_of_ble_eq_true rfl) ⟨(Nat.le_of_ble_eq_true rfl), (Nat.le_of_ble_eq_true rfl)⟩ (ok_of hG (kdl0 (Nat.zero_le 1)) (by decide) (show (0 : Nat) ≤ 6 by decide)) (kdl0 (Nat.zero_le 1)) (by decide) rfl rfl rfl (Nat.le_of_ble_eq_true rfl) (st' := [vI (bI (s0hasP w 0 (n)))]) rfl dX3_phrase_43 (fun hr => ?_)
        refine r_if_eqP C (P := s0hasP w 0 (n)) (tgt := 59) dX3_phrase_46 (by decide) (fun h_4 => ?_) (fun h_4 => ?_)
        · skip
          refine r_aload_n C (k := 1) dX3_phrase_59 rfl ?_
          refine r_getf C 0 (v := .ref (adr G (0, 8, 0))) (ok_of hG (show kd (2, 0, 0) = _ from rfl) (by decide) (show (2 : Nat) ≤ 6 by decide)) (show kd (2, 0, 0) = _ from rfl) (by decide) rfl hinX3 (by decide) (by decide +kernel) rfl rfl dX3_phrase_60 ?_
          refine r_iload_n C (k := 2) dX3_phrase_63 rfl ?_
          refine r_iload_n C (k := 0) dX3_phrase_64 rfl ?_
          refine r_callV C (w' := (s0addP w 0 (n) ((((ctf 9 (n) 0 : Nat) : Int))))) [vI (n), vI ((((ctf 9 (n) 0 : Nat) : Int)))] 2 (c_X0_addPhrase hG (Nat.zero_le 1) (by first | assumption | omega | exact hr _ _ | exact hr0 _ _ | exact hrI _ _ | exact ⟨by omega, by omega⟩ | exact bI_inR _ | (simp [st1] <;> omega) | exact rowR.so (by assumption) (by simp)) (by first | assumption | omega | exact hr _ _ | exact hr0 _ _ | exact hrI _ _ | exact ⟨by omega, by omega⟩ | exact bI_inR _ | (simp [st1] <;> omega) | exact rowR.so (by assumption) (by simp)) (by first | assumption | omega | exact hr _ _ | exact hr0 _ _ | exact hrI _ _ | exact ⟨by omega, by omega⟩ | exact bI_inR _ | (simp [st1] <;> omega) | exact rowR.so (by assumption) (by simp))) gX3_phrase_X0_addPhrase rfl rfl rfl (by decide +kernel) (Nat.le_of_ble_eq_true rfl) (Nat.le_of_ble_eq_true rfl) ⟨(Nat.le_of_ble_eq_true rfl), (Nat.le_of_ble_eq_true rfl)⟩ (ok_of hG (kdl0 (Nat.zero_le 1)) (by decide) (show (0 : Nat) ≤ 6 by decide)) (kdl0 (Nat.zero_le 1)) (by decide) rfl rfl rfl (Nat.le_of_ble_eq_true rfl) (st' := [vI ((if w (0, 8, 0) 4 < 12 then w (0, 8, 0) 4 else -1))]) rfl dX3_phrase_65 (fun hr => ?_)
          refine Wm.x (by (repeat' split) <;> first | rfl | contradiction | (exfalso; omega) | (exfalso; simp_all; done) | (exfalso; simp_all; omega)) (Nat.le_of_ble_eq_true rfl) (Nat.le_of_ble_eq_true rfl) ?_
          exact r_iret C dX3_phrase_68 (by rw [if_pos (by omega)]) (by first | rfl | (simp [*]; done))
        · skip
          exact r_throw C hxt hB9 (ik := 41) (is := 85) (ic := 45) (E := "java/lang/IllegalStateException") (text := "there are 12 phrases, or this is one already") (by (repeat' split) <;> first | rfl | contradiction | (exfalso; omega) | (exfalso; simp_all; done) | (exfalso; simp_all; omega)) rfl (by decide +kernel) (by decide +kernel) (by decide +kernel) (by decide +kernel) (by decide +kernel) (by decide +kernel) (by decide +kernel) dX3_phrase_49 dX3_phrase_52 dX3_phrase_53 dX3_phrase_55 dX3_phrase_58 (Nat.le_of_ble_eq_true rfl) (Nat.le_of_ble_eq_true rfl) (Nat.le_of_ble_eq_true rfl) (Nat.le_of_ble_eq_true rfl) (Nat.le_of_ble_eq_true rfl) (Nat.le_of_ble_eq_true rfl)
    · skip
      exact r_throw C hxt hB9 (ik := 26) (is := 77) (ic := 30) (E := "java/lang/IllegalArgumentException") (text := "a phrase has 2 to 8 tones, 1 or 2 each") (by (repeat' split) <;> first | rfl | contradiction | (exfalso; omega) | (exfalso; simp_all; done) | (exfalso; simp_all; omega)) rfl (by decide +kernel) (by decide +kernel) (by decide +kernel) (by decide +kernel) (by decide +kernel) (by decide +kernel) (by decide +kernel) dX3_phrase_16 dX3_phrase_19 dX3_phrase_20 dX3_phrase_22 dX3_phrase_25 (Nat.le_of_ble_eq_true rfl) (Nat.le_of_ble_eq_true rfl) (Nat.le_of_ble_eq_true rfl) (Nat.le_of_ble_eq_true rfl) (Nat.le_of_ble_eq_true rfl) (Nat.le_of_ble_eq_true rfl)

set_option maxRecDepth 100000 in
set_option maxHeartbeats 1500000 in
theorem c_X3_tell {l : Launch} {G : Gt} (hG : Gok G) (hl9 : l.stackTraces = false)  {w : Mm} {v : Int} {p : Int} {N D : Int} {X : Nat → Int} (hv : inR v) (hp : inR p) (hL : LI w 0 N D X) : ConX l G yX3_tell wsX3_tell ({ frames := 8, cells := 3, slots := 18, locals := 124 } : Room) w [.ref (adr G (2, 0, 0)), vI v, vI p] ((if lV w v ∧ lP w p then (if w (0, (v).toNat, 0) 9 < 5 then none else eS) else eI)) (some (vI (s2take w 0 (v).toNat p (w (0, 8, 0) 5) (0, (v).toNat, 0) 9))) (s2take w 0 (v).toNat p (w (0, 8, 0) 5)) 3 18 := by
  refine ConX.head (cc := cX3_tell) (nL := 4) (ret := (some .int)) hG (by decide +kernel) rfl (Nat.le_of_ble_eq_true rfl) ?_
  intro B A hBl hxt C hr
  have hB9 : B.2.1.stackTraces = false := by rw [hBl]; exact hl9
  have hr0 := hr
  have hrI := hr
  have hinX0 : ∀ w ∈ u_ws RX0 TX0 7, w ∈ wsX3_tell := by decide +kernel
  have hinX2 : ∀ w ∈ u_ws RX2 TX2 13, w ∈ wsX3_tell := by decide +kernel
  have hinX3 : ∀ w ∈ u_ws RX3 TX3 2, w ∈ wsX3_tell := by decide +kernel
  have hL0 := hL
  obtain ⟨⟨v1, v2⟩, ⟨p1, p2⟩, ⟨b1, b2⟩, ⟨d1, d2⟩, htc, hvs⟩ := hL
  refine r_aload_n C (k := 0) dX3_tell_0 rfl ?_
  refine r_iload_n C (k := 1) dX3_tell_1 rfl ?_
  refine r_callVX C hxt (w' := w) [vI (v)] 1 (c_X3_villageOf hG hB9 (by first | assumption | omega | exact hr _ _ | exact hr0 _ _ | exact hrI _ _ | exact ⟨by omega, by omega⟩ | exact bI_inR _ | (simp [st1] <;> omega) | exact rowR.so (by assumption) (by simp)) (by first | assumption | omega | exact hr _ _ | exact hr0 _ _ | exact hrI _ _ | exact ⟨by omega, by omega⟩ | exact bI_inR _ | (simp [st1] <;> omega) | exact rowR.so (by assumption) (by simp))) (by intro E9 h9; revert h9; (repeat' split) <;> first | exact fun h => h | (exfalso; omega) | (intro h; cases h; done) | (exfalso; simp_all; done)) rfl (Nat.le_of_ble_eq_true rfl) (Nat.le_of_ble_eq_true rfl) gX3_tell_X3_villageOf rfl rfl rfl (by decide +kernel) (Nat.le_of_ble_eq_true rfl) (Nat.le_of_ble_eq_true rfl) ⟨(Nat.le_of_ble_eq_true rfl), (Nat.le_of_ble_eq_true rfl)⟩ (ok_of hG (show kd (2, 0, 0) = _ from rfl) (by decide) (show (2 : Nat) ≤ 6 by decide)) (show kd (2, 0, 0) = _ from rfl) (by decide) rfl rfl rfl (Nat.le_of_ble_eq_true rfl) (st' := [.ref (adr G (0, ((v)).toNat, 0))]) rfl dX3_tell_2 (fun ho9 hr => ?_)
  obtain ⟨xa_1, xb_1⟩ := iteN ho9
  have hn8 : ¬ (v).toNat = 8 := by omega
  have hn9 : ¬ 8 = (v).toNat := by omega
  obtain ⟨k1, k2, k3, k4, k5, k6, k7, k8, k9, k10⟩ := hL0.v (v := (v).toNat) (by omega)
  refine r_astore_n C (i := 3) (lv' := [(3, .ref (adr G (0, ((v)).toNat, 0))), (0, .ref (adr G (2, 0, 0))), (1, vI (v)), (2, vI (p))]) dX3_tell_5 rfl (by decide) rfl ?_
  refine r_aload_n C (k := 1) dX3_tell_6 rfl ?_
  refine r_iload_n C (k := 3) dX3_tell_7 rfl ?_
  refine r_callVX C hxt (w' := w) [vI (p)] 1 (c_X3_checkPhrase hG hB9 (by first | assumption | omega | exact hr _ _ | exact hr0 _ _ | exact hrI _ _ | exact ⟨by omega, by omega⟩ | exact bI_inR _ | (simp [st1] <;> omega) | exact rowR.so (by assumption) (by simp))) (by intro E9 h9; revert h9; (repeat' split) <;> first | exact fun h => h | (exfalso; omega) | (intro h; cases h; done) | (exfalso; simp_all; done)) rfl (Nat.le_of_ble_eq_true rfl) (Nat.le_of_ble_eq_true rfl) gX3_tell_X3_checkPhrase rfl rfl rfl (by decide +kernel) (Nat.le_of_ble_eq_true rfl) (Nat.le_of_ble_eq_true rfl) ⟨(Nat.le_of_ble_eq_true rfl), (Nat.le_of_ble_eq_true rfl)⟩ (ok_of hG (show kd (2, 0, 0) = _ from rfl) (by decide) (show (2 : Nat) ≤ 6 by decide)) (show kd (2, 0, 0) = _ from rfl) (by decide) rfl rfl rfl (Nat.le_of_ble_eq_true rfl) (st' := []) rfl dX3_tell_8 (fun ho9 hr => ?_)
  obtain ⟨xa_2, xb_2⟩ := iteN ho9
  refine r_aload_n C (k := 0) dX3_tell_11 rfl ?_
  refine r_getf C 9 (ok_of hG (kdv0 (Nat.zero_le 1) (by omega)) (by decide) (show (0 : Nat) ≤ 6 by decide)) (kdv0 (Nat.zero_le 1) (by omega)) (by decide) rfl hinX2 (by decide) (by decide +kernel) rfl rfl dX3_tell_12 ?_
  refine r_iconst C dX3_tell_15 ?_
  refine r_icmp_lt C (tgt := 29) dX3_tell_16 (by decide) (by first | exact hr _ _ | exact hr0 _ _ | exact hrI _ _ | assumption | exact ⟨by omega, by omega⟩) ⟨by decide, by decide⟩ (fun h_3 => ?_) (fun h_3 => ?_)
  · skip
    refine r_aload_n C (k := 0) dX3_tell_29 rfl ?_
    refine r_iload_n C (k := 3) dX3_tell_30 rfl ?_
    refine r_aload_n C (k := 1) dX3_tell_31 rfl ?_
    refine r_getf C 0 (v := .ref (adr G (0, 8, 0))) (ok_of hG (show kd (2, 0, 0) = _ from rfl) (by decide) (show (2 : Nat) ≤ 6 by decide)) (show kd (2, 0, 0) = _ from rfl) (by decide) rfl hinX3 (by decide) (by decide +kernel) rfl rfl dX3_tell_32 ?_
    refine r_getf C 5 (ok_of hG (kdl0 (Nat.zero_le 1)) (by decide) (show (0 : Nat) ≤ 6 by decide)) (kdl0 (Nat.zero_le 1)) (by decide) rfl hinX0 (by decide) (by decide +kernel) rfl rfl dX3_tell_35 ?_
    refine r_callV C (w' := (s2take w 0 ((v)).toNat (p) (w (0, 8, 0) (5)))) [vI (p), vI (w (0, 8, 0) (5))] 2 (c_X2_takeIn hG (Nat.zero_le 1) (by omega) (by exact k8) (by first | assumption | omega | exact hr _ _ | exact hr0 _ _ | exact hrI _ _ | exact ⟨by omega, by omega⟩ | exact bI_inR _ | (simp [st1] <;> omega) | exact rowR.so (by assumption) (by simp)) (by first | assumption | omega | exact hr _ _ | exact hr0 _ _ | exact hrI _ _ | exact ⟨by omega, by omega⟩ | exact bI_inR _ | (simp [st1] <;> omega) | exact rowR.so (by assumption) (by simp))) gX3_tell_X2_takeIn rfl rfl rfl (by decide +kernel) (Nat.le_of_ble_eq_true rfl) (Nat.le_of_ble_eq_true rfl) ⟨(Nat.le_of_ble_eq_true rfl), (Nat.le_of_ble_eq_true rfl)⟩ (ok_of hG (kdv0 (Nat.zero_le 1) (by omega)) (by decide) (show (0 : Nat) ≤ 6 by decide)) (kdv0 (Nat.zero_le 1) (by omega)) (by decide) rfl rfl rfl (Nat.le_of_ble_eq_true rfl) (st' := []) rfl dX3_tell_38 (fun hr => ?_)
    refine r_aload_n C (k := 0) dX3_tell_41 rfl ?_
    refine r_getf C 9 (ok_of hG (kdv0 (Nat.zero_le 1) (by omega)) (by decide) (show (0 : Nat) ≤ 6 by decide)) (kdv0 (Nat.zero_le 1) (by omega)) (by decide) rfl hinX2 (by decide) (by decide +kernel) rfl rfl dX3_tell_42 ?_
    refine Wm.x (by (repeat' split) <;> first | rfl | contradiction | (exfalso; omega) | (exfalso; simp_all; done) | (exfalso; simp_all; omega)) (Nat.le_of_ble_eq_true rfl) (Nat.le_of_ble_eq_true rfl) ?_
    exact r_iret C dX3_tell_45 (by first | rfl | (simp [*]; done)) (by first | rfl | (simp [*]; done))
  · skip
    exact r_throw C hxt hB9 (ik := 41) (is := 98) (ic := 45) (E := "java/lang/IllegalStateException") (text := "5 phrases are in the queue") (by (repeat' split) <;> first | rfl | contradiction | (exfalso; omega) | (exfalso; simp_all; done) | (exfalso; simp_all; omega)) rfl (by decide +kernel) (by decide +kernel) (by decide +kernel) (by decide +kernel) (by decide +kernel) (by decide +kernel) (by decide +kernel) dX3_tell_19 dX3_tell_22 dX3_tell_23 dX3_tell_25 dX3_tell_28 (Nat.le_of_ble_eq_true rfl) (Nat.le_of_ble_eq_true rfl) (Nat.le_of_ble_eq_true rfl) (Nat.le_of_ble_eq_true rfl) (Nat.le_of_ble_eq_true rfl) (Nat.le_of_ble_eq_true rfl)

set_option maxRecDepth 100000 in
set_option maxHeartbeats 1500000 in
theorem c_X3_village {l : Launch} {G : Gt} (hG : Gok G) (hl9 : l.stackTraces = false)  {w : Mm} {v : Int} {a : Int} {N D : Int} {X : Nat → Int} (hv : inR v) (ha : inR a) (hL : LI w 0 N D X) (hN : N ≤ 1000000) : ConX l G yX3_village wsX3_village ({ frames := 8, cells := 2, slots := 12, locals := 124 } : Room) w [.ref (adr G (2, 0, 0)), vI v, vI a] ((if lV w v then (if 0 ≤ a ∧ a ≤ 9 then none else eI) else eI)) (some (vI (s2fig w 0 (v).toNat (w (0, 8, 0) 5) (a).toNat))) w 2 12 := by
  refine ConX.head (cc := cX3_village) (nL := 4) (ret := (some .int)) hG (by decide +kernel) rfl (Nat.le_of_ble_eq_true rfl) ?_
  intro B A hBl hxt C hr
  have hB9 : B.2.1.stackTraces = false := by rw [hBl]; exact hl9
  have hr0 := hr
  have hrI := hr
  have hinX0 : ∀ w ∈ u_ws RX0 TX0 7, w ∈ wsX3_village := by decide +kernel
  have hinX3 : ∀ w ∈ u_ws RX3 TX3 2, w ∈ wsX3_village := by decide +kernel
  have hL0 := hL
  obtain ⟨⟨v1, v2⟩, ⟨p1, p2⟩, ⟨b1, b2⟩, ⟨d1, d2⟩, htc, hvs⟩ := hL
  refine r_aload_n C (k := 0) dX3_village_0 rfl ?_
  refine r_iload_n C (k := 1) dX3_village_1 rfl ?_
  refine r_callVX C hxt (w' := w) [vI (v)] 1 (c_X3_villageOf hG hB9 (by first | assumption | omega | exact hr _ _ | exact hr0 _ _ | exact hrI _ _ | exact ⟨by omega, by omega⟩ | exact bI_inR _ | (simp [st1] <;> omega) | exact rowR.so (by assumption) (by simp)) (by first | assumption | omega | exact hr _ _ | exact hr0 _ _ | exact hrI _ _ | exact ⟨by omega, by omega⟩ | exact bI_inR _ | (simp [st1] <;> omega) | exact rowR.so (by assumption) (by simp))) (by intro E9 h9; revert h9; (repeat' split) <;> first | exact fun h => h | (exfalso; omega) | (intro h; cases h; done) | (exfalso; simp_all; done)) rfl (Nat.le_of_ble_eq_true rfl) (Nat.le_of_ble_eq_true rfl) gX3_village_X3_villageOf rfl rfl rfl (by decide +kernel) (Nat.le_of_ble_eq_true rfl) (Nat.le_of_ble_eq_true rfl) ⟨(Nat.le_of_ble_eq_true rfl), (Nat.le_of_ble_eq_true rfl)⟩ (ok_of hG (show kd (2, 0, 0) = _ from rfl) (by decide) (show (2 : Nat) ≤ 6 by decide)) (show kd (2, 0, 0) = _ from rfl) (by decide) rfl rfl rfl (Nat.le_of_ble_eq_true rfl) (st' := [.ref (adr G (0, ((v)).toNat, 0))]) rfl dX3_village_2 (fun ho9 hr => ?_)
  obtain ⟨xa_1, xb_1⟩ := iteN ho9
  have hn8 : ¬ (v).toNat = 8 := by omega
  have hn9 : ¬ 8 = (v).toNat := by omega
  obtain ⟨k1, k2, k3, k4, k5, k6, k7, k8, k9, k10⟩ := hL0.v (v := (v).toNat) (by omega)
  refine r_astore_n C (i := 3) (lv' := [(3, .ref (adr G (0, ((v)).toNat, 0))), (0, .ref (adr G (2, 0, 0))), (1, vI (v)), (2, vI (a))]) dX3_village_5 rfl (by decide) rfl ?_
  refine r_iload_n C (k := 3) dX3_village_6 rfl ?_
  refine r_if_lt C (tgt := 16) dX3_village_7 (by decide) (by first | exact hr _ _ | exact hr0 _ _ | exact hrI _ _ | assumption | exact ⟨by omega, by omega⟩) (fun h_2 => ?_) (fun h_2 => ?_)
  · skip
    exact r_throw C hxt hB9 (ik := 107) (is := 109) (ic := 111) (E := "java/lang/IndexOutOfBoundsException") (text := "what is 0 to 9") (by (repeat' split) <;> first | rfl | contradiction | (exfalso; omega) | (exfalso; simp_all; done) | (exfalso; simp_all; omega)) rfl (by decide +kernel) (by decide +kernel) (by decide +kernel) (by decide +kernel) (by decide +kernel) (by decide +kernel) (by decide +kernel) dX3_village_16 dX3_village_19 dX3_village_20 dX3_village_22 dX3_village_25 (Nat.le_of_ble_eq_true rfl) (Nat.le_of_ble_eq_true rfl) (Nat.le_of_ble_eq_true rfl) (Nat.le_of_ble_eq_true rfl) (Nat.le_of_ble_eq_true rfl) (Nat.le_of_ble_eq_true rfl)
  · skip
    refine r_iload_n C (k := 3) dX3_village_10 rfl ?_
    refine r_bipush C dX3_village_11 (by decide) ?_
    refine r_icmp_lt C (tgt := 26) dX3_village_13 (by decide) (by first | exact hr _ _ | exact hr0 _ _ | exact hrI _ _ | assumption | exact ⟨by omega, by omega⟩) ⟨by decide, by decide⟩ (fun h_3 => ?_) (fun h_3 => ?_)
    · skip
      refine r_aload_n C (k := 0) dX3_village_26 rfl ?_
      refine r_iload_n C (k := 3) dX3_village_27 rfl ?_
      refine r_aload_n C (k := 1) dX3_village_28 rfl ?_
      refine r_getf C 0 (v := .ref (adr G (0, 8, 0))) (ok_of hG (show kd (2, 0, 0) = _ from rfl) (by decide) (show (2 : Nat) ≤ 6 by decide)) (show kd (2, 0, 0) = _ from rfl) (by decide) rfl hinX3 (by decide) (by decide +kernel) rfl rfl dX3_village_29 ?_
      refine r_getf C 5 (ok_of hG (kdl0 (Nat.zero_le 1)) (by decide) (show (0 : Nat) ≤ 6 by decide)) (kdl0 (Nat.zero_le 1)) (by decide) rfl hinX0 (by decide) (by decide +kernel) rfl rfl dX3_village_32 ?_
      refine r_callV C (w' := w) [vI (a), vI (w (0, 8, 0) (5))] 2 (c_X2_figure hG (Nat.zero_le 1) (by omega) (by first | assumption | omega | exact hr _ _ | exact hr0 _ _ | exact hrI _ _ | exact ⟨by omega, by omega⟩ | exact bI_inR _ | (simp [st1] <;> omega) | exact rowR.so (by assumption) (by simp)) (by exact ⟨by omega, by omega⟩) (by exact k3)) gX3_village_X2_figure rfl rfl rfl (by decide +kernel) (Nat.le_of_ble_eq_true rfl) (Nat.le_of_ble_eq_true rfl) ⟨(Nat.le_of_ble_eq_true rfl), (Nat.le_of_ble_eq_true rfl)⟩ (ok_of hG (kdv0 (Nat.zero_le 1) (by omega)) (by decide) (show (0 : Nat) ≤ 6 by decide)) (kdv0 (Nat.zero_le 1) (by omega)) (by decide) rfl rfl rfl (Nat.le_of_ble_eq_true rfl) (st' := [vI ((s2fig w 0 ((v)).toNat (w (0, 8, 0) (5)) ((a)).toNat))]) rfl dX3_village_35 (fun hr => ?_)
      refine Wm.x (by (repeat' split) <;> first | rfl | contradiction | (exfalso; omega) | (exfalso; simp_all; done) | (exfalso; simp_all; omega)) (Nat.le_of_ble_eq_true rfl) (Nat.le_of_ble_eq_true rfl) ?_
      exact r_iret C dX3_village_38 (by first | rfl | (simp [*]; done)) (by first | rfl | (simp [*]; done))
    · skip
      exact r_throw C hxt hB9 (ik := 107) (is := 109) (ic := 111) (E := "java/lang/IndexOutOfBoundsException") (text := "what is 0 to 9") (by (repeat' split) <;> first | rfl | contradiction | (exfalso; omega) | (exfalso; simp_all; done) | (exfalso; simp_all; omega)) rfl (by decide +kernel) (by decide +kernel) (by decide +kernel) (by decide +kernel) (by decide +kernel) (by decide +kernel) (by decide +kernel) dX3_village_16 dX3_village_19 dX3_village_20 dX3_village_22 dX3_village_25 (Nat.le_of_ble_eq_true rfl) (Nat.le_of_ble_eq_true rfl) (Nat.le_of_ble_eq_true rfl) (Nat.le_of_ble_eq_true rfl) (Nat.le_of_ble_eq_true rfl) (Nat.le_of_ble_eq_true rfl)

set_option maxRecDepth 100000 in
set_option maxHeartbeats 1500000 in
theorem c_X3_queue {l : Launch} {G : Gt} (hG : Gok G) (hl9 : l.stackTraces = false)  {w : Mm} {v : Int} {a : Int} {N D : Int} {X : Nat → Int} (hv : inR v) (ha : inR a) (hL : LI w 0 N D X) : ConX l G yX3_queue wsX3_queue ({ frames := 8, cells := 2, slots := 12, locals := 124 } : Room) w [.ref (adr G (2, 0, 0)), vI v, vI a] ((if lV w v then (if 0 ≤ a ∧ a < w (0, (v).toNat, 0) 9 then none else eI) else eI)) (some (vI (w (0, (v).toNat, 1) (a).toNat))) w 2 12 := by
  refine ConX.head (cc := cX3_queue) (nL := 4) (ret := (some .int)) hG (by decide +kernel) rfl (Nat.le_of_ble_eq_true rfl) ?_
  intro B A hBl hxt C hr
  have hB9 : B.2.1.stackTraces = false := by rw [hBl]; exact hl9
  have hr0 := hr
  have hrI := hr
  have hinX2 : ∀ w ∈ u_ws RX2 TX2 13, w ∈ wsX3_queue := by decide +kernel
  have hL0 := hL
  obtain ⟨⟨v1, v2⟩, ⟨p1, p2⟩, ⟨b1, b2⟩, ⟨d1, d2⟩, htc, hvs⟩ := hL
  refine r_aload_n C (k := 0) dX3_queue_0 rfl ?_
  refine r_iload_n C (k := 1) dX3_queue_1 rfl ?_
  refine r_callVX C hxt (w' := w) [vI (v)] 1 (c_X3_villageOf hG hB9 (by first | assumption | omega | exact hr _ _ | exact hr0 _ _ | exact hrI _ _ | exact ⟨by omega, by omega⟩ | exact bI_inR _ | (simp [st1] <;> omega) | exact rowR.so (by assumption) (by simp)) (by first | assumption | omega | exact hr _ _ | exact hr0 _ _ | exact hrI _ _ | exact ⟨by omega, by omega⟩ | exact bI_inR _ | (simp [st1] <;> omega) | exact rowR.so (by assumption) (by simp))) (by intro E9 h9; revert h9; (repeat' split) <;> first | exact fun h => h | (exfalso; omega) | (intro h; cases h; done) | (exfalso; simp_all; done)) rfl (Nat.le_of_ble_eq_true rfl) (Nat.le_of_ble_eq_true rfl) gX3_queue_X3_villageOf rfl rfl rfl (by decide +kernel) (Nat.le_of_ble_eq_true rfl) (Nat.le_of_ble_eq_true rfl) ⟨(Nat.le_of_ble_eq_true rfl), (Nat.le_of_ble_eq_true rfl)⟩ (ok_of hG (show kd (2, 0, 0) = _ from rfl) (by decide) (show (2 : Nat) ≤ 6 by decide)) (show kd (2, 0, 0) = _ from rfl) (by decide) rfl rfl rfl (Nat.le_of_ble_eq_true rfl) (st' := [.ref (adr G (0, ((v)).toNat, 0))]) rfl dX3_queue_2 (fun ho9 hr => ?_)
  obtain ⟨xa_1, xb_1⟩ := iteN ho9
  have hn8 : ¬ (v).toNat = 8 := by omega
  have hn9 : ¬ 8 = (v).toNat := by omega
  obtain ⟨k1, k2, k3, k4, k5, k6, k7, k8, k9, k10⟩ := hL0.v (v := (v).toNat) (by omega)
  refine r_astore_n C (i := 3) (lv' := [(3, .ref (adr G (0, ((v)).toNat, 0))), (0, .ref (adr G (2, 0, 0))), (1, vI (v)), (2, vI (a))]) dX3_queue_5 rfl (by decide) rfl ?_
  refine r_iload_n C (k := 3) dX3_queue_6 rfl ?_
  refine r_if_lt C (tgt := 18) dX3_queue_7 (by decide) (by first | exact hr _ _ | exact hr0 _ _ | exact hrI _ _ | assumption | exact ⟨by omega, by omega⟩) (fun h_2 => ?_) (fun h_2 => ?_)
  · skip
    exact r_throw C hxt hB9 (ik := 107) (is := 115) (ic := 111) (E := "java/lang/IndexOutOfBoundsException") (text := "no such place in the queue") (by (repeat' split) <;> first | rfl | contradiction | (exfalso; omega) | (exfalso; simp_all; done) | (exfalso; simp_all; omega)) rfl (by decide +kernel) (by decide +kernel) (by decide +kernel) (by decide +kernel) (by decide +kernel) (by decide +kernel) (by decide +kernel) dX3_queue_18 dX3_queue_21 dX3_queue_22 dX3_queue_24 dX3_queue_27 (Nat.le_of_ble_eq_true rfl) (Nat.le_of_ble_eq_true rfl) (Nat.le_of_ble_eq_true rfl) (Nat.le_of_ble_eq_true rfl) (Nat.le_of_ble_eq_true rfl) (Nat.le_of_ble_eq_true rfl)
  · skip
    refine r_iload_n C (k := 3) dX3_queue_10 rfl ?_
    refine r_aload_n C (k := 0) dX3_queue_11 rfl ?_
    refine r_getf C 9 (ok_of hG (kdv0 (Nat.zero_le 1) (by omega)) (by decide) (show (0 : Nat) ≤ 6 by decide)) (kdv0 (Nat.zero_le 1) (by omega)) (by decide) rfl hinX2 (by decide) (by decide +kernel) rfl rfl dX3_queue_12 ?_
    refine r_icmp_lt C (tgt := 28) dX3_queue_15 (by decide) (by first | exact hr _ _ | exact hr0 _ _ | exact hrI _ _ | assumption | exact ⟨by omega, by omega⟩) (by first | exact hr _ _ | exact hr0 _ _ | exact hrI _ _ | assumption | exact ⟨by omega, by omega⟩) (fun h_3 => ?_) (fun h_3 => ?_)
    · skip
      refine r_aload_n C (k := 0) dX3_queue_28 rfl ?_
      refine r_getf C 8 (v := .ref (adr G (0, ((v)).toNat, 1))) (ok_of hG (kdv0 (Nat.zero_le 1) (by omega)) (by decide) (show (0 : Nat) ≤ 6 by decide)) (kdv0 (Nat.zero_le 1) (by omega)) (by decide) rfl hinX2 (by decide) (by decide +kernel) rfl rfl dX3_queue_29 ?_
      refine r_iload_n C (k := 3) dX3_queue_32 rfl ?_
      refine r_iald C ((a).toNat) (ok_of hG (kdv1 (Nat.zero_le 1) (by omega)) (by decide) (show (0 : Nat) ≤ 6 by decide)) (kdv1 (Nat.zero_le 1) (by omega)) (Int.toNat_of_nonneg (by first | omega | assumption)).symm (by first | omega | assumption) (by decide) dX3_queue_33 ?_
      refine Wm.x (by (repeat' split) <;> first | rfl | contradiction | (exfalso; omega) | (exfalso; simp_all; done) | (exfalso; simp_all; omega)) (Nat.le_of_ble_eq_true rfl) (Nat.le_of_ble_eq_true rfl) ?_
      exact r_iret C dX3_queue_34 (by first | rfl | (simp [*]; done)) (by first | rfl | (simp [*]; done))
    · skip
      exact r_throw C hxt hB9 (ik := 107) (is := 115) (ic := 111) (E := "java/lang/IndexOutOfBoundsException") (text := "no such place in the queue") (by (repeat' split) <;> first | rfl | contradiction | (exfalso; omega) | (exfalso; simp_all; done) | (exfalso; simp_all; omega)) rfl (by decide +kernel) (by decide +kernel) (by decide +kernel) (by decide +kernel) (by decide +kernel) (by decide +kernel) (by decide +kernel) dX3_queue_18 dX3_queue_21 dX3_queue_22 dX3_queue_24 dX3_queue_27 (Nat.le_of_ble_eq_true rfl) (Nat.le_of_ble_eq_true rfl) (Nat.le_of_ble_eq_true rfl) (Nat.le_of_ble_eq_true rfl) (Nat.le_of_ble_eq_true rfl) (Nat.le_of_ble_eq_true rfl)

set_option maxRecDepth 100000 in
set_option maxHeartbeats 1500000 in
theorem c_X3_knows {l : Launch} {G : Gt} (hG : Gok G) (hl9 : l.stackTraces = false)  {w : Mm} {v : Int} {p : Int} {N D : Int} {X : Nat → Int} (hv : inR v) (hp : inR p) (hL : LI w 0 N D X) : ConX l G yX3_knows wsX3_knows ({ frames := 8, cells := 2, slots := 12, locals := 124 } : Room) w [.ref (adr G (2, 0, 0)), vI v, vI p] ((if lV w v ∧ lP w p then none else eI)) (some (vI (w (0, (v).toNat, 2) (p).toNat))) w 2 12 := by
  refine ConX.head (cc := cX3_knows) (nL := 4) (ret := (some .int)) hG (by decide +kernel) rfl (Nat.le_of_ble_eq_true rfl) ?_
  intro B A hBl hxt C hr
  have hB9 : B.2.1.stackTraces = false := by rw [hBl]; exact hl9
  have hr0 := hr
  have hrI := hr
  have hinX2 : ∀ w ∈ u_ws RX2 TX2 13, w ∈ wsX3_knows := by decide +kernel
  have hL0 := hL
  obtain ⟨⟨v1, v2⟩, ⟨p1, p2⟩, ⟨b1, b2⟩, ⟨d1, d2⟩, htc, hvs⟩ := hL
  refine r_aload_n C (k := 0) dX3_knows_0 rfl ?_
  refine r_iload_n C (k := 1) dX3_knows_1 rfl ?_
  refine r_callVX C hxt (w' := w) [vI (v)] 1 (c_X3_villageOf hG hB9 (by first | assumption | omega | exact hr _ _ | exact hr0 _ _ | exact hrI _ _ | exact ⟨by omega, by omega⟩ | exact bI_inR _ | (simp [st1] <;> omega) | exact rowR.so (by assumption) (by simp)) (by first | assumption | omega | exact hr _ _ | exact hr0 _ _ | exact hrI _ _ | exact ⟨by omega, by omega⟩ | exact bI_inR _ | (simp [st1] <;> omega) | exact rowR.so (by assumption) (by simp))) (by intro E9 h9; revert h9; (repeat' split) <;> first | exact fun h => h | (exfalso; omega) | (intro h; cases h; done) | (exfalso; simp_all; done)) rfl (Nat.le_of_ble_eq_true rfl) (Nat.le_of_ble_eq_true rfl) gX3_knows_X3_villageOf rfl rfl rfl (by decide +kernel) (Nat.le_of_ble_eq_true rfl) (Nat.le_of_ble_eq_true rfl) ⟨(Nat.le_of_ble_eq_true rfl), (Nat.le_of_ble_eq_true rfl)⟩ (ok_of hG (show kd (2, 0, 0) = _ from rfl) (by decide) (show (2 : Nat) ≤ 6 by decide)) (show kd (2, 0, 0) = _ from rfl) (by decide) rfl rfl rfl (Nat.le_of_ble_eq_true rfl) (st' := [.ref (adr G (0, ((v)).toNat, 0))]) rfl dX3_knows_2 (fun ho9 hr => ?_)
  obtain ⟨xa_1, xb_1⟩ := iteN ho9
  have hn8 : ¬ (v).toNat = 8 := by omega
  have hn9 : ¬ 8 = (v).toNat := by omega
  obtain ⟨k1, k2, k3, k4, k5, k6, k7, k8, k9, k10⟩ := hL0.v (v := (v).toNat) (by omega)
  refine r_astore_n C (i := 3) (lv' := [(3, .ref (adr G (0, ((v)).toNat, 0))), (0, .ref (adr G (2, 0, 0))), (1, vI (v)), (2, vI (p))]) dX3_knows_5 rfl (by decide) rfl ?_
  refine r_aload_n C (k := 1) dX3_knows_6 rfl ?_
  refine r_iload_n C (k := 3) dX3_knows_7 rfl ?_
  refine r_callVX C hxt (w' := w) [vI (p)] 1 (c_X3_checkPhrase hG hB9 (by first | assumption | omega | exact hr _ _ | exact hr0 _ _ | exact hrI _ _ | exact ⟨by omega, by omega⟩ | exact bI_inR _ | (simp [st1] <;> omega) | exact rowR.so (by assumption) (by simp))) (by intro E9 h9; revert h9; (repeat' split) <;> first | exact fun h => h | (exfalso; omega) | (intro h; cases h; done) | (exfalso; simp_all; done)) rfl (Nat.le_of_ble_eq_true rfl) (Nat.le_of_ble_eq_true rfl) gX3_knows_X3_checkPhrase rfl rfl rfl (by decide +kernel) (Nat.le_of_ble_eq_true rfl) (Nat.le_of_ble_eq_true rfl) ⟨(Nat.le_of_ble_eq_true rfl), (Nat.le_of_ble_eq_true rfl)⟩ (ok_of hG (show kd (2, 0, 0) = _ from rfl) (by decide) (show (2 : Nat) ≤ 6 by decide)) (show kd (2, 0, 0) = _ from rfl) (by decide) rfl rfl rfl (Nat.le_of_ble_eq_true rfl) (st' := []) rfl dX3_knows_8 (fun ho9 hr => ?_)
  obtain ⟨xa_2, xb_2⟩ := iteN ho9
  refine r_aload_n C (k := 0) dX3_knows_11 rfl ?_
  refine r_getf C 10 (v := .ref (adr G (0, ((v)).toNat, 2))) (ok_of hG (kdv0 (Nat.zero_le 1) (by omega)) (by decide) (show (0 : Nat) ≤ 6 by decide)) (kdv0 (Nat.zero_le 1) (by omega)) (by decide) rfl hinX2 (by decide) (by decide +kernel) rfl rfl dX3_knows_12 ?_
  refine r_iload_n C (k := 3) dX3_knows_15 rfl ?_
  refine r_iald C ((p).toNat) (ok_of hG (kdv2 (Nat.zero_le 1) (by omega)) (by decide) (show (0 : Nat) ≤ 6 by decide)) (kdv2 (Nat.zero_le 1) (by omega)) (Int.toNat_of_nonneg (by first | omega | assumption)).symm (by first | omega | assumption) (by decide) dX3_knows_16 ?_
  refine Wm.x (by (repeat' split) <;> first | rfl | contradiction | (exfalso; omega) | (exfalso; simp_all; done) | (exfalso; simp_all; omega)) (Nat.le_of_ble_eq_true rfl) (Nat.le_of_ble_eq_true rfl) ?_
  exact r_iret C dX3_knows_17 (by first | rfl | (simp [*]; done)) (by first | rfl | (simp [*]; done))

set_option maxRecDepth 100000 in
set_option maxHeartbeats 1500000 in
theorem c_X3_sounds {l : Launch} {G : Gt} (hG : Gok G) (hl9 : l.stackTraces = false)  {w : Mm} {v : Int} {N D : Int} {X : Nat → Int} (hv : inR v) (hL : LI w 0 N D X) : ConX l G yX3_sounds wsX3_sounds ({ frames := 8, cells := 1, slots := 6, locals := 124 } : Room) w [.ref (adr G (2, 0, 0)), vI v] ((if lV w v then none else eI)) (some (vI (((s1last w 0 (v).toNat (w (0, 8, 0) 5) (w (0, (v).toNat, 3) 4).toNat : Nat) : Int)))) w 1 6 := by
  refine ConX.head (cc := cX3_sounds) (nL := 2) (ret := (some .int)) hG (by decide +kernel) rfl (Nat.le_of_ble_eq_true rfl) ?_
  intro B A hBl hxt C hr
  have hB9 : B.2.1.stackTraces = false := by rw [hBl]; exact hl9
  have hr0 := hr
  have hrI := hr
  have hinX0 : ∀ w ∈ u_ws RX0 TX0 7, w ∈ wsX3_sounds := by decide +kernel
  have hinX2 : ∀ w ∈ u_ws RX2 TX2 13, w ∈ wsX3_sounds := by decide +kernel
  have hinX3 : ∀ w ∈ u_ws RX3 TX3 2, w ∈ wsX3_sounds := by decide +kernel
  have hL0 := hL
  obtain ⟨⟨v1, v2⟩, ⟨p1, p2⟩, ⟨b1, b2⟩, ⟨d1, d2⟩, htc, hvs⟩ := hL
  refine r_aload_n C (k := 0) dX3_sounds_0 rfl ?_
  refine r_iload_n C (k := 1) dX3_sounds_1 rfl ?_
  refine r_callVX C hxt (w' := w) [vI (v)] 1 (c_X3_villageOf hG hB9 (by first | assumption | omega | exact hr _ _ | exact hr0 _ _ | exact hrI _ _ | exact ⟨by omega, by omega⟩ | exact bI_inR _ | (simp [st1] <;> omega) | exact rowR.so (by assumption) (by simp)) (by first | assumption | omega | exact hr _ _ | exact hr0 _ _ | exact hrI _ _ | exact ⟨by omega, by omega⟩ | exact bI_inR _ | (simp [st1] <;> omega) | exact rowR.so (by assumption) (by simp))) (by intro E9 h9; revert h9; (repeat' split) <;> first | exact fun h => h | (exfalso; omega) | (intro h; cases h; done) | (exfalso; simp_all; done)) rfl (Nat.le_of_ble_eq_true rfl) (Nat.le_of_ble_eq_true rfl) gX3_sounds_X3_villageOf rfl rfl rfl (by decide +kernel) (Nat.le_of_ble_eq_true rfl) (Nat.le_of_ble_eq_true rfl) ⟨(Nat.le_of_ble_eq_true rfl), (Nat.le_of_ble_eq_true rfl)⟩ (ok_of hG (show kd (2, 0, 0) = _ from rfl) (by decide) (show (2 : Nat) ≤ 6 by decide)) (show kd (2, 0, 0) = _ from rfl) (by decide) rfl rfl rfl (Nat.le_of_ble_eq_true rfl) (st' := [.ref (adr G (0, ((v)).toNat, 0))]) rfl dX3_sounds_2 (fun ho9 hr => ?_)
  obtain ⟨xa_1, xb_1⟩ := iteN ho9
  have hn8 : ¬ (v).toNat = 8 := by omega
  have hn9 : ¬ 8 = (v).toNat := by omega
  obtain ⟨k1, k2, k3, k4, k5, k6, k7, k8, k9, k10⟩ := hL0.v (v := (v).toNat) (by omega)
  refine r_getf C 11 (v := .ref (adr G (0, ((v)).toNat, 3))) (ok_of hG (kdv0 (Nat.zero_le 1) (by omega)) (by decide) (show (0 : Nat) ≤ 6 by decide)) (kdv0 (Nat.zero_le 1) (by omega)) (by decide) rfl hinX2 (by decide) (by decide +kernel) rfl rfl dX3_sounds_5 ?_
  refine r_aload_n C (k := 0) dX3_sounds_8 rfl ?_
  refine r_getf C 0 (v := .ref (adr G (0, 8, 0))) (ok_of hG (show kd (2, 0, 0) = _ from rfl) (by decide) (show (2 : Nat) ≤ 6 by decide)) (show kd (2, 0, 0) = _ from rfl) (by decide) rfl hinX3 (by decide) (by decide +kernel) rfl rfl dX3_sounds_9 ?_
  refine r_getf C 5 (ok_of hG (kdl0 (Nat.zero_le 1)) (by decide) (show (0 : Nat) ≤ 6 by decide)) (kdl0 (Nat.zero_le 1)) (by decide) rfl hinX0 (by decide) (by decide +kernel) rfl rfl dX3_sounds_12 ?_
  refine r_callV C (w' := w) [vI (w (0, 8, 0) (5))] 1 (c_X1_lasting hG (Nat.zero_le 1) (by omega) (by exact k10) (by first | assumption | omega | exact hr _ _ | exact hr0 _ _ | exact hrI _ _ | exact ⟨by omega, by omega⟩ | exact bI_inR _ | (simp [st1] <;> omega) | exact rowR.so (by assumption) (by simp))) gX3_sounds_X1_lasting rfl rfl rfl (by decide +kernel) (Nat.le_of_ble_eq_true rfl) (Nat.le_of_ble_eq_true rfl) ⟨(Nat.le_of_ble_eq_true rfl), (Nat.le_of_ble_eq_true rfl)⟩ (ok_of hG (kdv3 (Nat.zero_le 1) (by omega)) (by decide) (show (0 : Nat) ≤ 6 by decide)) (kdv3 (Nat.zero_le 1) (by omega)) (by decide) rfl rfl rfl (Nat.le_of_ble_eq_true rfl) (st' := [vI ((((s1last w 0 ((v)).toNat (w (0, 8, 0) (5)) (w (0, ((v)).toNat, 3) 4).toNat : Nat) : Int)))]) rfl dX3_sounds_15 (fun hr => ?_)
  refine Wm.x (by (repeat' split) <;> first | rfl | contradiction | (exfalso; omega) | (exfalso; simp_all; done) | (exfalso; simp_all; omega)) (Nat.le_of_ble_eq_true rfl) (Nat.le_of_ble_eq_true rfl) ?_
  exact r_iret C dX3_sounds_18 (by first | rfl | (simp [*]; done)) (by first | rfl | (simp [*]; done))

set_option maxRecDepth 100000 in
set_option maxHeartbeats 1500000 in
theorem c_X3_count {l : Launch} {G : Gt} (hG : Gok G) (hl9 : l.stackTraces = false)  {w : Mm} {a : Int} (ha : inR a) (hvb : 0 ≤ w (0, 8, 0) 1 ∧ w (0, 8, 0) 1 ≤ 8) : ConX l G yX3_count wsX3_count ({ frames := 6, cells := 1, slots := 6, locals := 86 } : Room) w [.ref (adr G (2, 0, 0)), vI a] ((if 0 ≤ a ∧ a ≤ 7 then none else eI)) (some (vI (s0fig w 0 (a).toNat))) w 1 6 := by
  refine ConX.head (cc := cX3_count) (nL := 2) (ret := (some .int)) hG (by decide +kernel) rfl (Nat.le_of_ble_eq_true rfl) ?_
  intro B A hBl hxt C hr
  have hB9 : B.2.1.stackTraces = false := by rw [hBl]; exact hl9
  have hr0 := hr
  have hrI := hr
  have hinX3 : ∀ w ∈ u_ws RX3 TX3 2, w ∈ wsX3_count := by decide +kernel
  refine r_iload_n C (k := 1) dX3_count_0 rfl ?_
  refine r_if_lt C (tgt := 10) dX3_count_1 (by decide) (by first | exact hr _ _ | exact hr0 _ _ | exact hrI _ _ | assumption | exact ⟨by omega, by omega⟩) (fun h_1 => ?_) (fun h_1 => ?_)
  · skip
    exact r_throw C hxt hB9 (ik := 107) (is := 133) (ic := 111) (E := "java/lang/IndexOutOfBoundsException") (text := "what is 0 to 7") (by (repeat' split) <;> first | rfl | contradiction | (exfalso; omega) | (exfalso; simp_all; done) | (exfalso; simp_all; omega)) rfl (by decide +kernel) (by decide +kernel) (by decide +kernel) (by decide +kernel) (by decide +kernel) (by decide +kernel) (by decide +kernel) dX3_count_10 dX3_count_13 dX3_count_14 dX3_count_16 dX3_count_19 (Nat.le_of_ble_eq_true rfl) (Nat.le_of_ble_eq_true rfl) (Nat.le_of_ble_eq_true rfl) (Nat.le_of_ble_eq_true rfl) (Nat.le_of_ble_eq_true rfl) (Nat.le_of_ble_eq_true rfl)
  · skip
    refine r_iload_n C (k := 1) dX3_count_4 rfl ?_
    refine r_bipush C dX3_count_5 (by decide) ?_
    refine r_icmp_lt C (tgt := 20) dX3_count_7 (by decide) (by first | exact hr _ _ | exact hr0 _ _ | exact hrI _ _ | assumption | exact ⟨by omega, by omega⟩) ⟨by decide, by decide⟩ (fun h_2 => ?_) (fun h_2 => ?_)
    · skip
      refine r_aload_n C (k := 0) dX3_count_20 rfl ?_
      refine r_getf C 0 (v := .ref (adr G (0, 8, 0))) (ok_of hG (show kd (2, 0, 0) = _ from rfl) (by decide) (show (2 : Nat) ≤ 6 by decide)) (show kd (2, 0, 0) = _ from rfl) (by decide) rfl hinX3 (by decide) (by decide +kernel) rfl rfl dX3_count_21 ?_
      refine r_iload_n C (k := 1) dX3_count_24 rfl ?_
      refine r_callV C (w' := w) [vI (a)] 1 (c_X0_figure hG (Nat.zero_le 1) (by first | assumption | omega | exact hr _ _ | exact hr0 _ _ | exact hrI _ _ | exact ⟨by omega, by omega⟩ | exact bI_inR _ | (simp [st1] <;> omega) | exact rowR.so (by assumption) (by simp)) (by first | assumption | omega | exact hr _ _ | exact hr0 _ _ | exact hrI _ _ | exact ⟨by omega, by omega⟩ | exact bI_inR _ | (simp [st1] <;> omega) | exact rowR.so (by assumption) (by simp))) gX3_count_X0_figure rfl rfl rfl (by decide +kernel) (Nat.le_of_ble_eq_true rfl) (Nat.le_of_ble_eq_true rfl) ⟨(Nat.le_of_ble_eq_true rfl), (Nat.le_of_ble_eq_true rfl)⟩ (ok_of hG (kdl0 (Nat.zero_le 1)) (by decide) (show (0 : Nat) ≤ 6 by decide)) (kdl0 (Nat.zero_le 1)) (by decide) rfl rfl rfl (Nat.le_of_ble_eq_true rfl) (st' := [vI ((s0fig w 0 ((a)).toNat))]) rfl dX3_count_25 (fun hr => ?_)
      refine Wm.x (by (repeat' split) <;> first | rfl | contradiction | (exfalso; omega) | (exfalso; simp_all; done) | (exfalso; simp_all; omega)) (Nat.le_of_ble_eq_true rfl) (Nat.le_of_ble_eq_true rfl) ?_
      exact r_iret C dX3_count_28 (by first | rfl | (simp [*]; done)) (by first | rfl | (simp [*]; done))
    · skip
      exact r_throw C hxt hB9 (ik := 107) (is := 133) (ic := 111) (E := "java/lang/IndexOutOfBoundsException") (text := "what is 0 to 7") (by (repeat' split) <;> first | rfl | contradiction | (exfalso; omega) | (exfalso; simp_all; done) | (exfalso; simp_all; omega)) rfl (by decide +kernel) (by decide +kernel) (by decide +kernel) (by decide +kernel) (by decide +kernel) (by decide +kernel) (by decide +kernel) dX3_count_10 dX3_count_13 dX3_count_14 dX3_count_16 dX3_count_19 (Nat.le_of_ble_eq_true rfl) (Nat.le_of_ble_eq_true rfl) (Nat.le_of_ble_eq_true rfl) (Nat.le_of_ble_eq_true rfl) (Nat.le_of_ble_eq_true rfl) (Nat.le_of_ble_eq_true rfl)

set_option maxRecDepth 100000 in
set_option maxHeartbeats 1500000 in
theorem c_X3_way {l : Launch} {G : Gt} (hG : Gok G) (hl9 : l.stackTraces = false)  {w : Mm} {v : Int} {u : Int} {N D : Int} {X : Nat → Int} (hv : inR v) (hu : inR u) (hL : LI w 0 N D X) : ConX l G yX3_way wsX3_way ({ frames := 7, cells := 2, slots := 12, locals := 103 } : Room) w [.ref (adr G (2, 0, 0)), vI v, vI u] ((if lV w v ∧ lV w u then none else eI)) (some (vI (wfd (lwm w (v).toNat) (u).toNat 8 0))) w 2 12 := by
  refine ConX.head (cc := cX3_way) (nL := 5) (ret := (some .int)) hG (by decide +kernel) rfl (Nat.le_of_ble_eq_true rfl) ?_
  intro B A hBl hxt C hr
  have hB9 : B.2.1.stackTraces = false := by rw [hBl]; exact hl9
  have hr0 := hr
  have hrI := hr
  have hinX3 : ∀ w ∈ u_ws RX3 TX3 2, w ∈ wsX3_way := by decide +kernel
  have hL0 := hL
  obtain ⟨⟨v1, v2⟩, ⟨p1, p2⟩, ⟨b1, b2⟩, ⟨d1, d2⟩, htc, hvs⟩ := hL
  refine r_aload_n C (k := 0) dX3_way_0 rfl ?_
  refine r_iload_n C (k := 1) dX3_way_1 rfl ?_
  refine r_callVX C hxt (w' := w) [vI (v)] 1 (c_X3_checkVillage hG hB9 (by first | assumption | omega | exact hr _ _ | exact hr0 _ _ | exact hrI _ _ | exact ⟨by omega, by omega⟩ | exact bI_inR _ | (simp [st1] <;> omega) | exact rowR.so (by assumption) (by simp))) (by intro E9 h9; revert h9; (repeat' split) <;> first | exact fun h => h | (exfalso; omega) | (intro h; cases h; done) | (exfalso; simp_all; done)) rfl (Nat.le_of_ble_eq_true rfl) (Nat.le_of_ble_eq_true rfl) gX3_way_X3_checkVillage rfl rfl rfl (by decide +kernel) (Nat.le_of_ble_eq_true rfl) (Nat.le_of_ble_eq_true rfl) ⟨(Nat.le_of_ble_eq_true rfl), (Nat.le_of_ble_eq_true rfl)⟩ (ok_of hG (show kd (2, 0, 0) = _ from rfl) (by decide) (show (2 : Nat) ≤ 6 by decide)) (show kd (2, 0, 0) = _ from rfl) (by decide) rfl rfl rfl (Nat.le_of_ble_eq_true rfl) (st' := []) rfl dX3_way_2 (fun ho9 hr => ?_)
  obtain ⟨xa_1, xb_1⟩ := iteN ho9
  refine r_aload_n C (k := 0) dX3_way_5 rfl ?_
  refine r_iload_n C (k := 2) dX3_way_6 rfl ?_
  refine r_callVX C hxt (w' := w) [vI (u)] 1 (c_X3_checkVillage hG hB9 (by first | assumption | omega | exact hr _ _ | exact hr0 _ _ | exact hrI _ _ | exact ⟨by omega, by omega⟩ | exact bI_inR _ | (simp [st1] <;> omega) | exact rowR.so (by assumption) (by simp))) (by intro E9 h9; revert h9; (repeat' split) <;> first | exact fun h => h | (exfalso; omega) | (intro h; cases h; done) | (exfalso; simp_all; done)) rfl (Nat.le_of_ble_eq_true rfl) (Nat.le_of_ble_eq_true rfl) gX3_way_X3_checkVillage rfl rfl rfl (by decide +kernel) (Nat.le_of_ble_eq_true rfl) (Nat.le_of_ble_eq_true rfl) ⟨(Nat.le_of_ble_eq_true rfl), (Nat.le_of_ble_eq_true rfl)⟩ (ok_of hG (show kd (2, 0, 0) = _ from rfl) (by decide) (show (2 : Nat) ≤ 6 by decide)) (show kd (2, 0, 0) = _ from rfl) (by decide) rfl rfl rfl (Nat.le_of_ble_eq_true rfl) (st' := []) rfl dX3_way_7 (fun ho9 hr => ?_)
  obtain ⟨xa_2, xb_2⟩ := iteN ho9
  refine r_iconst C dX3_way_10 ?_
  refine r_iload_n C (k := 1) dX3_way_11 rfl ?_
  refine Wm.top (z' := (((v).toNat : Nat) : Int)) (by omega) ?_
  refine r_ishl1 C dX3_way_12 (by omega) ?_
  refine r_istore_n C (i := 3) (lv' := [(3, vI (((2 ^ (v).toNat : Nat) : Int))), (0, .ref (adr G (2, 0, 0))), (1, vI (v)), (2, vI (u))]) dX3_way_13 rfl (by decide) rfl ?_
  refine r_iconst C dX3_way_14 ?_
  refine r_istore C (i := 4) (lv' := [(4, vI (0)), (3, vI (((2 ^ (v).toNat : Nat) : Int))), (0, .ref (adr G (2, 0, 0))), (1, vI (v)), (2, vI (u))]) dX3_way_15 (by decide) rfl ?_
  have loop_17 : ∀ (nf : Nat) (k : Nat), (k ≤ 8) → (wfd (lwm w (v).toNat) (u).toNat (8 - k) k = wfd (lwm w (v).toNat) (u).toNat 8 0) → 8 - k < nf → rng w → Wm B 5 G A (Qex B G A ((if lV w v ∧ lV w u then none else eI)) (some (vI (wfd (lwm w (v).toNat) (u).toNat 8 0))) w w 2 12) w (2) (12) 17 [(0, .ref (adr G (2, 0, 0))), (1, vI (v)), (2, vI (u)), (3, vI (((lwm w (v).toNat k : Nat) : Int))), (4, vI (((k : Nat) : Int)))] [] := by
    intro n17
    induction n17 with
    | zero => intro k hk hq hm; exact absurd hm (Nat.not_lt_zero _)
    | succ n17 ih17 =>
      intro k hk hq hm hr
      have hrI := hr
      have hlt := lwm_lt (w := w) (v := (v).toNat) (by omega) v2 k
      have hlt2 : lwm w (v).toNat k < 256 := hlt
      refine r_iload C (k := 4) dX3_way_17 rfl ?_
      refine r_bipush C dX3_way_19 (by decide) ?_
      refine r_icmp_ge C (tgt := 53) dX3_way_21 (by decide) (by first | exact hr _ _ | exact hr0 _ _ | exact hrI _ _ | assumption | exact ⟨by omega, by omega⟩) ⟨by decide, by decide⟩ (fun h_3 => ?_) (fun h_3 => ?_)
      · skip
        refine r_iconst C dX3_way_53 ?_
        refine Wm.x (by (repeat' split) <;> first | rfl | contradiction | (exfalso; omega) | (exfalso; simp_all; done) | (exfalso; simp_all; omega)) (Nat.le_of_ble_eq_true rfl) (Nat.le_of_ble_eq_true rfl) ?_
        exact r_iret C dX3_way_54 (by rw [← hq, wfd_0 (by omega)]) (by first | rfl | (simp [*]; done))
      · skip
        refine r_iload_n C (k := 3) dX3_way_24 rfl ?_
        refine r_iload_n C (k := 2) dX3_way_25 rfl ?_
        refine Wm.top (z' := (((u).toNat : Nat) : Int)) (by omega) ?_
        refine r_ishrN C dX3_way_26 (by omega) (by omega) ?_
        refine r_iconst C dX3_way_27 ?_
        refine r_iandN C dX3_way_28 (Nat.lt_of_le_of_lt (Nat.div_le_self _ _) (by omega)) ?_
        refine r_iconst C dX3_way_29 ?_
        refine r_icmp_ne C (tgt := 36) dX3_way_30 (by decide) (by first | exact hr _ _ | exact hr0 _ _ | exact hrI _ _ | assumption | exact ⟨by omega, by omega⟩) ⟨by decide, by decide⟩ (fun h_4 => ?_) (fun h_4 => ?_)
        · skip
          refine r_iload_n C (k := 3) dX3_way_36 rfl ?_
          refine r_aload_n C (k := 0) dX3_way_37 rfl ?_
          refine r_getf C 0 (v := .ref (adr G (0, 8, 0))) (ok_of hG (show kd (2, 0, 0) = _ from rfl) (by decide) (show (2 : Nat) ≤ 6 by decide)) (show kd (2, 0, 0) = _ from rfl) (by decide) rfl hinX3 (by decide) (by decide +kernel) rfl rfl dX3_way_38 ?_
          refine r_iload_n C (k := 3) dX3_way_41 rfl ?_
          refine r_callV C (w' := w) [vI (((lwm w (v).toNat k : Nat) : Int))] 1 (c_X0_hearersOf hG (Nat.zero_le 1) (by first | assumption | omega | exact hr _ _ | exact hr0 _ _ | exact hrI _ _ | exact ⟨by omega, by omega⟩ | exact bI_inR _ | (simp [st1] <;> omega) | exact rowR.so (by assumption) (by simp)) (by exact hlt)) gX3_way_X0_hearersOf rfl rfl rfl (by decide +kernel) (Nat.le_of_ble_eq_true rfl) (Nat.le_of_ble_eq_true rfl) ⟨(Nat.le_of_ble_eq_true rfl), (Nat.le_of_ble_eq_true rfl)⟩ (ok_of hG (kdl0 (Nat.zero_le 1)) (by decide) (show (0 : Nat) ≤ 6 by decide)) (kdl0 (Nat.zero_le 1)) (by decide) rfl rfl rfl (Nat.le_of_ble_eq_true rfl) (st' := [vI ((((hout w 0 (lwm w (v).toNat k) (w (0, 8, 0) 1).toNat (w (0, 8, 0) 1).toNat : Nat) : Int))), vI (((lwm w (v).toNat k : Nat) : Int))]) rfl dX3_way_42 (fun hr => ?_)
          refine r_iorN C dX3_way_45 ?_
          refine r_istore_n C (i := 3) (lv' := [(3, vI (((lwm w (v).toNat k ||| hout w 0 (lwm w (v).toNat k) (w (0, 8, 0) 1).toNat (w (0, 8, 0) 1).toNat : Nat) : Int))), (0, .ref (adr G (2, 0, 0))), (1, vI (v)), (2, vI (u)), (4, vI (((k : Nat) : Int)))]) dX3_way_46 rfl (by decide) rfl ?_
          refine r_iinc C (k := 4) (lv' := [(4, vI (((k + 1 : Nat) : Int))), (3, vI (((lwm w (v).toNat k ||| hout w 0 (lwm w (v).toNat k) (w (0, 8, 0) 1).toNat (w (0, 8, 0) 1).toNat : Nat) : Int))), (0, .ref (adr G (2, 0, 0))), (1, vI (v)), (2, vI (u))]) dX3_way_47 rfl (by decide) rfl ?_
          refine r_goto C (tgt := 17) dX3_way_50 (by decide) ?_
          have e_5 : w = w := by rfl
          refine Wm.sub (lv' := [(0, .ref (adr G (2, 0, 0))), (1, vI (v)), (2, vI (u)), (3, vI (((lwm w (v).toNat k ||| hout w 0 (lwm w (v).toNat k) (w (0, 8, 0) 1).toNat (w (0, 8, 0) 1).toNat : Nat) : Int))), (4, vI (((k + 1 : Nat) : Int)))]) [2, 3, 4, 1, 0] rfl ?_
          refine Wm.mem (lv' := [(0, .ref (adr G (2, 0, 0))), (1, vI (v)), (2, vI (u)), (3, vI (((lwm w (v).toNat (k + 1) : Nat) : Int))), (4, vI ((((k + 1) : Nat) : Int)))]) e_5 (by rfl) ?_
          refine Wm.widen (c2 := 2) (s2 := 12) (by omega) (by omega) ?_
          exact ih17 ((k + 1)) (by omega) (by rw [← hq]; exact (wfd_n (by omega) (by assumption)).symm) (by omega) (e_5 ▸ hr)
        · skip
          refine r_iload C (k := 4) dX3_way_33 rfl ?_
          refine Wm.x (by (repeat' split) <;> first | rfl | contradiction | (exfalso; omega) | (exfalso; simp_all; done) | (exfalso; simp_all; omega)) (Nat.le_of_ble_eq_true rfl) (Nat.le_of_ble_eq_true rfl) ?_
          exact r_iret C dX3_way_35 (by rw [← hq, wfd_e (by omega) (by assumption)]) (by first | rfl | (simp [*]; done))
  have e_6 : w = w := by rfl
  refine Wm.sub (lv' := [(0, .ref (adr G (2, 0, 0))), (1, vI (v)), (2, vI (u)), (3, vI (((2 ^ (v).toNat : Nat) : Int))), (4, vI (0))]) [2, 3, 4, 1, 0] rfl ?_
  refine Wm.mem (lv' := [(0, .ref (adr G (2, 0, 0))), (1, vI (v)), (2, vI (u)), (3, vI (((lwm w (v).toNat 0 : Nat) : Int))), (4, vI (((0 : Nat) : Int)))]) e_6 (by rfl) ?_
  refine Wm.widen (c2 := 2) (s2 := 12) (by omega) (by omega) ?_
  exact loop_17 _ (0) (by omega) (by rfl) (Nat.lt_succ_self _) (e_6 ▸ hr)

set_option maxRecDepth 100000 in
set_option maxHeartbeats 1500000 in
theorem c_X3_pass {l : Launch} {G : Gt} (hG : Gok G) (hl9 : l.stackTraces = false)  {w : Mm} {n : Int} {N D : Int} {X : Nat → Int} (hn : inR n) (hL : LI w 0 N D X) (hN : N ≤ 800000 ∧ D ≤ 800000000 ∧ ∀ u, u ≤ 7 → X u ≤ 800000000) : ConX l G yX3_pass wsX3_pass ({ frames := 6, cells := 1, slots := 6, locals := 120 } : Room) w [.ref (adr G (2, 0, 0)), vI n] ((if 1 ≤ n ∧ n ≤ 200 then none else eA)) (some (vI ((s0go 0 (n).toNat w).2))) ((s0go 0 (n).toNat w).1) 1 6 := by
  refine ConX.head (cc := cX3_pass) (nL := 2) (ret := (some .int)) hG (by decide +kernel) rfl (Nat.le_of_ble_eq_true rfl) ?_
  intro B A hBl hxt C hr
  have hB9 : B.2.1.stackTraces = false := by rw [hBl]; exact hl9
  have hr0 := hr
  have hrI := hr
  have hinX3 : ∀ w ∈ u_ws RX3 TX3 2, w ∈ wsX3_pass := by decide +kernel
  refine r_iload_n C (k := 1) dX3_pass_0 rfl ?_
  refine r_iconst C dX3_pass_1 ?_
  refine r_icmp_lt C (tgt := 12) dX3_pass_2 (by decide) (by first | exact hr _ _ | exact hr0 _ _ | exact hrI _ _ | assumption | exact ⟨by omega, by omega⟩) ⟨by decide, by decide⟩ (fun h_1 => ?_) (fun h_1 => ?_)
  · skip
    exact r_throw C hxt hB9 (ik := 26) (is := 143) (ic := 30) (E := "java/lang/IllegalArgumentException") (text := "beats are 1 to 200") (by (repeat' split) <;> first | rfl | contradiction | (exfalso; omega) | (exfalso; simp_all; done) | (exfalso; simp_all; omega)) rfl (by decide +kernel) (by decide +kernel) (by decide +kernel) (by decide +kernel) (by decide +kernel) (by decide +kernel) (by decide +kernel) dX3_pass_12 dX3_pass_15 dX3_pass_16 dX3_pass_18 dX3_pass_21 (Nat.le_of_ble_eq_true rfl) (Nat.le_of_ble_eq_true rfl) (Nat.le_of_ble_eq_true rfl) (Nat.le_of_ble_eq_true rfl) (Nat.le_of_ble_eq_true rfl) (Nat.le_of_ble_eq_true rfl)
  · skip
    refine r_iload_n C (k := 1) dX3_pass_5 rfl ?_
    refine r_sipush C dX3_pass_6 (by decide) ?_
    refine r_icmp_le C (tgt := 22) dX3_pass_9 (by decide) (by first | exact hr _ _ | exact hr0 _ _ | exact hrI _ _ | assumption | exact ⟨by omega, by omega⟩) ⟨by decide, by decide⟩ (fun h_2 => ?_) (fun h_2 => ?_)
    · skip
      refine r_aload_n C (k := 0) dX3_pass_22 rfl ?_
      refine r_getf C 0 (v := .ref (adr G (0, 8, 0))) (ok_of hG (show kd (2, 0, 0) = _ from rfl) (by decide) (show (2 : Nat) ≤ 6 by decide)) (show kd (2, 0, 0) = _ from rfl) (by decide) rfl hinX3 (by decide) (by decide +kernel) rfl rfl dX3_pass_23 ?_
      refine r_iload_n C (k := 1) dX3_pass_26 rfl ?_
      refine Wm.top (z' := (((n).toNat : Nat) : Int)) (by first | rfl | omega) ?_
      refine r_callV C (w' := ((s0go 0 (n).toNat w).1)) [vI ((((n).toNat : Nat) : Int))] 1 (c_X0_letGo hG (Nat.zero_le 1) (by first | assumption | omega | exact hr _ _ | exact hr0 _ _ | exact hrI _ _ | exact ⟨by omega, by omega⟩ | exact bI_inR _ | (simp [st1] <;> omega) | exact rowR.so (by assumption) (by simp)) (by first | assumption | omega | exact hr _ _ | exact hr0 _ _ | exact hrI _ _ | exact ⟨by omega, by omega⟩ | exact bI_inR _ | (simp [st1] <;> omega) | exact rowR.so (by assumption) (by simp)) (by first | assumption | omega | exact hr _ _ | exact hr0 _ _ | exact hrI _ _ | exact ⟨by omega, by omega⟩ | exact bI_inR _ | (simp [st1] <;> omega) | exact rowR.so (by assumption) (by simp))) gX3_pass_X0_letGo rfl rfl rfl (by decide +kernel) (Nat.le_of_ble_eq_true rfl) (Nat.le_of_ble_eq_true rfl) ⟨(Nat.le_of_ble_eq_true rfl), (Nat.le_of_ble_eq_true rfl)⟩ (ok_of hG (kdl0 (Nat.zero_le 1)) (by decide) (show (0 : Nat) ≤ 6 by decide)) (kdl0 (Nat.zero_le 1)) (by decide) rfl rfl rfl (Nat.le_of_ble_eq_true rfl) (st' := [vI (((s0go 0 (n).toNat w).2))]) rfl dX3_pass_27 (fun hr => ?_)
      refine Wm.x (by (repeat' split) <;> first | rfl | contradiction | (exfalso; omega) | (exfalso; simp_all; done) | (exfalso; simp_all; omega)) (Nat.le_of_ble_eq_true rfl) (Nat.le_of_ble_eq_true rfl) ?_
      exact r_iret C dX3_pass_30 (by first | rfl | (simp [*]; done)) (by first | rfl | (simp [*]; done))
    · skip
      exact r_throw C hxt hB9 (ik := 26) (is := 143) (ic := 30) (E := "java/lang/IllegalArgumentException") (text := "beats are 1 to 200") (by (repeat' split) <;> first | rfl | contradiction | (exfalso; omega) | (exfalso; simp_all; done) | (exfalso; simp_all; omega)) rfl (by decide +kernel) (by decide +kernel) (by decide +kernel) (by decide +kernel) (by decide +kernel) (by decide +kernel) (by decide +kernel) dX3_pass_12 dX3_pass_15 dX3_pass_16 dX3_pass_18 dX3_pass_21 (Nat.le_of_ble_eq_true rfl) (Nat.le_of_ble_eq_true rfl) (Nat.le_of_ble_eq_true rfl) (Nat.le_of_ble_eq_true rfl) (Nat.le_of_ble_eq_true rfl) (Nat.le_of_ble_eq_true rfl)
