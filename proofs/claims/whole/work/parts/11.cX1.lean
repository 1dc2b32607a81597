/-! DrumTalk$Sounds: what its methods do to the memory -/
def s1add (w : Mm) (t v : Nat) (p f b : Int) : Mm :=
  if w (t, v, 3) 4 < 112 then
    st1 (st1 (st1 (st1 (st1 w (t, v, 4) (w (t, v, 3) 4).toNat p) (t, v, 5) (w (t, v, 3) 4).toNat f) (t, v, 6) (w (t, v, 3) 4).toNat (f + b - 1)) (t, v, 7) (w (t, v, 3) 4).toNat 0) (t, v, 3) 4 (w (t, v, 3) 4 + 1)
  else w
def s1mv (w : Mm) (t v : Nat) (a b : Nat) : Mm :=
  st1 (st1 (st1 (st1 w (t, v, 4) b (w (t, v, 4) a)) (t, v, 5) b (w (t, v, 5) a)) (t, v, 6) b (w (t, v, 6) a)) (t, v, 7) b (w (t, v, 7) a)
def s1move (w : Mm) (t v : Nat) (a b : Int) : Mm :=
  if b < 0 ∨ a ≤ b ∨ w (t, v, 3) 4 ≤ a then w else s1mv w t v a.toNat b.toNat
def s1cp (w : Mm) (t v t2 v2 : Nat) : Mm :=
  st1 (cpy (cpy (cpy (cpy w (t2, v2, 4) (t, v, 4) 0 0 (w (t2, v2, 3) 4).toNat) (t2, v2, 5) (t, v, 5) 0 0 (w (t2, v2, 3) 4).toNat) (t2, v2, 6) (t, v, 6) 0 0 (w (t2, v2, 3) 4).toNat) (t2, v2, 7) (t, v, 7) 0 0 (w (t2, v2, 3) 4).toNat) (t, v, 3) 4 (w (t2, v2, 3) 4)
theorem s1cp_off {w : Mm} {t v t2 v2 : Nat} {k : Ky} {j : Nat} (h3 : k ≠ (t, v, 3)) (h4 : k ≠ (t, v, 4)) (h5 : k ≠ (t, v, 5)) (h6 : k ≠ (t, v, 6)) (h7 : k ≠ (t, v, 7)) : s1cp w t v t2 v2 k j = w k j := by
  simp [s1cp, st1, cpy, h3, h4, h5, h6, h7]
def s1last (w : Mm) (t v : Nat) (b : Int) : Nat → Nat
  | 0 => 0
  | n + 1 => if b < w (t, v, 5) n then s1last w t v b n else s1last w t v b n + 1
theorem s1last_le (w : Mm) (t v : Nat) (b : Int) : ∀ n, s1last w t v b n ≤ n
  | 0 => Nat.le_refl 0
  | n + 1 => by
    have := s1last_le w t v b n
    unfold s1last
    split <;> omega
def s1drown (w : Mm) (t v : Nat) (b : Int) : Nat → Mm
  | 0 => w
  | n + 1 => if b < w (t, v, 5) n then s1drown w t v b n else st1 (s1drown w t v b n) (t, v, 7) n 1
theorem s1drown_off {w : Mm} {t v : Nat} {b : Int} {k : Ky} {j : Nat} (h : k ≠ (t, v, 7)) : ∀ n, s1drown w t v b n k j = w k j
  | 0 => rfl
  | n + 1 => by
    have ih := s1drown_off (w := w) (t := t) (v := v) (b := b) (j := j) h n
    unfold s1drown
    split
    · exact ih
    · rw [st1_k h]
      exact ih

set_option maxRecDepth 100000 in
set_option maxHeartbeats 8000000 in
theorem c_X1_add {l : Launch} {G : Gt} (hG : Gok G) {t : Nat} {v : Nat} (ht : t ≤ 1) (hv : v ≤ 7) {w : Mm} {p : Int} {f : Int} {b : Int} (hz : 0 ≤ w (t, v, 3) 4 ∧ w (t, v, 3) 4 ≤ 112) (hp : inR p) (hf : inR f) (hb : inR (f + b - 1)) : Con l G yX1_add wsX1_add ({ frames := 0, cells := 0, slots := 0, locals := 0 } : Room) w [.ref (adr G (t, v, 3)), vI p, vI f, vI b] none (s1add w t v p f b) 0 0 := by
  refine Con.head (cc := cX1_add) (nL := 4) (ret := none) hG (by decide +kernel) rfl (Nat.le_of_ble_eq_true rfl) ?_
  intro B A hBl C hr
  have hr0 := hr
  have hrI := hr
  have hinX1 : ∀ w ∈ u_ws RX1 TX1 5, w ∈ wsX1_add := by decide +kernel
  obtain ⟨hz1, hz2⟩ := hz
  refine r_aload_n C (k := 0) dX1_add_0 rfl ?_
  refine r_getf C 4 (ok_of hG (kdv3 ht hv) (by decide) (Nat.le_trans ht (by decide))) (kdv3 ht hv) (by decide) rfl hinX1 (by decide) (by decide +kernel) rfl rfl dX1_add_1 ?_
  refine r_bipush C dX1_add_4 (by decide) ?_
  refine r_icmp_lt C (tgt := 10) dX1_add_6 (by decide) (by first | exact hr _ _ | exact hr0 _ _ | exact hrI _ _ | assumption | exact ⟨by omega, by omega⟩) ⟨by decide, by decide⟩ (fun h_1 => ?_) (fun h_1 => ?_)
  · skip
    refine r_aload_n C (k := 0) dX1_add_10 rfl ?_
    refine r_getf C 0 (v := .ref (adr G (t, v, 4))) (ok_of hG (kdv3 ht hv) (by decide) (Nat.le_trans ht (by decide))) (kdv3 ht hv) (by decide) rfl hinX1 (by decide) (by decide +kernel) rfl rfl dX1_add_11 ?_
    refine r_aload_n C (k := 0) dX1_add_14 rfl ?_
    refine r_getf C 4 (ok_of hG (kdv3 ht hv) (by decide) (Nat.le_trans ht (by decide))) (kdv3 ht hv) (by decide) rfl hinX1 (by decide) (by decide +kernel) rfl rfl dX1_add_15 ?_
    refine r_iload_n C (k := 1) dX1_add_18 rfl ?_
    refine r_iast C ((w (t, v, 3) (4)).toNat) hr (by first | exact hr _ _ | exact hr0 _ _ | exact hrI _ _ | assumption | exact ⟨by omega, by omega⟩) (ok_of hG (kdv4 ht hv) (by decide) (Nat.le_trans ht (by decide))) (kdv4 ht hv) (Int.toNat_of_nonneg (by first | omega | assumption)).symm (by first | omega | assumption) (by decide) dX1_add_19 (fun hr => ?_)
    refine r_aload_n C (k := 0) dX1_add_20 rfl ?_
    refine r_getf C 1 (v := .ref (adr G (t, v, 5))) (ok_of hG (kdv3 ht hv) (by decide) (Nat.le_trans ht (by decide))) (kdv3 ht hv) (by decide) rfl hinX1 (by decide) (by decide +kernel) rfl rfl dX1_add_21 ?_
    refine r_aload_n C (k := 0) dX1_add_24 rfl ?_
    refine r_getf C 4 (ok_of hG (kdv3 ht hv) (by decide) (Nat.le_trans ht (by decide))) (kdv3 ht hv) (by decide) rfl hinX1 (by decide) (by decide +kernel) rfl rfl dX1_add_25 ?_
    refine Wm.top (z' := w (t, v, 3) (4)) (by simp [st1, cpy]) ?_
    refine r_iload_n C (k := 2) dX1_add_28 rfl ?_
    refine r_iast C ((w (t, v, 3) (4)).toNat) hr (by first | exact hr _ _ | exact hr0 _ _ | exact hrI _ _ | assumption | exact ⟨by omega, by omega⟩) (ok_of hG (kdv5 ht hv) (by decide) (Nat.le_trans ht (by decide))) (kdv5 ht hv) (Int.toNat_of_nonneg (by first | omega | assumption)).symm (by first | omega | assumption) (by decide) dX1_add_29 (fun hr => ?_)
    refine r_aload_n C (k := 0) dX1_add_30 rfl ?_
    refine r_getf C 2 (v := .ref (adr G (t, v, 6))) (ok_of hG (kdv3 ht hv) (by decide) (Nat.le_trans ht (by decide))) (kdv3 ht hv) (by decide) rfl hinX1 (by decide) (by decide +kernel) rfl rfl dX1_add_31 ?_
    refine r_aload_n C (k := 0) dX1_add_34 rfl ?_
    refine r_getf C 4 (ok_of hG (kdv3 ht hv) (by decide) (Nat.le_trans ht (by decide))) (kdv3 ht hv) (by decide) rfl hinX1 (by decide) (by decide +kernel) rfl rfl dX1_add_35 ?_
    refine Wm.top (z' := w (t, v, 3) (4)) (by simp [st1, cpy]) ?_
    refine r_iload_n C (k := 2) dX1_add_38 rfl ?_
    refine r_iload_n C (k := 3) dX1_add_39 rfl ?_
    refine r_iadd C dX1_add_40 ?_
    refine r_iconst C dX1_add_41 ?_
    refine r_isub C dX1_add_42 ?_
    refine r_iast C ((w (t, v, 3) (4)).toNat) hr (by first | exact hr _ _ | exact hr0 _ _ | exact hrI _ _ | assumption | exact ⟨by omega, by omega⟩) (ok_of hG (kdv6 ht hv) (by decide) (Nat.le_trans ht (by decide))) (kdv6 ht hv) (Int.toNat_of_nonneg (by first | omega | assumption)).symm (by first | omega | assumption) (by decide) dX1_add_43 (fun hr => ?_)
    refine r_aload_n C (k := 0) dX1_add_44 rfl ?_
    refine r_getf C 3 (v := .ref (adr G (t, v, 7))) (ok_of hG (kdv3 ht hv) (by decide) (Nat.le_trans ht (by decide))) (kdv3 ht hv) (by decide) rfl hinX1 (by decide) (by decide +kernel) rfl rfl dX1_add_45 ?_
    refine r_aload_n C (k := 0) dX1_add_48 rfl ?_
    refine r_getf C 4 (ok_of hG (kdv3 ht hv) (by decide) (Nat.le_trans ht (by decide))) (kdv3 ht hv) (by decide) rfl hinX1 (by decide) (by decide +kernel) rfl rfl dX1_add_49 ?_
    refine Wm.top (z' := w (t, v, 3) (4)) (by simp [st1, cpy]) ?_
    refine r_iconst C dX1_add_52 ?_
    refine r_iast C ((w (t, v, 3) (4)).toNat) hr ⟨by decide, by decide⟩ (ok_of hG (kdv7 ht hv) (by decide) (Nat.le_trans ht (by decide))) (kdv7 ht hv) (Int.toNat_of_nonneg (by first | omega | assumption)).symm (by first | omega | assumption) (by decide) dX1_add_53 (fun hr => ?_)
    refine r_aload_n C (k := 0) dX1_add_54 rfl ?_
    refine r_dup C dX1_add_55 rfl ?_
    refine r_getf C 4 (ok_of hG (kdv3 ht hv) (by decide) (Nat.le_trans ht (by decide))) (kdv3 ht hv) (by decide) rfl hinX1 (by decide) (by decide +kernel) rfl rfl dX1_add_56 ?_
    refine Wm.top (z' := w (t, v, 3) (4)) (by simp [st1, cpy]) ?_
    refine r_iconst C dX1_add_59 ?_
    refine r_iadd C dX1_add_60 ?_
    refine r_putf C 4 hr (by first | exact hr _ _ | exact hr0 _ _ | exact hrI _ _ | assumption | exact ⟨by omega, by omega⟩) (ok_of hG (kdv3 ht hv) (by decide) (Nat.le_trans ht (by decide))) (kdv3 ht hv) (by decide) rfl hinX1 tyX1_ok nmX1 (by decide) (by decide +kernel) rfl rfl (ty := .int) (by decide +kernel) rfl rfl rfl (Nat.le_of_ble_eq_true rfl) dX1_add_61 (fun hr => ?_)
    exact r_vret C dX1_add_64 (by first | rfl | (unfold s1add; rw [if_pos (by assumption)]) | (unfold s1add; rw [if_neg (by omega)]))
  · skip
    exact r_vret C dX1_add_9 (by first | rfl | (unfold s1add; rw [if_pos (by assumption)]) | (unfold s1add; rw [if_neg (by omega)]))

set_option maxRecDepth 100000 in
set_option maxHeartbeats 8000000 in
theorem c_X1_move {l : Launch} {G : Gt} (hG : Gok G) {t : Nat} {v : Nat} (ht : t ≤ 1) (hv : v ≤ 7) {w : Mm} {a : Int} {b : Int} (hz : 0 ≤ w (t, v, 3) 4 ∧ w (t, v, 3) 4 ≤ 112) (ha : inR a) (hb : inR b) : Con l G yX1_move wsX1_move ({ frames := 0, cells := 0, slots := 0, locals := 0 } : Room) w [.ref (adr G (t, v, 3)), vI a, vI b] none (s1move w t v a b) 0 0 := by
  refine Con.head (cc := cX1_move) (nL := 3) (ret := none) hG (by decide +kernel) rfl (Nat.le_of_ble_eq_true rfl) ?_
  intro B A hBl C hr
  have hr0 := hr
  have hrI := hr
  have hinX1 : ∀ w ∈ u_ws RX1 TX1 5, w ∈ wsX1_move := by decide +kernel
  obtain ⟨hz1, hz2⟩ := hz
  refine r_iload_n C (k := 2) dX1_move_0 rfl ?_
  refine r_if_lt C (tgt := 17) dX1_move_1 (by decide) (by first | exact hr _ _ | exact hr0 _ _ | exact hrI _ _ | assumption | exact ⟨by omega, by omega⟩) (fun h_1 => ?_) (fun h_1 => ?_)
  · skip
    exact r_vret C dX1_move_17 (by first | (unfold s1move; rw [if_pos (by omega)]) | (unfold s1move; rw [if_neg (by omega)]; rfl))
  · skip
    refine r_iload_n C (k := 2) dX1_move_4 rfl ?_
    refine r_iload_n C (k := 1) dX1_move_5 rfl ?_
    refine r_icmp_ge C (tgt := 17) dX1_move_6 (by decide) (by first | exact hr _ _ | exact hr0 _ _ | exact hrI _ _ | assumption | exact ⟨by omega, by omega⟩) (by first | exact hr _ _ | exact hr0 _ _ | exact hrI _ _ | assumption | exact ⟨by omega, by omega⟩) (fun h_2 => ?_) (fun h_2 => ?_)
    · skip
      exact r_vret C dX1_move_17 (by first | (unfold s1move; rw [if_pos (by omega)]) | (unfold s1move; rw [if_neg (by omega)]; rfl))
    · skip
      refine r_iload_n C (k := 1) dX1_move_9 rfl ?_
      refine r_aload_n C (k := 0) dX1_move_10 rfl ?_
      refine r_getf C 4 (ok_of hG (kdv3 ht hv) (by decide) (Nat.le_trans ht (by decide))) (kdv3 ht hv) (by decide) rfl hinX1 (by decide) (by decide +kernel) rfl rfl dX1_move_11 ?_
      refine r_icmp_lt C (tgt := 18) dX1_move_14 (by decide) (by first | exact hr _ _ | exact hr0 _ _ | exact hrI _ _ | assumption | exact ⟨by omega, by omega⟩) (by first | exact hr _ _ | exact hr0 _ _ | exact hrI _ _ | assumption | exact ⟨by omega, by omega⟩) (fun h_3 => ?_) (fun h_3 => ?_)
      · skip
        refine r_aload_n C (k := 0) dX1_move_18 rfl ?_
        refine r_getf C 0 (v := .ref (adr G (t, v, 4))) (ok_of hG (kdv3 ht hv) (by decide) (Nat.le_trans ht (by decide))) (kdv3 ht hv) (by decide) rfl hinX1 (by decide) (by decide +kernel) rfl rfl dX1_move_19 ?_
        refine r_iload_n C (k := 2) dX1_move_22 rfl ?_
        refine r_aload_n C (k := 0) dX1_move_23 rfl ?_
        refine r_getf C 0 (v := .ref (adr G (t, v, 4))) (ok_of hG (kdv3 ht hv) (by decide) (Nat.le_trans ht (by decide))) (kdv3 ht hv) (by decide) rfl hinX1 (by decide) (by decide +kernel) rfl rfl dX1_move_24 ?_
        refine r_iload_n C (k := 1) dX1_move_27 rfl ?_
        refine r_iald C ((a).toNat) (ok_of hG (kdv4 ht hv) (by decide) (Nat.le_trans ht (by decide))) (kdv4 ht hv) (Int.toNat_of_nonneg (by first | omega | assumption)).symm (by first | omega | assumption) (by decide) dX1_move_28 ?_
        refine r_iast C ((b).toNat) hr (by first | exact hr _ _ | exact hr0 _ _ | exact hrI _ _ | assumption | exact ⟨by omega, by omega⟩) (ok_of hG (kdv4 ht hv) (by decide) (Nat.le_trans ht (by decide))) (kdv4 ht hv) (Int.toNat_of_nonneg (by first | omega | assumption)).symm (by first | omega | assumption) (by decide) dX1_move_29 (fun hr => ?_)
        refine r_aload_n C (k := 0) dX1_move_30 rfl ?_
        refine r_getf C 1 (v := .ref (adr G (t, v, 5))) (ok_of hG (kdv3 ht hv) (by decide) (Nat.le_trans ht (by decide))) (kdv3 ht hv) (by decide) rfl hinX1 (by decide) (by decide +kernel) rfl rfl dX1_move_31 ?_
        refine r_iload_n C (k := 2) dX1_move_34 rfl ?_
        refine r_aload_n C (k := 0) dX1_move_35 rfl ?_
        refine r_getf C 1 (v := .ref (adr G (t, v, 5))) (ok_of hG (kdv3 ht hv) (by decide) (Nat.le_trans ht (by decide))) (kdv3 ht hv) (by decide) rfl hinX1 (by decide) (by decide +kernel) rfl rfl dX1_move_36 ?_
        refine r_iload_n C (k := 1) dX1_move_39 rfl ?_
        refine r_iald C ((a).toNat) (ok_of hG (kdv5 ht hv) (by decide) (Nat.le_trans ht (by decide))) (kdv5 ht hv) (Int.toNat_of_nonneg (by first | omega | assumption)).symm (by first | omega | assumption) (by decide) dX1_move_40 ?_
        refine Wm.top (z' := w (t, v, 5) ((a).toNat)) (by simp [st1, cpy]) ?_
        refine r_iast C ((b).toNat) hr (by first | exact hr _ _ | exact hr0 _ _ | exact hrI _ _ | assumption | exact ⟨by omega, by omega⟩) (ok_of hG (kdv5 ht hv) (by decide) (Nat.le_trans ht (by decide))) (kdv5 ht hv) (Int.toNat_of_nonneg (by first | omega | assumption)).symm (by first | omega | assumption) (by decide) dX1_move_41 (fun hr => ?_)
        refine r_aload_n C (k := 0) dX1_move_42 rfl ?_
        refine r_getf C 2 (v := .ref (adr G (t, v, 6))) (ok_of hG (kdv3 ht hv) (by decide) (Nat.le_trans ht (by decide))) (kdv3 ht hv) (by decide) rfl hinX1 (by decide) (by decide +kernel) rfl rfl dX1_move_43 ?_
        refine r_iload_n C (k := 2) dX1_move_46 rfl ?_
        refine r_aload_n C (k := 0) dX1_move_47 rfl ?_
        refine r_getf C 2 (v := .ref (adr G (t, v, 6))) (ok_of hG (kdv3 ht hv) (by decide) (Nat.le_trans ht (by decide))) (kdv3 ht hv) (by decide) rfl hinX1 (by decide) (by decide +kernel) rfl rfl dX1_move_48 ?_
        refine r_iload_n C (k := 1) dX1_move_51 rfl ?_
        refine r_iald C ((a).toNat) (ok_of hG (kdv6 ht hv) (by decide) (Nat.le_trans ht (by decide))) (kdv6 ht hv) (Int.toNat_of_nonneg (by first | omega | assumption)).symm (by first | omega | assumption) (by decide) dX1_move_52 ?_
        refine Wm.top (z' := w (t, v, 6) ((a).toNat)) (by simp [st1, cpy]) ?_
        refine r_iast C ((b).toNat) hr (by first | exact hr _ _ | exact hr0 _ _ | exact hrI _ _ | assumption | exact ⟨by omega, by omega⟩) (ok_of hG (kdv6 ht hv) (by decide) (Nat.le_trans ht (by decide))) (kdv6 ht hv) (Int.toNat_of_nonneg (by first | omega | assumption)).symm (by first | omega | assumption) (by decide) dX1_move_53 (fun hr => ?_)
        refine r_aload_n C (k := 0) dX1_move_54 rfl ?_
        refine r_getf C 3 (v := .ref (adr G (t, v, 7))) (ok_of hG (kdv3 ht hv) (by decide) (Nat.le_trans ht (by decide))) (kdv3 ht hv) (by decide) rfl hinX1 (by decide) (by decide +kernel) rfl rfl dX1_move_55 ?_
        refine r_iload_n C (k := 2) dX1_move_58 rfl ?_
        refine r_aload_n C (k := 0) dX1_move_59 rfl ?_
        refine r_getf C 3 (v := .ref (adr G (t, v, 7))) (ok_of hG (kdv3 ht hv) (by decide) (Nat.le_trans ht (by decide))) (kdv3 ht hv) (by decide) rfl hinX1 (by decide) (by decide +kernel) rfl rfl dX1_move_60 ?_
        refine r_iload_n C (k := 1) dX1_move_63 rfl ?_
        refine r_iald C ((a).toNat) (ok_of hG (kdv7 ht hv) (by decide) (Nat.le_trans ht (by decide))) (kdv7 ht hv) (Int.toNat_of_nonneg (by first | omega | assumption)).symm (by first | omega | assumption) (by decide) dX1_move_64 ?_
        refine Wm.top (z' := w (t, v, 7) ((a).toNat)) (by simp [st1, cpy]) ?_
        refine r_iast C ((b).toNat) hr (by first | exact hr _ _ | exact hr0 _ _ | exact hrI _ _ | assumption | exact ⟨by omega, by omega⟩) (ok_of hG (kdv7 ht hv) (by decide) (Nat.le_trans ht (by decide))) (kdv7 ht hv) (Int.toNat_of_nonneg (by first | omega | assumption)).symm (by first | omega | assumption) (by decide) dX1_move_65 (fun hr => ?_)
        exact r_vret C dX1_move_66 (by first | (unfold s1move; rw [if_pos (by omega)]) | (unfold s1move; rw [if_neg (by omega)]; rfl))
      · skip
        exact r_vret C dX1_move_17 (by first | (unfold s1move; rw [if_pos (by omega)]) | (unfold s1move; rw [if_neg (by omega)]; rfl))

set_option maxRecDepth 100000 in
set_option maxHeartbeats 8000000 in
theorem c_X1_copy {l : Launch} {G : Gt} (hG : Gok G) {t : Nat} {v : Nat} {t2 : Nat} {v2 : Nat} (ht : t ≤ 1) (hv : v ≤ 7) (ht2 : t2 ≤ 1) (hv2 : v2 ≤ 7) {w : Mm} (hz : 0 ≤ w (t2, v2, 3) 4 ∧ w (t2, v2, 3) 4 ≤ 112) (hne : t ≠ t2) : Con l G yX1_copy wsX1_copy ({ frames := 1, cells := 0, slots := 0, locals := 26 } : Room) w [.ref (adr G (t, v, 3)), .ref (adr G (t2, v2, 3))] none (s1cp w t v t2 v2) 0 0 := by
  refine Con.head (cc := cX1_copy) (nL := 2) (ret := none) hG (by decide +kernel) rfl (Nat.le_of_ble_eq_true rfl) ?_
  intro B A hBl C hr
  have hr0 := hr
  have hrI := hr
  have hinX1 : ∀ w ∈ u_ws RX1 TX1 5, w ∈ wsX1_copy := by decide +kernel
  obtain ⟨hz1, hz2⟩ := hz
  refine r_aload_n C (k := 1) dX1_copy_0 rfl ?_
  refine r_getf C 0 (v := .ref (adr G (t2, v2, 4))) (ok_of hG (kdv3 ht2 hv2) (by decide) (Nat.le_trans ht2 (by decide))) (kdv3 ht2 hv2) (by decide) rfl hinX1 (by decide) (by decide +kernel) rfl rfl dX1_copy_1 ?_
  refine r_iconst C dX1_copy_4 ?_
  refine r_aload_n C (k := 0) dX1_copy_5 rfl ?_
  refine r_getf C 0 (v := .ref (adr G (t, v, 4))) (ok_of hG (kdv3 ht hv) (by decide) (Nat.le_trans ht (by decide))) (kdv3 ht hv) (by decide) rfl hinX1 (by decide) (by decide +kernel) rfl rfl dX1_copy_6 ?_
  refine r_iconst C dX1_copy_9 ?_
  refine r_aload_n C (k := 1) dX1_copy_10 rfl ?_
  refine r_getf C 4 (ok_of hG (kdv3 ht2 hv2) (by decide) (Nat.le_trans ht2 (by decide))) (kdv3 ht2 hv2) (by decide) rfl hinX1 (by decide) (by decide +kernel) rfl rfl dX1_copy_11 ?_
  refine r_copy C (0) (0) ((w (t2, v2, 3) (4)).toNat) hr (ok_of hG (kdv4 ht2 hv2) (by decide) (Nat.le_trans ht2 (by decide))) (ok_of hG (kdv4 ht hv) (by decide) (Nat.le_trans ht (by decide))) (kdv4 ht2 hv2) (kdv4 ht hv) rfl rfl (Int.toNat_of_nonneg (by first | omega | assumption)).symm (by first | omega | assumption) (by first | omega | assumption) (by decide) (by decide) (by decide +kernel) (by decide +kernel) (by decide +kernel) (by decide +kernel) (Nat.le_of_ble_eq_true rfl) (Nat.le_of_ble_eq_true rfl) dX1_copy_14 (fun hr => ?_)
  refine r_aload_n C (k := 1) dX1_copy_17 rfl ?_
  refine r_getf C 1 (v := .ref (adr G (t2, v2, 5))) (ok_of hG (kdv3 ht2 hv2) (by decide) (Nat.le_trans ht2 (by decide))) (kdv3 ht2 hv2) (by decide) rfl hinX1 (by decide) (by decide +kernel) rfl rfl dX1_copy_18 ?_
  refine r_iconst C dX1_copy_21 ?_
  refine r_aload_n C (k := 0) dX1_copy_22 rfl ?_
  refine r_getf C 1 (v := .ref (adr G (t, v, 5))) (ok_of hG (kdv3 ht hv) (by decide) (Nat.le_trans ht (by decide))) (kdv3 ht hv) (by decide) rfl hinX1 (by decide) (by decide +kernel) rfl rfl dX1_copy_23 ?_
  refine r_iconst C dX1_copy_26 ?_
  refine r_aload_n C (k := 1) dX1_copy_27 rfl ?_
  refine r_getf C 4 (ok_of hG (kdv3 ht2 hv2) (by decide) (Nat.le_trans ht2 (by decide))) (kdv3 ht2 hv2) (by decide) rfl hinX1 (by decide) (by decide +kernel) rfl rfl dX1_copy_28 ?_
  refine Wm.top (z' := w (t2, v2, 3) (4)) (by simp [st1, cpy]) ?_
  refine r_copy C (0) (0) ((w (t2, v2, 3) (4)).toNat) hr (ok_of hG (kdv5 ht2 hv2) (by decide) (Nat.le_trans ht2 (by decide))) (ok_of hG (kdv5 ht hv) (by decide) (Nat.le_trans ht (by decide))) (kdv5 ht2 hv2) (kdv5 ht hv) rfl rfl (Int.toNat_of_nonneg (by first | omega | assumption)).symm (by first | omega | assumption) (by first | omega | assumption) (by decide) (by decide) (by decide +kernel) (by decide +kernel) (by decide +kernel) (by decide +kernel) (Nat.le_of_ble_eq_true rfl) (Nat.le_of_ble_eq_true rfl) dX1_copy_31 (fun hr => ?_)
  refine r_aload_n C (k := 1) dX1_copy_34 rfl ?_
  refine r_getf C 2 (v := .ref (adr G (t2, v2, 6))) (ok_of hG (kdv3 ht2 hv2) (by decide) (Nat.le_trans ht2 (by decide))) (kdv3 ht2 hv2) (by decide) rfl hinX1 (by decide) (by decide +kernel) rfl rfl dX1_copy_35 ?_
  refine r_iconst C dX1_copy_38 ?_
  refine r_aload_n C (k := 0) dX1_copy_39 rfl ?_
  refine r_getf C 2 (v := .ref (adr G (t, v, 6))) (ok_of hG (kdv3 ht hv) (by decide) (Nat.le_trans ht (by decide))) (kdv3 ht hv) (by decide) rfl hinX1 (by decide) (by decide +kernel) rfl rfl dX1_copy_40 ?_
  refine r_iconst C dX1_copy_43 ?_
  refine r_aload_n C (k := 1) dX1_copy_44 rfl ?_
  refine r_getf C 4 (ok_of hG (kdv3 ht2 hv2) (by decide) (Nat.le_trans ht2 (by decide))) (kdv3 ht2 hv2) (by decide) rfl hinX1 (by decide) (by decide +kernel) rfl rfl dX1_copy_45 ?_
  refine Wm.top (z' := w (t2, v2, 3) (4)) (by simp [st1, cpy]) ?_
  refine r_copy C (0) (0) ((w (t2, v2, 3) (4)).toNat) hr (ok_of hG (kdv6 ht2 hv2) (by decide) (Nat.le_trans ht2 (by decide))) (ok_of hG (kdv6 ht hv) (by decide) (Nat.le_trans ht (by decide))) (kdv6 ht2 hv2) (kdv6 ht hv) rfl rfl (Int.toNat_of_nonneg (by first | omega | assumption)).symm (by first | omega | assumption) (by first | omega | assumption) (by decide) (by decide) (by decide +kernel) (by decide +kernel) (by decide +kernel) (by decide +kernel) (Nat.le_of_ble_eq_true rfl) (Nat.le_of_ble_eq_true rfl) dX1_copy_48 (fun hr => ?_)
  refine r_aload_n C (k := 1) dX1_copy_51 rfl ?_
  refine r_getf C 3 (v := .ref (adr G (t2, v2, 7))) (ok_of hG (kdv3 ht2 hv2) (by decide) (Nat.le_trans ht2 (by decide))) (kdv3 ht2 hv2) (by decide) rfl hinX1 (by decide) (by decide +kernel) rfl rfl dX1_copy_52 ?_
  refine r_iconst C dX1_copy_55 ?_
  refine r_aload_n C (k := 0) dX1_copy_56 rfl ?_
  refine r_getf C 3 (v := .ref (adr G (t, v, 7))) (ok_of hG (kdv3 ht hv) (by decide) (Nat.le_trans ht (by decide))) (kdv3 ht hv) (by decide) rfl hinX1 (by decide) (by decide +kernel) rfl rfl dX1_copy_57 ?_
  refine r_iconst C dX1_copy_60 ?_
  refine r_aload_n C (k := 1) dX1_copy_61 rfl ?_
  refine r_getf C 4 (ok_of hG (kdv3 ht2 hv2) (by decide) (Nat.le_trans ht2 (by decide))) (kdv3 ht2 hv2) (by decide) rfl hinX1 (by decide) (by decide +kernel) rfl rfl dX1_copy_62 ?_
  refine Wm.top (z' := w (t2, v2, 3) (4)) (by simp [st1, cpy]) ?_
  refine r_copy C (0) (0) ((w (t2, v2, 3) (4)).toNat) hr (ok_of hG (kdv7 ht2 hv2) (by decide) (Nat.le_trans ht2 (by decide))) (ok_of hG (kdv7 ht hv) (by decide) (Nat.le_trans ht (by decide))) (kdv7 ht2 hv2) (kdv7 ht hv) rfl rfl (Int.toNat_of_nonneg (by first | omega | assumption)).symm (by first | omega | assumption) (by first | omega | assumption) (by decide) (by decide) (by decide +kernel) (by decide +kernel) (by decide +kernel) (by decide +kernel) (Nat.le_of_ble_eq_true rfl) (Nat.le_of_ble_eq_true rfl) dX1_copy_65 (fun hr => ?_)
  refine r_aload_n C (k := 0) dX1_copy_68 rfl ?_
  refine r_aload_n C (k := 1) dX1_copy_69 rfl ?_
  refine r_getf C 4 (ok_of hG (kdv3 ht2 hv2) (by decide) (Nat.le_trans ht2 (by decide))) (kdv3 ht2 hv2) (by decide) rfl hinX1 (by decide) (by decide +kernel) rfl rfl dX1_copy_70 ?_
  refine Wm.top (z' := w (t2, v2, 3) (4)) (by simp [st1, cpy]) ?_
  refine r_putf C 4 hr (by first | exact hr _ _ | exact hr0 _ _ | exact hrI _ _ | assumption | exact ⟨by omega, by omega⟩) (ok_of hG (kdv3 ht hv) (by decide) (Nat.le_trans ht (by decide))) (kdv3 ht hv) (by decide) rfl hinX1 tyX1_ok nmX1 (by decide) (by decide +kernel) rfl rfl (ty := .int) (by decide +kernel) rfl rfl rfl (Nat.le_of_ble_eq_true rfl) dX1_copy_73 (fun hr => ?_)
  exact r_vret C dX1_copy_76 (by first | rfl | (simp [*]; done))

set_option maxRecDepth 100000 in
set_option maxHeartbeats 8000000 in
theorem c_X1_lasting {l : Launch} {G : Gt} (hG : Gok G) {t : Nat} {v : Nat} (ht : t ≤ 1) (hv : v ≤ 7) {w : Mm} {b : Int} (hz : 0 ≤ w (t, v, 3) 4 ∧ w (t, v, 3) 4 ≤ 112) (hb : inR b) : Con l G yX1_lasting wsX1_lasting ({ frames := 0, cells := 0, slots := 0, locals := 0 } : Room) w [.ref (adr G (t, v, 3)), vI b] (some (vI (((s1last w t v b (w (t, v, 3) 4).toNat : Nat) : Int)))) w 0 0 := by
  refine Con.head (cc := cX1_lasting) (nL := 4) (ret := (some .int)) hG (by decide +kernel) rfl (Nat.le_of_ble_eq_true rfl) ?_
  intro B A hBl C hr
  have hr0 := hr
  have hrI := hr
  have hinX1 : ∀ w ∈ u_ws RX1 TX1 5, w ∈ wsX1_lasting := by decide +kernel
  obtain ⟨hz1, hz2⟩ := hz
  refine r_iconst C dX1_lasting_0 ?_
  refine r_istore_n C (i := 2) (lv' := [(2, vI (0)), (0, .ref (adr G (t, v, 3))), (1, vI (b))]) dX1_lasting_1 rfl (by decide) rfl ?_
  refine r_iconst C dX1_lasting_2 ?_
  refine r_istore_n C (i := 3) (lv' := [(3, vI (0)), (2, vI (0)), (0, .ref (adr G (t, v, 3))), (1, vI (b))]) dX1_lasting_3 rfl (by decide) rfl ?_
  have loop_4 : ∀ (n : Nat) (i : Nat), (i ≤ (w (t, v, 3) 4).toNat) → (w (t, v, 3) 4).toNat - i < n → rng w → Wm B 4 G A (Qe B G A (some (vI (((s1last w t v b (w (t, v, 3) 4).toNat : Nat) : Int)))) w 0 0) w 0 0 4 [(0, .ref (adr G (t, v, 3))), (1, vI (b)), (2, vI (((s1last w t v b i : Nat) : Int))), (3, vI (((i : Nat) : Int)))] [] := by
    intro n4
    induction n4 with
    | zero => intro i hi hm; exact absurd hm (Nat.not_lt_zero _)
    | succ n4 ih4 =>
      intro i hi hm hr
      have hrI := hr
      have hsl := s1last_le w t v b i
      refine r_iload_n C (k := 3) dX1_lasting_4 rfl ?_
      refine r_aload_n C (k := 0) dX1_lasting_5 rfl ?_
      refine r_getf C 4 (ok_of hG (kdv3 ht hv) (by decide) (Nat.le_trans ht (by decide))) (kdv3 ht hv) (by decide) rfl hinX1 (by decide) (by decide +kernel) rfl rfl dX1_lasting_6 ?_
      refine r_icmp_ge C (tgt := 31) dX1_lasting_9 (by decide) (by first | exact hr _ _ | exact hr0 _ _ | exact hrI _ _ | assumption | exact ⟨by omega, by omega⟩) (by first | exact hr _ _ | exact hr0 _ _ | exact hrI _ _ | assumption | exact ⟨by omega, by omega⟩) (fun h_1 => ?_) (fun h_1 => ?_)
      · skip
        refine r_iload_n C (k := 2) dX1_lasting_31 rfl ?_
        exact r_iret C dX1_lasting_32 (by (obtain rfl : i = (w (t, v, 3) 4).toNat := (by omega)); rfl) (by first | rfl | (simp [*]; done))
      · skip
        refine r_aload_n C (k := 0) dX1_lasting_12 rfl ?_
        refine r_getf C 1 (v := .ref (adr G (t, v, 5))) (ok_of hG (kdv3 ht hv) (by decide) (Nat.le_trans ht (by decide))) (kdv3 ht hv) (by decide) rfl hinX1 (by decide) (by decide +kernel) rfl rfl dX1_lasting_13 ?_
        refine r_iload_n C (k := 3) dX1_lasting_16 rfl ?_
        refine r_iald C (i) (ok_of hG (kdv5 ht hv) (by decide) (Nat.le_trans ht (by decide))) (kdv5 ht hv) rfl (by first | omega | assumption) (by decide) dX1_lasting_17 ?_
        refine r_iload_n C (k := 1) dX1_lasting_18 rfl ?_
        refine r_icmp_gt C (tgt := 25) dX1_lasting_19 (by decide) (by first | exact hr _ _ | exact hr0 _ _ | exact hrI _ _ | assumption | exact ⟨by omega, by omega⟩) (by first | exact hr _ _ | exact hr0 _ _ | exact hrI _ _ | assumption | exact ⟨by omega, by omega⟩) (fun h_2 => ?_) (fun h_2 => ?_)
        · skip
          refine r_iinc C (k := 3) (lv' := [(3, vI (((i + 1 : Nat) : Int))), (0, .ref (adr G (t, v, 3))), (1, vI (b)), (2, vI (((s1last w t v b i : Nat) : Int)))]) dX1_lasting_25 rfl (by decide) rfl ?_
          refine r_goto C (tgt := 4) dX1_lasting_28 (by decide) ?_
          have e_3 : w = w := by rfl
          refine Wm.sub (lv' := [(0, .ref (adr G (t, v, 3))), (1, vI (b)), (2, vI (((s1last w t v b i : Nat) : Int))), (3, vI (((i + 1 : Nat) : Int)))]) [1, 2, 3, 0] rfl ?_
          refine Wm.mem (lv' := [(0, .ref (adr G (t, v, 3))), (1, vI (b)), (2, vI (((s1last w t v b (i + 1) : Nat) : Int))), (3, vI ((((i + 1) : Nat) : Int)))]) e_3 (by (simp only [s1last]; first | rw [if_pos (by assumption)] | rw [if_neg (by omega)]); try rfl) ?_
          exact ih4 ((i + 1)) (by omega) (by omega) (e_3 ▸ hr)
        · skip
          refine r_iinc C (k := 2) (lv' := [(2, vI (((s1last w t v b i + 1 : Nat) : Int))), (0, .ref (adr G (t, v, 3))), (1, vI (b)), (3, vI (((i : Nat) : Int)))]) dX1_lasting_22 rfl (by decide) rfl ?_
          refine r_iinc C (k := 3) (lv' := [(3, vI (((i + 1 : Nat) : Int))), (2, vI (((s1last w t v b i + 1 : Nat) : Int))), (0, .ref (adr G (t, v, 3))), (1, vI (b))]) dX1_lasting_25 rfl (by decide) rfl ?_
          refine r_goto C (tgt := 4) dX1_lasting_28 (by decide) ?_
          have e_4 : w = w := by rfl
          refine Wm.sub (lv' := [(0, .ref (adr G (t, v, 3))), (1, vI (b)), (2, vI (((s1last w t v b i + 1 : Nat) : Int))), (3, vI (((i + 1 : Nat) : Int)))]) [2, 3, 1, 0] rfl ?_
          refine Wm.mem (lv' := [(0, .ref (adr G (t, v, 3))), (1, vI (b)), (2, vI (((s1last w t v b (i + 1) : Nat) : Int))), (3, vI ((((i + 1) : Nat) : Int)))]) e_4 (by (simp only [s1last]; first | rw [if_pos (by assumption)] | rw [if_neg (by omega)]); try rfl) ?_
          exact ih4 ((i + 1)) (by omega) (by omega) (e_4 ▸ hr)
  have e_5 : w = w := by rfl
  refine Wm.sub (lv' := [(0, .ref (adr G (t, v, 3))), (1, vI (b)), (2, vI (0)), (3, vI (0))]) [2, 3, 1, 0] rfl ?_
  refine Wm.mem (lv' := [(0, .ref (adr G (t, v, 3))), (1, vI (b)), (2, vI (((s1last w t v b 0 : Nat) : Int))), (3, vI (((0 : Nat) : Int)))]) e_5 (by rfl) ?_
  exact loop_4 _ (0) (by omega) (Nat.lt_succ_self _) (e_5 ▸ hr)

set_option maxRecDepth 100000 in
set_option maxHeartbeats 8000000 in
theorem c_X1_drown {l : Launch} {G : Gt} (hG : Gok G) {t : Nat} {v : Nat} (ht : t ≤ 1) (hv : v ≤ 7) {w : Mm} {b : Int} (hz : 0 ≤ w (t, v, 3) 4 ∧ w (t, v, 3) 4 ≤ 112) (hb : inR b) : Con l G yX1_drown wsX1_drown ({ frames := 0, cells := 0, slots := 0, locals := 0 } : Room) w [.ref (adr G (t, v, 3)), vI b] none (s1drown w t v b (w (t, v, 3) 4).toNat) 0 0 := by
  refine Con.head (cc := cX1_drown) (nL := 3) (ret := none) hG (by decide +kernel) rfl (Nat.le_of_ble_eq_true rfl) ?_
  intro B A hBl C hr
  have hr0 := hr
  have hrI := hr
  have hinX1 : ∀ w ∈ u_ws RX1 TX1 5, w ∈ wsX1_drown := by decide +kernel
  obtain ⟨hz1, hz2⟩ := hz
  refine r_iconst C dX1_drown_0 ?_
  refine r_istore_n C (i := 2) (lv' := [(2, vI (0)), (0, .ref (adr G (t, v, 3))), (1, vI (b))]) dX1_drown_1 rfl (by decide) rfl ?_
  have loop_2 : ∀ (n : Nat) (i : Nat), (i ≤ (w (t, v, 3) 4).toNat) → (w (t, v, 3) 4).toNat - i < n → rng (s1drown w t v b i) → Wm B 3 G A (Qe B G A none (s1drown w t v b (w (t, v, 3) 4).toNat) 0 0) (s1drown w t v b i) 0 0 2 [(0, .ref (adr G (t, v, 3))), (1, vI (b)), (2, vI (((i : Nat) : Int)))] [] := by
    intro n2
    induction n2 with
    | zero => intro i hi hm; exact absurd hm (Nat.not_lt_zero _)
    | succ n2 ih2 =>
      intro i hi hm hr
      have hrI := hr
      refine r_iload_n C (k := 2) dX1_drown_2 rfl ?_
      refine r_aload_n C (k := 0) dX1_drown_3 rfl ?_
      refine r_getf C 4 (ok_of hG (kdv3 ht hv) (by decide) (Nat.le_trans ht (by decide))) (kdv3 ht hv) (by decide) rfl hinX1 (by decide) (by decide +kernel) rfl rfl dX1_drown_4 ?_
      refine Wm.top (z' := w (t, v, 3) (4)) (by simp [st1, cpy, s1drown_off]) ?_
      refine r_icmp_ge C (tgt := 33) dX1_drown_7 (by decide) (by first | exact hr _ _ | exact hr0 _ _ | exact hrI _ _ | assumption | exact ⟨by omega, by omega⟩) (by first | exact hr _ _ | exact hr0 _ _ | exact hrI _ _ | assumption | exact ⟨by omega, by omega⟩) (fun h_1 => ?_) (fun h_1 => ?_)
      · skip
        exact r_vret C dX1_drown_33 (by (obtain rfl : i = (w (t, v, 3) 4).toNat := (by omega)); rfl)
      · skip
        refine r_aload_n C (k := 0) dX1_drown_10 rfl ?_
        refine r_getf C 1 (v := .ref (adr G (t, v, 5))) (ok_of hG (kdv3 ht hv) (by decide) (Nat.le_trans ht (by decide))) (kdv3 ht hv) (by decide) rfl hinX1 (by decide) (by decide +kernel) rfl rfl dX1_drown_11 ?_
        refine r_iload_n C (k := 2) dX1_drown_14 rfl ?_
        refine r_iald C (i) (ok_of hG (kdv5 ht hv) (by decide) (Nat.le_trans ht (by decide))) (kdv5 ht hv) rfl (by first | omega | assumption) (by decide) dX1_drown_15 ?_
        refine Wm.top (z' := w (t, v, 5) (i)) (by simp [st1, cpy, s1drown_off]) ?_
        refine r_iload_n C (k := 1) dX1_drown_16 rfl ?_
        refine r_icmp_gt C (tgt := 27) dX1_drown_17 (by decide) (by first | exact hr _ _ | exact hr0 _ _ | exact hrI _ _ | assumption | exact ⟨by omega, by omega⟩) (by first | exact hr _ _ | exact hr0 _ _ | exact hrI _ _ | assumption | exact ⟨by omega, by omega⟩) (fun h_2 => ?_) (fun h_2 => ?_)
        · skip
          refine r_iinc C (k := 2) (lv' := [(2, vI (((i + 1 : Nat) : Int))), (0, .ref (adr G (t, v, 3))), (1, vI (b))]) dX1_drown_27 rfl (by decide) rfl ?_
          refine r_goto C (tgt := 2) dX1_drown_30 (by decide) ?_
          have e_3 : (s1drown w t v b i) = (s1drown w t v b (i + 1)) := by first | (simp only [s1drown]; rw [if_pos (by assumption)]) | (simp only [s1drown]; rw [if_neg (by omega)])
          refine Wm.sub (lv' := [(0, .ref (adr G (t, v, 3))), (1, vI (b)), (2, vI (((i + 1 : Nat) : Int)))]) [1, 2, 0] rfl ?_
          refine Wm.mem (lv' := [(0, .ref (adr G (t, v, 3))), (1, vI (b)), (2, vI ((((i + 1) : Nat) : Int)))]) e_3 (by rfl) ?_
          exact ih2 ((i + 1)) (by omega) (by omega) (e_3 ▸ hr)
        · skip
          refine r_aload_n C (k := 0) dX1_drown_20 rfl ?_
          refine r_getf C 3 (v := .ref (adr G (t, v, 7))) (ok_of hG (kdv3 ht hv) (by decide) (Nat.le_trans ht (by decide))) (kdv3 ht hv) (by decide) rfl hinX1 (by decide) (by decide +kernel) rfl rfl dX1_drown_21 ?_
          refine r_iload_n C (k := 2) dX1_drown_24 rfl ?_
          refine r_iconst C dX1_drown_25 ?_
          refine r_iast C (i) hr ⟨by decide, by decide⟩ (ok_of hG (kdv7 ht hv) (by decide) (Nat.le_trans ht (by decide))) (kdv7 ht hv) rfl (by first | omega | assumption) (by decide) dX1_drown_26 (fun hr => ?_)
          refine r_iinc C (k := 2) (lv' := [(2, vI (((i + 1 : Nat) : Int))), (0, .ref (adr G (t, v, 3))), (1, vI (b))]) dX1_drown_27 rfl (by decide) rfl ?_
          refine r_goto C (tgt := 2) dX1_drown_30 (by decide) ?_
          have e_4 : (st1 (s1drown w t v b i) (t, v, 7) (i) (1)) = (s1drown w t v b (i + 1)) := by first | (simp only [s1drown]; rw [if_pos (by assumption)]) | (simp only [s1drown]; rw [if_neg (by omega)])
          refine Wm.sub (lv' := [(0, .ref (adr G (t, v, 3))), (1, vI (b)), (2, vI (((i + 1 : Nat) : Int)))]) [1, 2, 0] rfl ?_
          refine Wm.mem (lv' := [(0, .ref (adr G (t, v, 3))), (1, vI (b)), (2, vI ((((i + 1) : Nat) : Int)))]) e_4 (by rfl) ?_
          exact ih2 ((i + 1)) (by omega) (by omega) (e_4 ▸ hr)
  have e_5 : w = (s1drown w t v b 0) := by rfl
  refine Wm.sub (lv' := [(0, .ref (adr G (t, v, 3))), (1, vI (b)), (2, vI (0))]) [1, 2, 0] rfl ?_
  refine Wm.mem (lv' := [(0, .ref (adr G (t, v, 3))), (1, vI (b)), (2, vI (((0 : Nat) : Int)))]) e_5 (by rfl) ?_
  exact loop_2 _ (0) (by omega) (Nat.lt_succ_self _) (e_5 ▸ hr)
