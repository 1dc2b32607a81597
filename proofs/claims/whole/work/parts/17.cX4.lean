theorem c_X4_copy {l : Launch} {G : Gt} (hG : Gok G) {u : Nat} (hu : u = 4 ∨ u = 5) {w : Mm} {k0 k1 : Ky} {n0 n1 m : Nat} (hok0 : okk G k0) (hok1 : okk G k1) (hk0 : kd k0 = (6, n0)) (hk1 : kd k1 = (6, n1)) (h0 : m ≤ n0) (h1 : m ≤ n1) (hl0 : n0 < 2 ^ 31) (hl1 : n1 < 2 ^ 31) : Con l G yX4_copy wsX4_copy ({ frames := 1, cells := 0, slots := 0, locals := 26 } : Room) w [.ref (adr G (u, 0, 0)), .ref (adr G k0), .ref (adr G k1), vI ((m : Nat) : Int)] none (cpy w k0 k1 0 0 m) 0 0 := by
  refine Con.head (cc := cX4_copy) (nL := 4) (ret := none) hG (by decide +kernel) rfl (Nat.le_of_ble_eq_true rfl) ?_
  intro B A hBl C hr
  refine r_aload_n C (k := 1) dX4_copy_0 rfl ?_
  refine r_iconst C dX4_copy_1 ?_
  refine r_aload_n C (k := 2) dX4_copy_2 rfl ?_
  refine r_iconst C dX4_copy_3 ?_
  refine r_iload_n C (k := 3) dX4_copy_4 rfl ?_
  refine r_copy C 0 0 m hr hok0 hok1 hk0 hk1 rfl rfl rfl (by omega) (by omega) hl0 hl1 (by decide +kernel) (by decide +kernel) (by decide +kernel) (by decide +kernel) (Nat.le_of_ble_eq_true rfl) (Nat.le_of_ble_eq_true rfl) dX4_copy_5 (fun hr => ?_)
  exact r_vret C dX4_copy_8 rfl

set_option maxRecDepth 100000 in
set_option maxHeartbeats 8000000 in
theorem c_X5_far {l : Launch} {G : Gt} (hG : Gok G)  {w : Mm} {a : Int} {b : Int} (h1 : 0 ≤ a ∧ a ≤ 7) (h2 : 0 ≤ b ∧ b ≤ 7) (hx : rowR w (3, 0, 1) 8 0 30) (hy : rowR w (3, 0, 2) 8 0 30) : Con l G yX5_far wsX5_far ({ frames := 1, cells := 0, slots := 0, locals := 21 } : Room) w [.ref (adr G (3, 0, 0)), vI a, vI b] (some (vI (rfar w (a).toNat (b).toNat))) w 0 0 := by
  refine Con.head (cc := cX5_far) (nL := 3) (ret := (some .int)) hG (by decide +kernel) rfl (Nat.le_of_ble_eq_true rfl) ?_
  intro B A hBl C hr
  have hr0 := hr
  have hrI := hr
  have hinX5 : ∀ w ∈ u_ws RX5 TX5 12, w ∈ wsX5_far := by decide +kernel
  have q1 := hx (a).toNat (by omega)
  have q2 := hx (b).toNat (by omega)
  have q3 := hy (a).toNat (by omega)
  have q4 := hy (b).toNat (by omega)
  refine r_aload_n C (k := 0) dX5_far_0 rfl ?_
  refine r_getf C 3 (v := .ref (adr G (3, 0, 1))) (ok_of hG (show kd (3, 0, 0) = _ from rfl) (by decide) (by decide)) (show kd (3, 0, 0) = _ from rfl) (by decide) rfl hinX5 (by decide) (by decide +kernel) rfl rfl dX5_far_1 ?_
  refine r_iload_n C (k := 1) dX5_far_4 rfl ?_
  refine r_iald C ((a).toNat) (ok_of hG (show kd (3, 0, 1) = _ from rfl) (by decide) (by decide)) (show kd (3, 0, 1) = _ from rfl) (Int.toNat_of_nonneg (by first | omega | assumption)).symm (by first | omega | assumption) (by decide) dX5_far_5 ?_
  refine r_aload_n C (k := 0) dX5_far_6 rfl ?_
  refine r_getf C 3 (v := .ref (adr G (3, 0, 1))) (ok_of hG (show kd (3, 0, 0) = _ from rfl) (by decide) (by decide)) (show kd (3, 0, 0) = _ from rfl) (by decide) rfl hinX5 (by decide) (by decide +kernel) rfl rfl dX5_far_7 ?_
  refine r_iload_n C (k := 2) dX5_far_10 rfl ?_
  refine r_iald C ((b).toNat) (ok_of hG (show kd (3, 0, 1) = _ from rfl) (by decide) (by decide)) (show kd (3, 0, 1) = _ from rfl) (Int.toNat_of_nonneg (by first | omega | assumption)).symm (by first | omega | assumption) (by decide) dX5_far_11 ?_
  refine r_isub C dX5_far_12 ?_
  refine r_mabs C (by first | omega | assumption) (by first | omega | assumption) (by decide +kernel) (by decide +kernel) (by decide +kernel) (by decide +kernel) (Nat.le_of_ble_eq_true rfl) (Nat.le_of_ble_eq_true rfl) (Nat.zero_le _) (Nat.zero_le _) dX5_far_13 ?_
  refine r_aload_n C (k := 0) dX5_far_16 rfl ?_
  refine r_getf C 4 (v := .ref (adr G (3, 0, 2))) (ok_of hG (show kd (3, 0, 0) = _ from rfl) (by decide) (by decide)) (show kd (3, 0, 0) = _ from rfl) (by decide) rfl hinX5 (by decide) (by decide +kernel) rfl rfl dX5_far_17 ?_
  refine r_iload_n C (k := 1) dX5_far_20 rfl ?_
  refine r_iald C ((a).toNat) (ok_of hG (show kd (3, 0, 2) = _ from rfl) (by decide) (by decide)) (show kd (3, 0, 2) = _ from rfl) (Int.toNat_of_nonneg (by first | omega | assumption)).symm (by first | omega | assumption) (by decide) dX5_far_21 ?_
  refine r_aload_n C (k := 0) dX5_far_22 rfl ?_
  refine r_getf C 4 (v := .ref (adr G (3, 0, 2))) (ok_of hG (show kd (3, 0, 0) = _ from rfl) (by decide) (by decide)) (show kd (3, 0, 0) = _ from rfl) (by decide) rfl hinX5 (by decide) (by decide +kernel) rfl rfl dX5_far_23 ?_
  refine r_iload_n C (k := 2) dX5_far_26 rfl ?_
  refine r_iald C ((b).toNat) (ok_of hG (show kd (3, 0, 2) = _ from rfl) (by decide) (by decide)) (show kd (3, 0, 2) = _ from rfl) (Int.toNat_of_nonneg (by first | omega | assumption)).symm (by first | omega | assumption) (by decide) dX5_far_27 ?_
  refine r_isub C dX5_far_28 ?_
  refine r_mabs C (by first | omega | assumption) (by first | omega | assumption) (by decide +kernel) (by decide +kernel) (by decide +kernel) (by decide +kernel) (Nat.le_of_ble_eq_true rfl) (Nat.le_of_ble_eq_true rfl) (Nat.zero_le _) (Nat.zero_le _) dX5_far_29 ?_
  refine r_iadd C dX5_far_32 ?_
  exact r_iret C dX5_far_33 (by first | rfl | (simp [*]; done)) (by first | rfl | (simp [*]; done))

set_option maxRecDepth 100000 in
set_option maxHeartbeats 8000000 in
theorem c_X4_isAwake {l : Launch} {G : Gt} (hG : Gok G) {u : Nat} (hu : u = 4 ∨ u = 5) {w : Mm} {v : Int} (h1 : 0 ≤ v ∧ v ≤ 7) (hf : rowR w (3, 0, 4) 8 0 23) (hb : 0 ≤ w (u, 0, 0) 0 ∧ w (u, 0, 0) 0 ≤ 1000000) : Con l G yX4_isAwake wsX4_isAwake ({ frames := 0, cells := 0, slots := 0, locals := 0 } : Room) w [.ref (adr G (u, 0, 0)), vI v] (some (vI (bI (rawk w u (v).toNat)))) w 0 0 := by
  refine Con.head (cc := cX4_isAwake) (nL := 2) (ret := (some .boolean)) hG (by decide +kernel) rfl (Nat.le_of_ble_eq_true rfl) ?_
  intro B A hBl C hr
  have hr0 := hr
  have hrI := hr
  have hinX4 : ∀ w ∈ u_ws RX4 TX4 16, w ∈ wsX4_isAwake := by decide +kernel
  have hinX5 : ∀ w ∈ u_ws RX5 TX5 12, w ∈ wsX4_isAwake := by decide +kernel
  have q1 := hf (v).toNat (by omega)
  refine r_aload_n C (k := 0) dX4_isAwake_0 rfl ?_
  refine r_getf C 0 (ok_of hG (kds0 hu) (by decide) (by omega)) (kds0 hu) (by decide) rfl hinX4 (by decide) (by decide +kernel) rfl rfl dX4_isAwake_1 ?_
  refine r_bipush C dX4_isAwake_4 (by decide) ?_
  refine r_irem C dX4_isAwake_6 (by first | omega | assumption) (by first | omega | assumption) (by first | omega | assumption) (by first | omega | assumption) ?_
  refine r_bipush C dX4_isAwake_7 (by decide) ?_
  refine r_iadd C dX4_isAwake_9 ?_
  refine r_aload_n C (k := 0) dX4_isAwake_10 rfl ?_
  refine r_getf C 15 (v := .ref (adr G (3, 0, 0))) (ok_of hG (kds0 hu) (by decide) (by omega)) (kds0 hu) (by decide) rfl hinX4 (by decide) (by decide +kernel) rfl rfl dX4_isAwake_11 ?_
  refine r_getfN (host := "DrumTalkModel") C 6 (v := .ref (adr G (3, 0, 4))) (ok_of hG (show kd (3, 0, 0) = _ from rfl) (by decide) (by decide)) (show kd (3, 0, 0) = _ from rfl) (by decide) rfl hinX5 (by decide) (by decide +kernel) rfl rfl dX4_isAwake_14 ?_
  refine r_iload_n C (k := 1) dX4_isAwake_17 rfl ?_
  refine r_iald C ((v).toNat) (ok_of hG (show kd (3, 0, 4) = _ from rfl) (by decide) (by decide)) (show kd (3, 0, 4) = _ from rfl) (Int.toNat_of_nonneg (by first | omega | assumption)).symm (by first | omega | assumption) (by decide) dX4_isAwake_18 ?_
  refine r_isub C dX4_isAwake_19 ?_
  refine r_bipush C dX4_isAwake_20 (by decide) ?_
  refine r_irem C dX4_isAwake_22 (by first | omega | assumption) (by first | omega | assumption) (by first | omega | assumption) (by first | omega | assumption) ?_
  refine r_aload_n C (k := 0) dX4_isAwake_23 rfl ?_
  refine r_getf C 15 (v := .ref (adr G (3, 0, 0))) (ok_of hG (kds0 hu) (by decide) (by omega)) (kds0 hu) (by decide) rfl hinX4 (by decide) (by decide +kernel) rfl rfl dX4_isAwake_24 ?_
  refine r_getfN (host := "DrumTalkModel") C 7 (v := .ref (adr G (3, 0, 5))) (ok_of hG (show kd (3, 0, 0) = _ from rfl) (by decide) (by decide)) (show kd (3, 0, 0) = _ from rfl) (by decide) rfl hinX5 (by decide) (by decide +kernel) rfl rfl dX4_isAwake_27 ?_
  refine r_iload_n C (k := 1) dX4_isAwake_30 rfl ?_
  refine r_iald C ((v).toNat) (ok_of hG (show kd (3, 0, 5) = _ from rfl) (by decide) (by decide)) (show kd (3, 0, 5) = _ from rfl) (Int.toNat_of_nonneg (by first | omega | assumption)).symm (by first | omega | assumption) (by decide) dX4_isAwake_31 ?_
  refine r_icmp_ge C (tgt := 39) dX4_isAwake_32 (by decide) (by first | exact hr _ _ | exact hr0 _ _ | exact hrI _ _ | assumption | exact ⟨by omega, by omega⟩) (by first | exact hr _ _ | exact hr0 _ _ | exact hrI _ _ | assumption | exact ⟨by omega, by omega⟩) (fun h_1 => ?_) (fun h_1 => ?_)
  · skip
    refine r_iconst C dX4_isAwake_39 ?_
    exact r_zret C dX4_isAwake_40 (by first | exact Or.inr rfl | exact Or.inl rfl | exact bI_01 _) (by exact congrArg (fun z => some (vI z)) (bI_f (by first | omega | (simp_all; done) | (simp_all; omega))).symm) (by first | rfl | (simp [*]; done))
  · skip
    refine r_iconst C dX4_isAwake_35 ?_
    refine r_goto C (tgt := 40) dX4_isAwake_36 (by decide) ?_
    exact r_zret C dX4_isAwake_40 (by first | exact Or.inr rfl | exact Or.inl rfl | exact bI_01 _) (by exact congrArg (fun z => some (vI z)) (bI_t (by first | omega | (simp_all; done) | (simp_all; omega))).symm) (by first | rfl | (simp [*]; done))

set_option maxRecDepth 100000 in
set_option maxHeartbeats 8000000 in
theorem c_X4_hears {l : Launch} {G : Gt} (hG : Gok G) {u : Nat} (hu : u = 4 ∨ u = 5) {w : Mm} {a : Int} {b : Int} (h1 : 0 ≤ a ∧ a ≤ 7) (h2 : 0 ≤ b ∧ b ≤ 7) (hx : rowR w (3, 0, 1) 8 0 30) (hy : rowR w (3, 0, 2) 8 0 30) (hd : rowR w (u, 0, 1) 8 0 9) : Con l G yX4_hears wsX4_hears ({ frames := 2, cells := 0, slots := 0, locals := 43 } : Room) w [.ref (adr G (u, 0, 0)), vI a, vI b] (some (vI (bI (rhears w u (a).toNat (b).toNat)))) w 0 0 := by
  refine Con.head (cc := cX4_hears) (nL := 3) (ret := (some .boolean)) hG (by decide +kernel) rfl (Nat.le_of_ble_eq_true rfl) ?_
  intro B A hBl C hr
  have hr0 := hr
  have hrI := hr
  have hinX4 : ∀ w ∈ u_ws RX4 TX4 16, w ∈ wsX4_hears := by decide +kernel
  have q0 := hd (a).toNat (by omega)
  have q1 := hx (a).toNat (by omega)
  have q2 := hx (b).toNat (by omega)
  have q3 := hy (a).toNat (by omega)
  have q4 := hy (b).toNat (by omega)
  have q5 : rfar w (a).toNat (b).toNat ≤ 60 ∧ 0 ≤ rfar w (a).toNat (b).toNat := by unfold rfar; omega
  refine r_aload_n C (k := 0) dX4_hears_0 rfl ?_
  refine r_getf C 15 (v := .ref (adr G (3, 0, 0))) (ok_of hG (kds0 hu) (by decide) (by omega)) (kds0 hu) (by decide) rfl hinX4 (by decide) (by decide +kernel) rfl rfl dX4_hears_1 ?_
  refine r_iload_n C (k := 1) dX4_hears_4 rfl ?_
  refine r_iload_n C (k := 2) dX4_hears_5 rfl ?_
  refine r_callVN C (host := "DrumTalkModel") (w' := w) [vI (a), vI (b)] 2 (c_X5_far hG (by first | assumption | omega | exact hr _ _ | exact hr0 _ _ | exact hrI _ _ | exact ⟨by omega, by omega⟩ | exact bI_inR _ | (simp [st1] <;> omega) | exact rowR.so (by assumption) (by simp)) (by first | assumption | omega | exact hr _ _ | exact hr0 _ _ | exact hrI _ _ | exact ⟨by omega, by omega⟩ | exact bI_inR _ | (simp [st1] <;> omega) | exact rowR.so (by assumption) (by simp)) (by exact hx) (by exact hy)) gX4_hears_X5_far_n78 (by decide +kernel) (by decide +kernel) (by decide +kernel) (by decide +kernel) rfl rfl rfl (by decide +kernel) (Nat.le_of_ble_eq_true rfl) (Nat.le_of_ble_eq_true rfl) ⟨(Nat.zero_le _), (Nat.zero_le _)⟩ (ok_of hG (show kd (3, 0, 0) = _ from rfl) (by decide) (by decide)) (show kd (3, 0, 0) = _ from rfl) (by decide) rfl rfl rfl (Nat.le_of_ble_eq_true rfl) (st' := [vI ((rfar w (a).toNat (b).toNat))]) rfl dX4_hears_6 (fun hr => ?_)
  refine r_iconst C dX4_hears_9 ?_
  refine r_aload_n C (k := 0) dX4_hears_10 rfl ?_
  refine r_getf C 3 (v := .ref (adr G (u, 0, 1))) (ok_of hG (kds0 hu) (by decide) (by omega)) (kds0 hu) (by decide) rfl hinX4 (by decide) (by decide +kernel) rfl rfl dX4_hears_11 ?_
  refine r_iload_n C (k := 1) dX4_hears_14 rfl ?_
  refine r_iald C ((a).toNat) (ok_of hG (kds1 hu) (by decide) (by omega)) (kds1 hu) (Int.toNat_of_nonneg (by first | omega | assumption)).symm (by first | omega | assumption) (by decide) dX4_hears_15 ?_
  refine r_imul C dX4_hears_16 ?_
  refine r_icmp_gt C (tgt := 24) dX4_hears_17 (by decide) (by first | exact hr _ _ | exact hr0 _ _ | exact hrI _ _ | assumption | exact ⟨by omega, by omega⟩) (by first | exact hr _ _ | exact hr0 _ _ | exact hrI _ _ | assumption | exact ⟨by omega, by omega⟩) (fun h_1 => ?_) (fun h_1 => ?_)
  · skip
    refine r_iconst C dX4_hears_24 ?_
    exact r_zret C dX4_hears_25 (by first | exact Or.inr rfl | exact Or.inl rfl | exact bI_01 _) (by exact congrArg (fun z => some (vI z)) (bI_f (by first | omega | (simp_all; done) | (simp_all; omega))).symm) (by first | rfl | (simp [*]; done))
  · skip
    refine r_iconst C dX4_hears_20 ?_
    refine r_goto C (tgt := 25) dX4_hears_21 (by decide) ?_
    exact r_zret C dX4_hears_25 (by first | exact Or.inr rfl | exact Or.inl rfl | exact bI_01 _) (by exact congrArg (fun z => some (vI z)) (bI_t (by first | omega | (simp_all; done) | (simp_all; omega))).symm) (by first | rfl | (simp [*]; done))

set_option maxRecDepth 100000 in
set_option maxHeartbeats 8000000 in
theorem c_X4_sound {l : Launch} {G : Gt} (hG : Gok G) {u : Nat} (hu : u = 4 ∨ u = 5) {w : Mm} {v : Int} {p : Int} {a : Int} (hs : 0 ≤ w (u, 0, 0) 2 ∧ w (u, 0, 0) 2 < 1024) (hv : inR v) (hp : 0 ≤ p ∧ p ≤ 11) (ha : 0 ≤ a ∧ a ≤ 2000000) (hl : rowR w (3, 0, 7) 12 0 8) : Con l G yX4_sound wsX4_sound ({ frames := 0, cells := 0, slots := 0, locals := 0 } : Room) w [.ref (adr G (u, 0, 0)), vI v, vI p, vI a] none (rsd w u v p a) 0 0 := by
  refine Con.head (cc := cX4_sound) (nL := 4) (ret := none) hG (by decide +kernel) rfl (Nat.le_of_ble_eq_true rfl) ?_
  intro B A hBl C hr
  have hr0 := hr
  have hrI := hr
  have hinX4 : ∀ w ∈ u_ws RX4 TX4 16, w ∈ wsX4_sound := by decide +kernel
  have hinX5 : ∀ w ∈ u_ws RX5 TX5 12, w ∈ wsX4_sound := by decide +kernel
  have q1 := hl (p).toNat (by omega)
  refine r_aload_n C (k := 0) dX4_sound_0 rfl ?_
  refine r_getf C 10 (v := .ref (adr G (u, 0, 8))) (ok_of hG (kds0 hu) (by decide) (by omega)) (kds0 hu) (by decide) rfl hinX4 (by decide) (by decide +kernel) rfl rfl dX4_sound_1 ?_
  refine r_aload_n C (k := 0) dX4_sound_4 rfl ?_
  refine r_getf C 2 (ok_of hG (kds0 hu) (by decide) (by omega)) (kds0 hu) (by decide) rfl hinX4 (by decide) (by decide +kernel) rfl rfl dX4_sound_5 ?_
  refine r_iload_n C (k := 1) dX4_sound_8 rfl ?_
  refine r_iast C ((w (u, 0, 0) (2)).toNat) hr (by first | exact hr _ _ | exact hr0 _ _ | exact hrI _ _ | assumption | exact ⟨by omega, by omega⟩) (ok_of hG (kds8 hu) (by decide) (by omega)) (kds8 hu) (Int.toNat_of_nonneg (by first | omega | assumption)).symm (by first | omega | assumption) (by decide) dX4_sound_9 (fun hr => ?_)
  refine r_aload_n C (k := 0) dX4_sound_10 rfl ?_
  refine r_getf C 11 (v := .ref (adr G (u, 0, 9))) (ok_of hG (kds0 hu) (by decide) (by omega)) (kds0 hu) (by decide) rfl hinX4 (by decide) (by decide +kernel) rfl rfl dX4_sound_11 ?_
  refine r_aload_n C (k := 0) dX4_sound_14 rfl ?_
  refine r_getf C 2 (ok_of hG (kds0 hu) (by decide) (by omega)) (kds0 hu) (by decide) rfl hinX4 (by decide) (by decide +kernel) rfl rfl dX4_sound_15 ?_
  refine Wm.top (z' := w (u, 0, 0) (2)) (by simp [st1, cpy]) ?_
  refine r_iload_n C (k := 2) dX4_sound_18 rfl ?_
  refine r_iast C ((w (u, 0, 0) (2)).toNat) hr (by first | exact hr _ _ | exact hr0 _ _ | exact hrI _ _ | assumption | exact ⟨by omega, by omega⟩) (ok_of hG (kds9 hu) (by decide) (by omega)) (kds9 hu) (Int.toNat_of_nonneg (by first | omega | assumption)).symm (by first | omega | assumption) (by decide) dX4_sound_19 (fun hr => ?_)
  refine r_aload_n C (k := 0) dX4_sound_20 rfl ?_
  refine r_getf C 12 (v := .ref (adr G (u, 0, 10))) (ok_of hG (kds0 hu) (by decide) (by omega)) (kds0 hu) (by decide) rfl hinX4 (by decide) (by decide +kernel) rfl rfl dX4_sound_21 ?_
  refine r_aload_n C (k := 0) dX4_sound_24 rfl ?_
  refine r_getf C 2 (ok_of hG (kds0 hu) (by decide) (by omega)) (kds0 hu) (by decide) rfl hinX4 (by decide) (by decide +kernel) rfl rfl dX4_sound_25 ?_
  refine Wm.top (z' := w (u, 0, 0) (2)) (by simp [st1, cpy]) ?_
  refine r_iload_n C (k := 3) dX4_sound_28 rfl ?_
  refine r_iast C ((w (u, 0, 0) (2)).toNat) hr (by first | exact hr _ _ | exact hr0 _ _ | exact hrI _ _ | assumption | exact ⟨by omega, by omega⟩) (ok_of hG (kds10 hu) (by decide) (by omega)) (kds10 hu) (Int.toNat_of_nonneg (by first | omega | assumption)).symm (by first | omega | assumption) (by decide) dX4_sound_29 (fun hr => ?_)
  refine r_aload_n C (k := 0) dX4_sound_30 rfl ?_
  refine r_getf C 13 (v := .ref (adr G (u, 0, 11))) (ok_of hG (kds0 hu) (by decide) (by omega)) (kds0 hu) (by decide) rfl hinX4 (by decide) (by decide +kernel) rfl rfl dX4_sound_31 ?_
  refine r_aload_n C (k := 0) dX4_sound_34 rfl ?_
  refine r_getf C 2 (ok_of hG (kds0 hu) (by decide) (by omega)) (kds0 hu) (by decide) rfl hinX4 (by decide) (by decide +kernel) rfl rfl dX4_sound_35 ?_
  refine Wm.top (z' := w (u, 0, 0) (2)) (by simp [st1, cpy]) ?_
  refine r_iload_n C (k := 3) dX4_sound_38 rfl ?_
  refine r_aload_n C (k := 0) dX4_sound_39 rfl ?_
  refine r_getf C 15 (v := .ref (adr G (3, 0, 0))) (ok_of hG (kds0 hu) (by decide) (by omega)) (kds0 hu) (by decide) rfl hinX4 (by decide) (by decide +kernel) rfl rfl dX4_sound_40 ?_
  refine r_getfN (host := "DrumTalkModel") C 9 (v := .ref (adr G (3, 0, 7))) (ok_of hG (show kd (3, 0, 0) = _ from rfl) (by decide) (by decide)) (show kd (3, 0, 0) = _ from rfl) (by decide) rfl hinX5 (by decide) (by decide +kernel) rfl rfl dX4_sound_43 ?_
  refine r_iload_n C (k := 2) dX4_sound_46 rfl ?_
  refine r_iald C ((p).toNat) (ok_of hG (show kd (3, 0, 7) = _ from rfl) (by decide) (by decide)) (show kd (3, 0, 7) = _ from rfl) (Int.toNat_of_nonneg (by first | omega | assumption)).symm (by first | omega | assumption) (by decide) dX4_sound_47 ?_
  refine Wm.top (z' := w (3, 0, 7) ((p).toNat)) (by simp [st1, cpy]) ?_
  refine r_iadd C dX4_sound_48 ?_
  refine r_iconst C dX4_sound_49 ?_
  refine r_isub C dX4_sound_50 ?_
  refine r_iast C ((w (u, 0, 0) (2)).toNat) hr (by first | exact hr _ _ | exact hr0 _ _ | exact hrI _ _ | assumption | exact ⟨by omega, by omega⟩) (ok_of hG (kds11 hu) (by decide) (by omega)) (kds11 hu) (Int.toNat_of_nonneg (by first | omega | assumption)).symm (by first | omega | assumption) (by decide) dX4_sound_51 (fun hr => ?_)
  refine r_aload_n C (k := 0) dX4_sound_52 rfl ?_
  refine r_getf C 14 (v := .ref (adr G (u, 0, 12))) (ok_of hG (kds0 hu) (by decide) (by omega)) (kds0 hu) (by decide) rfl hinX4 (by decide) (by decide +kernel) rfl rfl dX4_sound_53 ?_
  refine r_aload_n C (k := 0) dX4_sound_56 rfl ?_
  refine r_getf C 2 (ok_of hG (kds0 hu) (by decide) (by omega)) (kds0 hu) (by decide) rfl hinX4 (by decide) (by decide +kernel) rfl rfl dX4_sound_57 ?_
  refine Wm.top (z' := w (u, 0, 0) (2)) (by simp [st1, cpy]) ?_
  refine r_iconst C dX4_sound_60 ?_
  refine r_iast C ((w (u, 0, 0) (2)).toNat) hr ⟨by decide, by decide⟩ (ok_of hG (kds12 hu) (by decide) (by omega)) (kds12 hu) (Int.toNat_of_nonneg (by first | omega | assumption)).symm (by first | omega | assumption) (by decide) dX4_sound_61 (fun hr => ?_)
  refine r_aload_n C (k := 0) dX4_sound_62 rfl ?_
  refine r_dup C dX4_sound_63 rfl ?_
  refine r_getf C 2 (ok_of hG (kds0 hu) (by decide) (by omega)) (kds0 hu) (by decide) rfl hinX4 (by decide) (by decide +kernel) rfl rfl dX4_sound_64 ?_
  refine Wm.top (z' := w (u, 0, 0) (2)) (by simp [st1, cpy]) ?_
  refine r_iconst C dX4_sound_67 ?_
  refine r_iadd C dX4_sound_68 ?_
  refine r_putf C 2 hr (by first | exact hr _ _ | exact hr0 _ _ | exact hrI _ _ | assumption | exact ⟨by omega, by omega⟩) (ok_of hG (kds0 hu) (by decide) (by omega)) (kds0 hu) (by decide) rfl hinX4 tyX4_ok nmX4 (by decide) (by decide +kernel) rfl rfl (ty := .int) (by decide +kernel) rfl rfl rfl (Nat.le_of_ble_eq_true rfl) dX4_sound_69 (fun hr => ?_)
  exact r_vret C dX4_sound_72 (by first | rfl | (simp [*]; done))

set_option maxRecDepth 100000 in
set_option maxHeartbeats 8000000 in
theorem c_X4_lasting {l : Launch} {G : Gt} (hG : Gok G) {u : Nat} (hu : u = 4 ∨ u = 5) {w : Mm} {v : Int} (hs : 0 ≤ w (u, 0, 0) 2 ∧ w (u, 0, 0) 2 ≤ 1024) (hv : inR v) : Con l G yX4_lasting wsX4_lasting ({ frames := 0, cells := 0, slots := 0, locals := 0 } : Room) w [.ref (adr G (u, 0, 0)), vI v] (some (vI (((rlast w u v (w (u, 0, 0) 2).toNat : Nat) : Int)))) w 0 0 := by
  refine Con.head (cc := cX4_lasting) (nL := 4) (ret := (some .int)) hG (by decide +kernel) rfl (Nat.le_of_ble_eq_true rfl) ?_
  intro B A hBl C hr
  have hr0 := hr
  have hrI := hr
  have hinX4 : ∀ w ∈ u_ws RX4 TX4 16, w ∈ wsX4_lasting := by decide +kernel
  refine r_iconst C dX4_lasting_0 ?_
  refine r_istore_n C (i := 2) (lv' := [(2, vI (0)), (0, .ref (adr G (u, 0, 0))), (1, vI (v))]) dX4_lasting_1 rfl (by decide) rfl ?_
  refine r_iconst C dX4_lasting_2 ?_
  refine r_istore_n C (i := 3) (lv' := [(3, vI (0)), (2, vI (0)), (0, .ref (adr G (u, 0, 0))), (1, vI (v))]) dX4_lasting_3 rfl (by decide) rfl ?_
  have loop_4 : ∀ (n : Nat) (i : Nat), (i ≤ (w (u, 0, 0) 2).toNat) → (w (u, 0, 0) 2).toNat - i < n → rng w → Wm B 4 G A (Qe B G A (some (vI (((rlast w u v (w (u, 0, 0) 2).toNat : Nat) : Int)))) w 0 0) w 0 0 4 [(0, .ref (adr G (u, 0, 0))), (1, vI (v)), (2, vI (((rlast w u v i : Nat) : Int))), (3, vI (((i : Nat) : Int)))] [] := by
    intro n4
    induction n4 with
    | zero => intro i hi hm; exact absurd hm (Nat.not_lt_zero _)
    | succ n4 ih4 =>
      intro i hi hm hr
      have hrI := hr
      refine r_iload_n C (k := 3) dX4_lasting_4 rfl ?_
      refine r_aload_n C (k := 0) dX4_lasting_5 rfl ?_
      refine r_getf C 2 (ok_of hG (kds0 hu) (by decide) (by omega)) (kds0 hu) (by decide) rfl hinX4 (by decide) (by decide +kernel) rfl rfl dX4_lasting_6 ?_
      refine r_icmp_ge C (tgt := 62) dX4_lasting_9 (by decide) (by first | exact hr _ _ | exact hr0 _ _ | exact hrI _ _ | assumption | exact ⟨by omega, by omega⟩) (by first | exact hr _ _ | exact hr0 _ _ | exact hrI _ _ | assumption | exact ⟨by omega, by omega⟩) (fun h_1 => ?_) (fun h_1 => ?_)
      · skip
        refine r_iload_n C (k := 2) dX4_lasting_62 rfl ?_
        exact r_iret C dX4_lasting_63 (by (obtain rfl : i = (w (u, 0, 0) 2).toNat := (by omega)); rfl) (by first | rfl | (simp [*]; done))
      · skip
        refine r_iload_n C (k := 2) dX4_lasting_12 rfl ?_
        refine r_aload_n C (k := 0) dX4_lasting_13 rfl ?_
        refine r_getf C 10 (v := .ref (adr G (u, 0, 8))) (ok_of hG (kds0 hu) (by decide) (by omega)) (kds0 hu) (by decide) rfl hinX4 (by decide) (by decide +kernel) rfl rfl dX4_lasting_14 ?_
        refine r_iload_n C (k := 3) dX4_lasting_17 rfl ?_
        refine r_iald C (i) (ok_of hG (kds8 hu) (by decide) (by omega)) (kds8 hu) rfl (by first | omega | assumption) (by decide) dX4_lasting_18 ?_
        refine r_iload_n C (k := 1) dX4_lasting_19 rfl ?_
        refine r_icmp_ne C (tgt := 53) dX4_lasting_20 (by decide) (by first | exact hr _ _ | exact hr0 _ _ | exact hrI _ _ | assumption | exact ⟨by omega, by omega⟩) (by first | exact hr _ _ | exact hr0 _ _ | exact hrI _ _ | assumption | exact ⟨by omega, by omega⟩) (fun h_2 => ?_) (fun h_2 => ?_)
        · skip
          refine r_iconst C dX4_lasting_53 ?_
          refine r_iadd C dX4_lasting_54 ?_
          refine r_istore_n C (i := 2) (lv' := [(2, vI ((((rlast w u v i : Nat) : Int) + 0))), (0, .ref (adr G (u, 0, 0))), (1, vI (v)), (3, vI (((i : Nat) : Int)))]) dX4_lasting_55 rfl (by decide) rfl ?_
          refine r_iinc C (k := 3) (lv' := [(3, vI (((i + 1 : Nat) : Int))), (2, vI ((((rlast w u v i : Nat) : Int) + 0))), (0, .ref (adr G (u, 0, 0))), (1, vI (v))]) dX4_lasting_56 rfl (by decide) rfl ?_
          refine r_goto C (tgt := 4) dX4_lasting_59 (by decide) ?_
          have e_3 : w = w := by rfl
          refine Wm.sub (lv' := [(0, .ref (adr G (u, 0, 0))), (1, vI (v)), (2, vI ((((rlast w u v i : Nat) : Int) + 0))), (3, vI (((i + 1 : Nat) : Int)))]) [2, 3, 1, 0] rfl ?_
          refine Wm.mem (lv' := [(0, .ref (adr G (u, 0, 0))), (1, vI (v)), (2, vI (((rlast w u v (i + 1) : Nat) : Int))), (3, vI ((((i + 1) : Nat) : Int)))]) e_3 (by (simp only [rlast]; first | (rw [if_pos ⟨by assumption, by omega, by omega⟩]; rfl) | (rw [if_neg (fun q => by omega)]; first | rfl | simp))) ?_
          exact ih4 ((i + 1)) (by omega) (by omega) (e_3 ▸ hr)
        · skip
          refine r_aload_n C (k := 0) dX4_lasting_23 rfl ?_
          refine r_getf C 12 (v := .ref (adr G (u, 0, 10))) (ok_of hG (kds0 hu) (by decide) (by omega)) (kds0 hu) (by decide) rfl hinX4 (by decide) (by decide +kernel) rfl rfl dX4_lasting_24 ?_
          refine r_iload_n C (k := 3) dX4_lasting_27 rfl ?_
          refine r_iald C (i) (ok_of hG (kds10 hu) (by decide) (by omega)) (kds10 hu) rfl (by first | omega | assumption) (by decide) dX4_lasting_28 ?_
          refine r_aload_n C (k := 0) dX4_lasting_29 rfl ?_
          refine r_getf C 0 (ok_of hG (kds0 hu) (by decide) (by omega)) (kds0 hu) (by decide) rfl hinX4 (by decide) (by decide +kernel) rfl rfl dX4_lasting_30 ?_
          refine r_icmp_gt C (tgt := 53) dX4_lasting_33 (by decide) (by first | exact hr _ _ | exact hr0 _ _ | exact hrI _ _ | assumption | exact ⟨by omega, by omega⟩) (by first | exact hr _ _ | exact hr0 _ _ | exact hrI _ _ | assumption | exact ⟨by omega, by omega⟩) (fun h_4 => ?_) (fun h_4 => ?_)
          · skip
            refine r_iconst C dX4_lasting_53 ?_
            refine r_iadd C dX4_lasting_54 ?_
            refine r_istore_n C (i := 2) (lv' := [(2, vI ((((rlast w u v i : Nat) : Int) + 0))), (0, .ref (adr G (u, 0, 0))), (1, vI (v)), (3, vI (((i : Nat) : Int)))]) dX4_lasting_55 rfl (by decide) rfl ?_
            refine r_iinc C (k := 3) (lv' := [(3, vI (((i + 1 : Nat) : Int))), (2, vI ((((rlast w u v i : Nat) : Int) + 0))), (0, .ref (adr G (u, 0, 0))), (1, vI (v))]) dX4_lasting_56 rfl (by decide) rfl ?_
            refine r_goto C (tgt := 4) dX4_lasting_59 (by decide) ?_
            have e_5 : w = w := by rfl
            refine Wm.sub (lv' := [(0, .ref (adr G (u, 0, 0))), (1, vI (v)), (2, vI ((((rlast w u v i : Nat) : Int) + 0))), (3, vI (((i + 1 : Nat) : Int)))]) [2, 3, 1, 0] rfl ?_
            refine Wm.mem (lv' := [(0, .ref (adr G (u, 0, 0))), (1, vI (v)), (2, vI (((rlast w u v (i + 1) : Nat) : Int))), (3, vI ((((i + 1) : Nat) : Int)))]) e_5 (by (simp only [rlast]; first | (rw [if_pos ⟨by assumption, by omega, by omega⟩]; rfl) | (rw [if_neg (fun q => by omega)]; first | rfl | simp))) ?_
            exact ih4 ((i + 1)) (by omega) (by omega) (e_5 ▸ hr)
          · skip
            refine r_aload_n C (k := 0) dX4_lasting_36 rfl ?_
            refine r_getf C 13 (v := .ref (adr G (u, 0, 11))) (ok_of hG (kds0 hu) (by decide) (by omega)) (kds0 hu) (by decide) rfl hinX4 (by decide) (by decide +kernel) rfl rfl dX4_lasting_37 ?_
            refine r_iload_n C (k := 3) dX4_lasting_40 rfl ?_
            refine r_iald C (i) (ok_of hG (kds11 hu) (by decide) (by omega)) (kds11 hu) rfl (by first | omega | assumption) (by decide) dX4_lasting_41 ?_
            refine r_aload_n C (k := 0) dX4_lasting_42 rfl ?_
            refine r_getf C 0 (ok_of hG (kds0 hu) (by decide) (by omega)) (kds0 hu) (by decide) rfl hinX4 (by decide) (by decide +kernel) rfl rfl dX4_lasting_43 ?_
            refine r_icmp_lt C (tgt := 53) dX4_lasting_46 (by decide) (by first | exact hr _ _ | exact hr0 _ _ | exact hrI _ _ | assumption | exact ⟨by omega, by omega⟩) (by first | exact hr _ _ | exact hr0 _ _ | exact hrI _ _ | assumption | exact ⟨by omega, by omega⟩) (fun h_6 => ?_) (fun h_6 => ?_)
            · skip
              refine r_iconst C dX4_lasting_53 ?_
              refine r_iadd C dX4_lasting_54 ?_
              refine r_istore_n C (i := 2) (lv' := [(2, vI ((((rlast w u v i : Nat) : Int) + 0))), (0, .ref (adr G (u, 0, 0))), (1, vI (v)), (3, vI (((i : Nat) : Int)))]) dX4_lasting_55 rfl (by decide) rfl ?_
              refine r_iinc C (k := 3) (lv' := [(3, vI (((i + 1 : Nat) : Int))), (2, vI ((((rlast w u v i : Nat) : Int) + 0))), (0, .ref (adr G (u, 0, 0))), (1, vI (v))]) dX4_lasting_56 rfl (by decide) rfl ?_
              refine r_goto C (tgt := 4) dX4_lasting_59 (by decide) ?_
              have e_7 : w = w := by rfl
              refine Wm.sub (lv' := [(0, .ref (adr G (u, 0, 0))), (1, vI (v)), (2, vI ((((rlast w u v i : Nat) : Int) + 0))), (3, vI (((i + 1 : Nat) : Int)))]) [2, 3, 1, 0] rfl ?_
              refine Wm.mem (lv' := [(0, .ref (adr G (u, 0, 0))), (1, vI (v)), (2, vI (((rlast w u v (i + 1) : Nat) : Int))), (3, vI ((((i + 1) : Nat) : Int)))]) e_7 (by (simp only [rlast]; first | (rw [if_pos ⟨by assumption, by omega, by omega⟩]; rfl) | (rw [if_neg (fun q => by omega)]; first | rfl | simp))) ?_
              exact ih4 ((i + 1)) (by omega) (by omega) (e_7 ▸ hr)
            · skip
              refine r_iconst C dX4_lasting_49 ?_
              refine r_goto C (tgt := 54) dX4_lasting_50 (by decide) ?_
              refine r_iadd C dX4_lasting_54 ?_
              refine r_istore_n C (i := 2) (lv' := [(2, vI ((((rlast w u v i : Nat) : Int) + 1))), (0, .ref (adr G (u, 0, 0))), (1, vI (v)), (3, vI (((i : Nat) : Int)))]) dX4_lasting_55 rfl (by decide) rfl ?_
              refine r_iinc C (k := 3) (lv' := [(3, vI (((i + 1 : Nat) : Int))), (2, vI ((((rlast w u v i : Nat) : Int) + 1))), (0, .ref (adr G (u, 0, 0))), (1, vI (v))]) dX4_lasting_56 rfl (by decide) rfl ?_
              refine r_goto C (tgt := 4) dX4_lasting_59 (by decide) ?_
              have e_8 : w = w := by rfl
              refine Wm.sub (lv' := [(0, .ref (adr G (u, 0, 0))), (1, vI (v)), (2, vI ((((rlast w u v i : Nat) : Int) + 1))), (3, vI (((i + 1 : Nat) : Int)))]) [2, 3, 1, 0] rfl ?_
              refine Wm.mem (lv' := [(0, .ref (adr G (u, 0, 0))), (1, vI (v)), (2, vI (((rlast w u v (i + 1) : Nat) : Int))), (3, vI ((((i + 1) : Nat) : Int)))]) e_8 (by (simp only [rlast]; first | (rw [if_pos ⟨by assumption, by omega, by omega⟩]; rfl) | (rw [if_neg (fun q => by omega)]; first | rfl | simp))) ?_
              exact ih4 ((i + 1)) (by omega) (by omega) (e_8 ▸ hr)
  have e_9 : w = w := by rfl
  refine Wm.sub (lv' := [(0, .ref (adr G (u, 0, 0))), (1, vI (v)), (2, vI (0)), (3, vI (0))]) [2, 3, 1, 0] rfl ?_
  refine Wm.mem (lv' := [(0, .ref (adr G (u, 0, 0))), (1, vI (v)), (2, vI (((rlast w u v 0 : Nat) : Int))), (3, vI (((0 : Nat) : Int)))]) e_9 (by rfl) ?_
  exact loop_4 _ (0) (by omega) (Nat.lt_succ_self _) (e_9 ▸ hr)

set_option maxRecDepth 100000 in
set_option maxHeartbeats 8000000 in
theorem c_X4_learns {l : Launch} {G : Gt} (hG : Gok G) {u : Nat} (hu : u = 4 ∨ u = 5) {w : Mm} {v : Int} {p : Int} (h1 : 0 ≤ v ∧ v ≤ 7) (h2 : 0 ≤ p ∧ p ≤ 11) : Con l G yX4_learns wsX4_learns ({ frames := 0, cells := 0, slots := 0, locals := 0 } : Room) w [.ref (adr G (u, 0, 0)), vI v, vI p] (some (vI (bI (w (u, 0, 6) (12 * v + p).toNat = -1)))) (rlrn w u v p) 0 0 := by
  refine Con.head (cc := cX4_learns) (nL := 3) (ret := (some .boolean)) hG (by decide +kernel) rfl (Nat.le_of_ble_eq_true rfl) ?_
  intro B A hBl C hr
  have hr0 := hr
  have hrI := hr
  have hinX4 : ∀ w ∈ u_ws RX4 TX4 16, w ∈ wsX4_learns := by decide +kernel
  refine r_aload_n C (k := 0) dX4_learns_0 rfl ?_
  refine r_getf C 8 (v := .ref (adr G (u, 0, 6))) (ok_of hG (kds0 hu) (by decide) (by omega)) (kds0 hu) (by decide) rfl hinX4 (by decide) (by decide +kernel) rfl rfl dX4_learns_1 ?_
  refine r_bipush C dX4_learns_4 (by decide) ?_
  refine r_iload_n C (k := 1) dX4_learns_6 rfl ?_
  refine r_imul C dX4_learns_7 ?_
  refine r_iload_n C (k := 2) dX4_learns_8 rfl ?_
  refine r_iadd C dX4_learns_9 ?_
  refine r_iald C ((((12 * v) + p)).toNat) (ok_of hG (kds6 hu) (by decide) (by omega)) (kds6 hu) (Int.toNat_of_nonneg (by first | omega | assumption)).symm (by first | omega | assumption) (by decide) dX4_learns_10 ?_
  refine r_iconst C dX4_learns_11 ?_
  refine r_icmp_eq C (tgt := 17) dX4_learns_12 (by decide) (by first | exact hr _ _ | exact hr0 _ _ | exact hrI _ _ | assumption | exact ⟨by omega, by omega⟩) ⟨by decide, by decide⟩ (fun h_1 => ?_) (fun h_1 => ?_)
  · skip
    refine r_aload_n C (k := 0) dX4_learns_17 rfl ?_
    refine r_getf C 8 (v := .ref (adr G (u, 0, 6))) (ok_of hG (kds0 hu) (by decide) (by omega)) (kds0 hu) (by decide) rfl hinX4 (by decide) (by decide +kernel) rfl rfl dX4_learns_18 ?_
    refine r_bipush C dX4_learns_21 (by decide) ?_
    refine r_iload_n C (k := 1) dX4_learns_23 rfl ?_
    refine r_imul C dX4_learns_24 ?_
    refine r_iload_n C (k := 2) dX4_learns_25 rfl ?_
    refine r_iadd C dX4_learns_26 ?_
    refine r_aload_n C (k := 0) dX4_learns_27 rfl ?_
    refine r_getf C 0 (ok_of hG (kds0 hu) (by decide) (by omega)) (kds0 hu) (by decide) rfl hinX4 (by decide) (by decide +kernel) rfl rfl dX4_learns_28 ?_
    refine r_iast C ((((12 * v) + p)).toNat) hr (by first | exact hr _ _ | exact hr0 _ _ | exact hrI _ _ | assumption | exact ⟨by omega, by omega⟩) (ok_of hG (kds6 hu) (by decide) (by omega)) (kds6 hu) (Int.toNat_of_nonneg (by first | omega | assumption)).symm (by first | omega | assumption) (by decide) dX4_learns_31 (fun hr => ?_)
    refine r_iconst C dX4_learns_32 ?_
    exact r_zret C dX4_learns_33 (by first | exact Or.inr rfl | exact Or.inl rfl | exact bI_01 _) (by exact congrArg (fun z => some (vI z)) (bI_t (by first | omega | (simp_all; done) | (simp_all; omega))).symm) (by (unfold rlrn; first | rw [if_pos (by assumption)] | rw [if_neg (by assumption)]))
  · skip
    refine r_iconst C dX4_learns_15 ?_
    exact r_zret C dX4_learns_16 (by first | exact Or.inr rfl | exact Or.inl rfl | exact bI_01 _) (by exact congrArg (fun z => some (vI z)) (bI_f (by first | omega | (simp_all; done) | (simp_all; omega))).symm) (by (unfold rlrn; first | rw [if_pos (by assumption)] | rw [if_neg (by assumption)]))

set_option maxRecDepth 100000 in
set_option maxHeartbeats 8000000 in
theorem c_X4_put {l : Launch} {G : Gt} (hG : Gok G) {u : Nat} (hu : u = 4 ∨ u = 5) {w : Mm} {v : Int} {p : Int} (h1 : 0 ≤ v ∧ v ≤ 7) (h2 : inR p) (hq : 0 ≤ w (u, 0, 4) (v).toNat ∧ w (u, 0, 4) (v).toNat < 5) : Con l G yX4_put wsX4_put ({ frames := 0, cells := 0, slots := 0, locals := 0 } : Room) w [.ref (adr G (u, 0, 0)), vI v, vI p] none (rput w u v p) 0 0 := by
  refine Con.head (cc := cX4_put) (nL := 3) (ret := none) hG (by decide +kernel) rfl (Nat.le_of_ble_eq_true rfl) ?_
  intro B A hBl C hr
  have hr0 := hr
  have hrI := hr
  have hinX4 : ∀ w ∈ u_ws RX4 TX4 16, w ∈ wsX4_put := by decide +kernel
  refine r_aload_n C (k := 0) dX4_put_0 rfl ?_
  refine r_getf C 7 (v := .ref (adr G (u, 0, 5))) (ok_of hG (kds0 hu) (by decide) (by omega)) (kds0 hu) (by decide) rfl hinX4 (by decide) (by decide +kernel) rfl rfl dX4_put_1 ?_
  refine r_iconst C dX4_put_4 ?_
  refine r_iload_n C (k := 1) dX4_put_5 rfl ?_
  refine r_imul C dX4_put_6 ?_
  refine r_aload_n C (k := 0) dX4_put_7 rfl ?_
  refine r_getf C 6 (v := .ref (adr G (u, 0, 4))) (ok_of hG (kds0 hu) (by decide) (by omega)) (kds0 hu) (by decide) rfl hinX4 (by decide) (by decide +kernel) rfl rfl dX4_put_8 ?_
  refine r_iload_n C (k := 1) dX4_put_11 rfl ?_
  refine r_iald C ((v).toNat) (ok_of hG (kds4 hu) (by decide) (by omega)) (kds4 hu) (Int.toNat_of_nonneg (by first | omega | assumption)).symm (by first | omega | assumption) (by decide) dX4_put_12 ?_
  refine r_iadd C dX4_put_13 ?_
  refine r_iload_n C (k := 2) dX4_put_14 rfl ?_
  refine r_iast C ((((5 * v) + w (u, 0, 4) ((v).toNat))).toNat) hr (by first | exact hr _ _ | exact hr0 _ _ | exact hrI _ _ | assumption | exact ⟨by omega, by omega⟩) (ok_of hG (kds5 hu) (by decide) (by omega)) (kds5 hu) (Int.toNat_of_nonneg (by first | omega | assumption)).symm (by first | omega | assumption) (by decide) dX4_put_15 (fun hr => ?_)
  refine r_aload_n C (k := 0) dX4_put_16 rfl ?_
  refine r_getf C 6 (v := .ref (adr G (u, 0, 4))) (ok_of hG (kds0 hu) (by decide) (by omega)) (kds0 hu) (by decide) rfl hinX4 (by decide) (by decide +kernel) rfl rfl dX4_put_17 ?_
  refine r_iload_n C (k := 1) dX4_put_20 rfl ?_
  refine r_dup2 C dX4_put_21 rfl rfl ?_
  refine r_iald C ((v).toNat) (ok_of hG (kds4 hu) (by decide) (by omega)) (kds4 hu) (Int.toNat_of_nonneg (by first | omega | assumption)).symm (by first | omega | assumption) (by decide) dX4_put_22 ?_
  refine Wm.top (z' := w (u, 0, 4) ((v).toNat)) (by simp [st1, cpy]) ?_
  refine r_iconst C dX4_put_23 ?_
  refine r_iadd C dX4_put_24 ?_
  refine r_iast C ((v).toNat) hr (by first | exact hr _ _ | exact hr0 _ _ | exact hrI _ _ | assumption | exact ⟨by omega, by omega⟩) (ok_of hG (kds4 hu) (by decide) (by omega)) (kds4 hu) (Int.toNat_of_nonneg (by first | omega | assumption)).symm (by first | omega | assumption) (by decide) dX4_put_25 (fun hr => ?_)
  exact r_vret C dX4_put_26 (by first | rfl | (simp [*]; done))

set_option maxRecDepth 100000 in
set_option maxHeartbeats 8000000 in
theorem c_X4_knowing {l : Launch} {G : Gt} (hG : Gok G) {u : Nat} (hu : u = 4 ∨ u = 5) {w : Mm} {p : Int} (hv0 : 0 ≤ w (3, 0, 0) 1 ∧ w (3, 0, 0) 1 ≤ 8) (hp : 0 ≤ p ∧ p ≤ 11) : Con l G yX4_knowing wsX4_knowing ({ frames := 0, cells := 0, slots := 0, locals := 0 } : Room) w [.ref (adr G (u, 0, 0)), vI p] (some (vI (rkn w u p (w (3, 0, 0) 1).toNat))) w 0 0 := by
  refine Con.head (cc := cX4_knowing) (nL := 4) (ret := (some .int)) hG (by decide +kernel) rfl (Nat.le_of_ble_eq_true rfl) ?_
  intro B A hBl C hr
  have hr0 := hr
  have hrI := hr
  have hinX4 : ∀ w ∈ u_ws RX4 TX4 16, w ∈ wsX4_knowing := by decide +kernel
  have hinX5 : ∀ w ∈ u_ws RX5 TX5 12, w ∈ wsX4_knowing := by decide +kernel
  refine r_iconst C dX4_knowing_0 ?_
  refine r_istore_n C (i := 2) (lv' := [(2, vI (0)), (0, .ref (adr G (u, 0, 0))), (1, vI (p))]) dX4_knowing_1 rfl (by decide) rfl ?_
  refine r_iconst C dX4_knowing_2 ?_
  refine r_istore_n C (i := 3) (lv' := [(3, vI (0)), (2, vI (0)), (0, .ref (adr G (u, 0, 0))), (1, vI (p))]) dX4_knowing_3 rfl (by decide) rfl ?_
  have loop_4 : ∀ (n : Nat) (i : Nat), (i ≤ (w (3, 0, 0) 1).toNat) → (w (3, 0, 0) 1).toNat - i < n → rng w → Wm B 4 G A (Qe B G A (some (vI (rkn w u p (w (3, 0, 0) 1).toNat))) w 0 0) w 0 0 4 [(0, .ref (adr G (u, 0, 0))), (1, vI (p)), (2, vI (rkn w u p i)), (3, vI (((i : Nat) : Int)))] [] := by
    intro n4
    induction n4 with
    | zero => intro i hi hm; exact absurd hm (Nat.not_lt_zero _)
    | succ n4 ih4 =>
      intro i hi hm hr
      have hrI := hr
      refine r_iload_n C (k := 3) dX4_knowing_4 rfl ?_
      refine r_aload_n C (k := 0) dX4_knowing_5 rfl ?_
      refine r_getf C 15 (v := .ref (adr G (3, 0, 0))) (ok_of hG (kds0 hu) (by decide) (by omega)) (kds0 hu) (by decide) rfl hinX4 (by decide) (by decide +kernel) rfl rfl dX4_knowing_6 ?_
      refine r_getfN (host := "DrumTalkModel") C 1 (ok_of hG (show kd (3, 0, 0) = _ from rfl) (by decide) (by decide)) (show kd (3, 0, 0) = _ from rfl) (by decide) rfl hinX5 (by decide) (by decide +kernel) rfl rfl dX4_knowing_9 ?_
      refine r_icmp_ge C (tgt := 44) dX4_knowing_12 (by decide) (by first | exact hr _ _ | exact hr0 _ _ | exact hrI _ _ | assumption | exact ⟨by omega, by omega⟩) (by first | exact hr _ _ | exact hr0 _ _ | exact hrI _ _ | assumption | exact ⟨by omega, by omega⟩) (fun h_1 => ?_) (fun h_1 => ?_)
      · skip
        refine r_iload_n C (k := 2) dX4_knowing_44 rfl ?_
        exact r_iret C dX4_knowing_45 (by (obtain rfl : i = (w (3, 0, 0) 1).toNat := (by omega)); rfl) (by first | rfl | (simp [*]; done))
      · skip
        refine r_iload_n C (k := 2) dX4_knowing_15 rfl ?_
        refine r_aload_n C (k := 0) dX4_knowing_16 rfl ?_
        refine r_getf C 8 (v := .ref (adr G (u, 0, 6))) (ok_of hG (kds0 hu) (by decide) (by omega)) (kds0 hu) (by decide) rfl hinX4 (by decide) (by decide +kernel) rfl rfl dX4_knowing_17 ?_
        refine r_bipush C dX4_knowing_20 (by decide) ?_
        refine r_iload_n C (k := 3) dX4_knowing_22 rfl ?_
        refine r_imul C dX4_knowing_23 ?_
        refine r_iload_n C (k := 1) dX4_knowing_24 rfl ?_
        refine r_iadd C dX4_knowing_25 ?_
        refine r_iald C ((((12 * ((i : Nat) : Int)) + p)).toNat) (ok_of hG (kds6 hu) (by decide) (by omega)) (kds6 hu) (Int.toNat_of_nonneg (by first | omega | assumption)).symm (by first | omega | assumption) (by decide) dX4_knowing_26 ?_
        refine r_iconst C dX4_knowing_27 ?_
        refine r_icmp_ne C (tgt := 35) dX4_knowing_28 (by decide) (by first | exact hr _ _ | exact hr0 _ _ | exact hrI _ _ | assumption | exact ⟨by omega, by omega⟩) ⟨by decide, by decide⟩ (fun h_2 => ?_) (fun h_2 => ?_)
        · skip
          refine r_iconst C dX4_knowing_35 ?_
          refine r_iadd C dX4_knowing_36 ?_
          refine r_istore_n C (i := 2) (lv' := [(2, vI ((rkn w u p i + 1))), (0, .ref (adr G (u, 0, 0))), (1, vI (p)), (3, vI (((i : Nat) : Int)))]) dX4_knowing_37 rfl (by decide) rfl ?_
          refine r_iinc C (k := 3) (lv' := [(3, vI (((i + 1 : Nat) : Int))), (2, vI ((rkn w u p i + 1))), (0, .ref (adr G (u, 0, 0))), (1, vI (p))]) dX4_knowing_38 rfl (by decide) rfl ?_
          refine r_goto C (tgt := 4) dX4_knowing_41 (by decide) ?_
          have e_3 : w = w := by rfl
          refine Wm.sub (lv' := [(0, .ref (adr G (u, 0, 0))), (1, vI (p)), (2, vI ((rkn w u p i + 1))), (3, vI (((i + 1 : Nat) : Int)))]) [2, 3, 1, 0] rfl ?_
          refine Wm.mem (lv' := [(0, .ref (adr G (u, 0, 0))), (1, vI (p)), (2, vI (rkn w u p (i + 1))), (3, vI ((((i + 1) : Nat) : Int)))]) e_3 (by (unfold rkn; simp only [sumI]; first | rw [bI_t (by assumption)] | rw [bI_f (fun q => q (by assumption))])) ?_
          exact ih4 ((i + 1)) (by omega) (by omega) (e_3 ▸ hr)
        · skip
          refine r_iconst C dX4_knowing_31 ?_
          refine r_goto C (tgt := 36) dX4_knowing_32 (by decide) ?_
          refine r_iadd C dX4_knowing_36 ?_
          refine r_istore_n C (i := 2) (lv' := [(2, vI ((rkn w u p i + 0))), (0, .ref (adr G (u, 0, 0))), (1, vI (p)), (3, vI (((i : Nat) : Int)))]) dX4_knowing_37 rfl (by decide) rfl ?_
          refine r_iinc C (k := 3) (lv' := [(3, vI (((i + 1 : Nat) : Int))), (2, vI ((rkn w u p i + 0))), (0, .ref (adr G (u, 0, 0))), (1, vI (p))]) dX4_knowing_38 rfl (by decide) rfl ?_
          refine r_goto C (tgt := 4) dX4_knowing_41 (by decide) ?_
          have e_4 : w = w := by rfl
          refine Wm.sub (lv' := [(0, .ref (adr G (u, 0, 0))), (1, vI (p)), (2, vI ((rkn w u p i + 0))), (3, vI (((i + 1 : Nat) : Int)))]) [2, 3, 1, 0] rfl ?_
          refine Wm.mem (lv' := [(0, .ref (adr G (u, 0, 0))), (1, vI (p)), (2, vI (rkn w u p (i + 1))), (3, vI ((((i + 1) : Nat) : Int)))]) e_4 (by (unfold rkn; simp only [sumI]; first | rw [bI_t (by assumption)] | rw [bI_f (fun q => q (by assumption))])) ?_
          exact ih4 ((i + 1)) (by omega) (by omega) (e_4 ▸ hr)
  have e_5 : w = w := by rfl
  refine Wm.sub (lv' := [(0, .ref (adr G (u, 0, 0))), (1, vI (p)), (2, vI (0)), (3, vI (0))]) [2, 3, 1, 0] rfl ?_
  refine Wm.mem (lv' := [(0, .ref (adr G (u, 0, 0))), (1, vI (p)), (2, vI (rkn w u p 0)), (3, vI (((0 : Nat) : Int)))]) e_5 (by rfl) ?_
  exact loop_4 _ (0) (by omega) (Nat.lt_succ_self _) (e_5 ▸ hr)

set_option maxRecDepth 100000 in
set_option maxHeartbeats 8000000 in
theorem c_X4_pairs {l : Launch} {G : Gt} (hG : Gok G) {u : Nat} (hu : u = 4 ∨ u = 5) {w : Mm} (hv0 : 0 ≤ w (3, 0, 0) 1 ∧ w (3, 0, 0) 1 ≤ 8) (hp0 : 0 ≤ w (3, 0, 0) 2 ∧ w (3, 0, 0) 2 ≤ 12) : Con l G yX4_pairs wsX4_pairs ({ frames := 1, cells := 0, slots := 0, locals := 23 } : Room) w [.ref (adr G (u, 0, 0))] (some (vI (rprs w u))) w 0 0 := by
  refine Con.head (cc := cX4_pairs) (nL := 3) (ret := (some .int)) hG (by decide +kernel) rfl (Nat.le_of_ble_eq_true rfl) ?_
  intro B A hBl C hr
  have hr0 := hr
  have hrI := hr
  have hinX4 : ∀ w ∈ u_ws RX4 TX4 16, w ∈ wsX4_pairs := by decide +kernel
  have hinX5 : ∀ w ∈ u_ws RX5 TX5 12, w ∈ wsX4_pairs := by decide +kernel
  refine r_iconst C dX4_pairs_0 ?_
  refine r_istore_n C (i := 1) (lv' := [(1, vI (0)), (0, .ref (adr G (u, 0, 0)))]) dX4_pairs_1 rfl (by decide) rfl ?_
  refine r_iconst C dX4_pairs_2 ?_
  refine r_istore_n C (i := 2) (lv' := [(2, vI (0)), (1, vI (0)), (0, .ref (adr G (u, 0, 0)))]) dX4_pairs_3 rfl (by decide) rfl ?_
  have loop_4 : ∀ (n : Nat) (i : Nat), (i ≤ (w (3, 0, 0) 2).toNat) → (w (3, 0, 0) 2).toNat - i < n → rng w → Wm B 3 G A (Qe B G A (some (vI (rprs w u))) w 0 0) w 0 0 4 [(0, .ref (adr G (u, 0, 0))), (1, vI (sumI (fun p => rkn w u p (w (3, 0, 0) 1).toNat) i)), (2, vI (((i : Nat) : Int)))] [] := by
    intro n4
    induction n4 with
    | zero => intro i hi hm; exact absurd hm (Nat.not_lt_zero _)
    | succ n4 ih4 =>
      intro i hi hm hr
      have hrI := hr
      refine r_iload_n C (k := 2) dX4_pairs_4 rfl ?_
      refine r_aload_n C (k := 0) dX4_pairs_5 rfl ?_
      refine r_getf C 15 (v := .ref (adr G (3, 0, 0))) (ok_of hG (kds0 hu) (by decide) (by omega)) (kds0 hu) (by decide) rfl hinX4 (by decide) (by decide +kernel) rfl rfl dX4_pairs_6 ?_
      refine r_getfN (host := "DrumTalkModel") C 2 (ok_of hG (show kd (3, 0, 0) = _ from rfl) (by decide) (by decide)) (show kd (3, 0, 0) = _ from rfl) (by decide) rfl hinX5 (by decide) (by decide +kernel) rfl rfl dX4_pairs_9 ?_
      refine r_icmp_ge C (tgt := 29) dX4_pairs_12 (by decide) (by first | exact hr _ _ | exact hr0 _ _ | exact hrI _ _ | assumption | exact ⟨by omega, by omega⟩) (by first | exact hr _ _ | exact hr0 _ _ | exact hrI _ _ | assumption | exact ⟨by omega, by omega⟩) (fun h_1 => ?_) (fun h_1 => ?_)
      · skip
        refine r_iload_n C (k := 1) dX4_pairs_29 rfl ?_
        exact r_iret C dX4_pairs_30 (by (obtain rfl : i = (w (3, 0, 0) 2).toNat := (by omega)); rfl) (by first | rfl | (simp [*]; done))
      · skip
        refine r_iload_n C (k := 1) dX4_pairs_15 rfl ?_
        refine r_aload_n C (k := 0) dX4_pairs_16 rfl ?_
        refine r_iload_n C (k := 2) dX4_pairs_17 rfl ?_
        refine r_callV C (w' := w) [vI (((i : Nat) : Int))] 1 (c_X4_knowing hG hu (by first | assumption | omega | exact hr _ _ | exact hr0 _ _ | exact hrI _ _ | exact ⟨by omega, by omega⟩ | exact bI_inR _ | (simp [st1] <;> omega) | exact rowR.so (by assumption) (by simp)) (by first | assumption | omega | exact hr _ _ | exact hr0 _ _ | exact hrI _ _ | exact ⟨by omega, by omega⟩ | exact bI_inR _ | (simp [st1] <;> omega) | exact rowR.so (by assumption) (by simp))) gX4_pairs_X4_knowing rfl rfl rfl (by decide +kernel) (Nat.le_of_ble_eq_true rfl) (Nat.le_of_ble_eq_true rfl) ⟨(Nat.zero_le _), (Nat.zero_le _)⟩ (ok_of hG (kds0 hu) (by decide) (by omega)) (kds0 hu) (by decide) rfl rfl rfl (Nat.le_of_ble_eq_true rfl) (st' := [vI ((rkn w u (((i : Nat) : Int)) ((w (3, 0, 0) (1))).toNat)), vI (sumI (fun p => rkn w u p (w (3, 0, 0) 1).toNat) i)]) rfl dX4_pairs_18 (fun hr => ?_)
        refine r_iadd C dX4_pairs_21 ?_
        refine r_istore_n C (i := 1) (lv' := [(1, vI ((sumI (fun p => rkn w u p (w (3, 0, 0) 1).toNat) i + (rkn w u (((i : Nat) : Int)) ((w (3, 0, 0) (1))).toNat)))), (0, .ref (adr G (u, 0, 0))), (2, vI (((i : Nat) : Int)))]) dX4_pairs_22 rfl (by decide) rfl ?_
        refine r_iinc C (k := 2) (lv' := [(2, vI (((i + 1 : Nat) : Int))), (1, vI ((sumI (fun p => rkn w u p (w (3, 0, 0) 1).toNat) i + (rkn w u (((i : Nat) : Int)) ((w (3, 0, 0) (1))).toNat)))), (0, .ref (adr G (u, 0, 0)))]) dX4_pairs_23 rfl (by decide) rfl ?_
        refine r_goto C (tgt := 4) dX4_pairs_26 (by decide) ?_
        have e_2 : w = w := by rfl
        refine Wm.sub (lv' := [(0, .ref (adr G (u, 0, 0))), (1, vI ((sumI (fun p => rkn w u p (w (3, 0, 0) 1).toNat) i + (rkn w u (((i : Nat) : Int)) ((w (3, 0, 0) (1))).toNat)))), (2, vI (((i + 1 : Nat) : Int)))]) [2, 1, 0] rfl ?_
        refine Wm.mem (lv' := [(0, .ref (adr G (u, 0, 0))), (1, vI (sumI (fun p => rkn w u p (w (3, 0, 0) 1).toNat) (i + 1))), (2, vI ((((i + 1) : Nat) : Int)))]) e_2 (by rfl) ?_
        exact ih4 ((i + 1)) (by omega) (by omega) (e_2 ▸ hr)
  have e_3 : w = w := by rfl
  refine Wm.sub (lv' := [(0, .ref (adr G (u, 0, 0))), (1, vI (0)), (2, vI (0))]) [2, 1, 0] rfl ?_
  refine Wm.mem (lv' := [(0, .ref (adr G (u, 0, 0))), (1, vI (sumI (fun p => rkn w u p (w (3, 0, 0) 1).toNat) 0)), (2, vI (((0 : Nat) : Int)))]) e_3 (by rfl) ?_
  exact loop_4 _ (0) (by omega) (Nat.lt_succ_self _) (e_3 ▸ hr)

set_option maxRecDepth 100000 in
set_option maxHeartbeats 8000000 in
theorem c_X4_become {l : Launch} {G : Gt} (hG : Gok G) {u : Nat} {u2 : Nat} (hu : u = 4 ∨ u = 5) (hu2 : u2 = 4 ∨ u2 = 5) {w : Mm} (hs : 0 ≤ w (u2, 0, 0) 2 ∧ w (u2, 0, 0) 2 ≤ 1024) (hne : u ≠ u2) : Con l G yX4_become wsX4_become ({ frames := 2, cells := 0, slots := 0, locals := 49 } : Room) w [.ref (adr G (u, 0, 0)), .ref (adr G (u2, 0, 0))] none (rbec w u u2) 0 0 := by
  refine Con.head (cc := cX4_become) (nL := 2) (ret := none) hG (by decide +kernel) rfl (Nat.le_of_ble_eq_true rfl) ?_
  intro B A hBl C hr
  have hr0 := hr
  have hrI := hr
  have hinX4 : ∀ w ∈ u_ws RX4 TX4 16, w ∈ wsX4_become := by decide +kernel
  have hne2 : u2 ≠ u := fun q => hne q.symm
  refine r_aload_n C (k := 0) dX4_become_0 rfl ?_
  refine r_aload_n C (k := 1) dX4_become_1 rfl ?_
  refine r_getf C 0 (ok_of hG (kds0 hu2) (by decide) (by omega)) (kds0 hu2) (by decide) rfl hinX4 (by decide) (by decide +kernel) rfl rfl dX4_become_2 ?_
  refine r_putf C 0 hr (by first | exact hr _ _ | exact hr0 _ _ | exact hrI _ _ | assumption | exact ⟨by omega, by omega⟩) (ok_of hG (kds0 hu) (by decide) (by omega)) (kds0 hu) (by decide) rfl hinX4 tyX4_ok nmX4 (by decide) (by decide +kernel) rfl rfl (ty := .int) (by decide +kernel) rfl rfl rfl (Nat.le_of_ble_eq_true rfl) dX4_become_5 (fun hr => ?_)
  refine r_aload_n C (k := 0) dX4_become_8 rfl ?_
  refine r_aload_n C (k := 1) dX4_become_9 rfl ?_
  refine r_getf C 1 (ok_of hG (kds0 hu2) (by decide) (by omega)) (kds0 hu2) (by decide) rfl hinX4 (by decide) (by decide +kernel) rfl rfl dX4_become_10 ?_
  refine Wm.top (z' := w (u2, 0, 0) (1)) (by simp [st1, cpy, hne, hne2]) ?_
  refine r_putf C 1 hr (by first | exact hr _ _ | exact hr0 _ _ | exact hrI _ _ | assumption | exact ⟨by omega, by omega⟩) (ok_of hG (kds0 hu) (by decide) (by omega)) (kds0 hu) (by decide) rfl hinX4 tyX4_ok nmX4 (by decide) (by decide +kernel) rfl rfl (ty := .int) (by decide +kernel) rfl rfl rfl (Nat.le_of_ble_eq_true rfl) dX4_become_13 (fun hr => ?_)
  refine r_aload_n C (k := 0) dX4_become_16 rfl ?_
  refine r_aload_n C (k := 1) dX4_become_17 rfl ?_
  refine r_getf C 2 (ok_of hG (kds0 hu2) (by decide) (by omega)) (kds0 hu2) (by decide) rfl hinX4 (by decide) (by decide +kernel) rfl rfl dX4_become_18 ?_
  refine Wm.top (z' := w (u2, 0, 0) (2)) (by simp [st1, cpy, hne, hne2]) ?_
  refine r_putf C 2 hr (by first | exact hr _ _ | exact hr0 _ _ | exact hrI _ _ | assumption | exact ⟨by omega, by omega⟩) (ok_of hG (kds0 hu) (by decide) (by omega)) (kds0 hu) (by decide) rfl hinX4 tyX4_ok nmX4 (by decide) (by decide +kernel) rfl rfl (ty := .int) (by decide +kernel) rfl rfl rfl (Nat.le_of_ble_eq_true rfl) dX4_become_21 (fun hr => ?_)
  refine r_aload_n C (k := 0) dX4_become_24 rfl ?_
  refine r_aload_n C (k := 1) dX4_become_25 rfl ?_
  refine r_getf C 3 (v := .ref (adr G (u2, 0, 1))) (ok_of hG (kds0 hu2) (by decide) (by omega)) (kds0 hu2) (by decide) rfl hinX4 (by decide) (by decide +kernel) rfl rfl dX4_become_26 ?_
  refine r_aload_n C (k := 0) dX4_become_29 rfl ?_
  refine r_getf C 3 (v := .ref (adr G (u, 0, 1))) (ok_of hG (kds0 hu) (by decide) (by omega)) (kds0 hu) (by decide) rfl hinX4 (by decide) (by decide +kernel) rfl rfl dX4_become_30 ?_
  refine r_bipush C dX4_become_33 (by decide) ?_
  refine r_callV C (w' := (cpy (st1 (st1 (st1 w (u, 0, 0) (0) (w (u2, 0, 0) (0))) (u, 0, 0) (1) (w (u2, 0, 0) (1))) (u, 0, 0) (2) (w (u2, 0, 0) (2))) (u2, 0, 1) (u, 0, 1) (0) (0) (8))) [.ref (adr G (u2, 0, 1)), .ref (adr G (u, 0, 1)), vI (8)] 3 (c_X4_copy hG (by omega) (k0 := (u2, 0, 1)) (k1 := (u, 0, 1)) (m := 8) (ok_of hG (kds1 hu2) (by decide) (by omega)) (ok_of hG (kds1 hu) (by decide) (by omega)) (kds1 hu2) (kds1 hu) (by omega) (by omega) (by decide) (by decide)) gX4_become_X4_copy rfl rfl rfl (by decide +kernel) (Nat.le_of_ble_eq_true rfl) (Nat.le_of_ble_eq_true rfl) ⟨(Nat.zero_le _), (Nat.zero_le _)⟩ (ok_of hG (kds0 hu) (by decide) (by omega)) (kds0 hu) (by decide) rfl rfl rfl (Nat.le_of_ble_eq_true rfl) (st' := []) rfl dX4_become_35 (fun hr => ?_)
  refine r_aload_n C (k := 0) dX4_become_38 rfl ?_
  refine r_aload_n C (k := 1) dX4_become_39 rfl ?_
  refine r_getf C 4 (v := .ref (adr G (u2, 0, 2))) (ok_of hG (kds0 hu2) (by decide) (by omega)) (kds0 hu2) (by decide) rfl hinX4 (by decide) (by decide +kernel) rfl rfl dX4_become_40 ?_
  refine r_aload_n C (k := 0) dX4_become_43 rfl ?_
  refine r_getf C 4 (v := .ref (adr G (u, 0, 2))) (ok_of hG (kds0 hu) (by decide) (by omega)) (kds0 hu) (by decide) rfl hinX4 (by decide) (by decide +kernel) rfl rfl dX4_become_44 ?_
  refine r_bipush C dX4_become_47 (by decide) ?_
  refine r_callV C (w' := (cpy (cpy (st1 (st1 (st1 w (u, 0, 0) (0) (w (u2, 0, 0) (0))) (u, 0, 0) (1) (w (u2, 0, 0) (1))) (u, 0, 0) (2) (w (u2, 0, 0) (2))) (u2, 0, 1) (u, 0, 1) (0) (0) (8)) (u2, 0, 2) (u, 0, 2) (0) (0) (8))) [.ref (adr G (u2, 0, 2)), .ref (adr G (u, 0, 2)), vI (8)] 3 (c_X4_copy hG (by omega) (k0 := (u2, 0, 2)) (k1 := (u, 0, 2)) (m := 8) (ok_of hG (kds2 hu2) (by decide) (by omega)) (ok_of hG (kds2 hu) (by decide) (by omega)) (kds2 hu2) (kds2 hu) (by omega) (by omega) (by decide) (by decide)) gX4_become_X4_copy rfl rfl rfl (by decide +kernel) (Nat.le_of_ble_eq_true rfl) (Nat.le_of_ble_eq_true rfl) ⟨(Nat.zero_le _), (Nat.zero_le _)⟩ (ok_of hG (kds0 hu) (by decide) (by omega)) (kds0 hu) (by decide) rfl rfl rfl (Nat.le_of_ble_eq_true rfl) (st' := []) rfl dX4_become_49 (fun hr => ?_)
  refine r_aload_n C (k := 0) dX4_become_52 rfl ?_
  refine r_aload_n C (k := 1) dX4_become_53 rfl ?_
  refine r_getf C 5 (v := .ref (adr G (u2, 0, 3))) (ok_of hG (kds0 hu2) (by decide) (by omega)) (kds0 hu2) (by decide) rfl hinX4 (by decide) (by decide +kernel) rfl rfl dX4_become_54 ?_
  refine r_aload_n C (k := 0) dX4_become_57 rfl ?_
  refine r_getf C 5 (v := .ref (adr G (u, 0, 3))) (ok_of hG (kds0 hu) (by decide) (by omega)) (kds0 hu) (by decide) rfl hinX4 (by decide) (by decide +kernel) rfl rfl dX4_become_58 ?_
  refine r_bipush C dX4_become_61 (by decide) ?_
  refine r_callV C (w' := (cpy (cpy (cpy (st1 (st1 (st1 w (u, 0, 0) (0) (w (u2, 0, 0) (0))) (u, 0, 0) (1) (w (u2, 0, 0) (1))) (u, 0, 0) (2) (w (u2, 0, 0) (2))) (u2, 0, 1) (u, 0, 1) (0) (0) (8)) (u2, 0, 2) (u, 0, 2) (0) (0) (8)) (u2, 0, 3) (u, 0, 3) (0) (0) (8))) [.ref (adr G (u2, 0, 3)), .ref (adr G (u, 0, 3)), vI (8)] 3 (c_X4_copy hG (by omega) (k0 := (u2, 0, 3)) (k1 := (u, 0, 3)) (m := 8) (ok_of hG (kds3 hu2) (by decide) (by omega)) (ok_of hG (kds3 hu) (by decide) (by omega)) (kds3 hu2) (kds3 hu) (by omega) (by omega) (by decide) (by decide)) gX4_become_X4_copy rfl rfl rfl (by decide +kernel) (Nat.le_of_ble_eq_true rfl) (Nat.le_of_ble_eq_true rfl) ⟨(Nat.zero_le _), (Nat.zero_le _)⟩ (ok_of hG (kds0 hu) (by decide) (by omega)) (kds0 hu) (by decide) rfl rfl rfl (Nat.le_of_ble_eq_true rfl) (st' := []) rfl dX4_become_63 (fun hr => ?_)
  refine r_aload_n C (k := 0) dX4_become_66 rfl ?_
  refine r_aload_n C (k := 1) dX4_become_67 rfl ?_
  refine r_getf C 6 (v := .ref (adr G (u2, 0, 4))) (ok_of hG (kds0 hu2) (by decide) (by omega)) (kds0 hu2) (by decide) rfl hinX4 (by decide) (by decide +kernel) rfl rfl dX4_become_68 ?_
  refine r_aload_n C (k := 0) dX4_become_71 rfl ?_
  refine r_getf C 6 (v := .ref (adr G (u, 0, 4))) (ok_of hG (kds0 hu) (by decide) (by omega)) (kds0 hu) (by decide) rfl hinX4 (by decide) (by decide +kernel) rfl rfl dX4_become_72 ?_
  refine r_bipush C dX4_become_75 (by decide) ?_
  refine r_callV C (w' := (cpy (cpy (cpy (cpy (st1 (st1 (st1 w (u, 0, 0) (0) (w (u2, 0, 0) (0))) (u, 0, 0) (1) (w (u2, 0, 0) (1))) (u, 0, 0) (2) (w (u2, 0, 0) (2))) (u2, 0, 1) (u, 0, 1) (0) (0) (8)) (u2, 0, 2) (u, 0, 2) (0) (0) (8)) (u2, 0, 3) (u, 0, 3) (0) (0) (8)) (u2, 0, 4) (u, 0, 4) (0) (0) (8))) [.ref (adr G (u2, 0, 4)), .ref (adr G (u, 0, 4)), vI (8)] 3 (c_X4_copy hG (by omega) (k0 := (u2, 0, 4)) (k1 := (u, 0, 4)) (m := 8) (ok_of hG (kds4 hu2) (by decide) (by omega)) (ok_of hG (kds4 hu) (by decide) (by omega)) (kds4 hu2) (kds4 hu) (by omega) (by omega) (by decide) (by decide)) gX4_become_X4_copy rfl rfl rfl (by decide +kernel) (Nat.le_of_ble_eq_true rfl) (Nat.le_of_ble_eq_true rfl) ⟨(Nat.zero_le _), (Nat.zero_le _)⟩ (ok_of hG (kds0 hu) (by decide) (by omega)) (kds0 hu) (by decide) rfl rfl rfl (Nat.le_of_ble_eq_true rfl) (st' := []) rfl dX4_become_77 (fun hr => ?_)
  refine r_aload_n C (k := 0) dX4_become_80 rfl ?_
  refine r_aload_n C (k := 1) dX4_become_81 rfl ?_
  refine r_getf C 7 (v := .ref (adr G (u2, 0, 5))) (ok_of hG (kds0 hu2) (by decide) (by omega)) (kds0 hu2) (by decide) rfl hinX4 (by decide) (by decide +kernel) rfl rfl dX4_become_82 ?_
  refine r_aload_n C (k := 0) dX4_become_85 rfl ?_
  refine r_getf C 7 (v := .ref (adr G (u, 0, 5))) (ok_of hG (kds0 hu) (by decide) (by omega)) (kds0 hu) (by decide) rfl hinX4 (by decide) (by decide +kernel) rfl rfl dX4_become_86 ?_
  refine r_bipush C dX4_become_89 (by decide) ?_
  refine r_callV C (w' := (cpy (cpy (cpy (cpy (cpy (st1 (st1 (st1 w (u, 0, 0) (0) (w (u2, 0, 0) (0))) (u, 0, 0) (1) (w (u2, 0, 0) (1))) (u, 0, 0) (2) (w (u2, 0, 0) (2))) (u2, 0, 1) (u, 0, 1) (0) (0) (8)) (u2, 0, 2) (u, 0, 2) (0) (0) (8)) (u2, 0, 3) (u, 0, 3) (0) (0) (8)) (u2, 0, 4) (u, 0, 4) (0) (0) (8)) (u2, 0, 5) (u, 0, 5) (0) (0) (40))) [.ref (adr G (u2, 0, 5)), .ref (adr G (u, 0, 5)), vI (40)] 3 (c_X4_copy hG (by omega) (k0 := (u2, 0, 5)) (k1 := (u, 0, 5)) (m := 40) (ok_of hG (kds5 hu2) (by decide) (by omega)) (ok_of hG (kds5 hu) (by decide) (by omega)) (kds5 hu2) (kds5 hu) (by omega) (by omega) (by decide) (by decide)) gX4_become_X4_copy rfl rfl rfl (by decide +kernel) (Nat.le_of_ble_eq_true rfl) (Nat.le_of_ble_eq_true rfl) ⟨(Nat.zero_le _), (Nat.zero_le _)⟩ (ok_of hG (kds0 hu) (by decide) (by omega)) (kds0 hu) (by decide) rfl rfl rfl (Nat.le_of_ble_eq_true rfl) (st' := []) rfl dX4_become_91 (fun hr => ?_)
  refine r_aload_n C (k := 0) dX4_become_94 rfl ?_
  refine r_aload_n C (k := 1) dX4_become_95 rfl ?_
  refine r_getf C 8 (v := .ref (adr G (u2, 0, 6))) (ok_of hG (kds0 hu2) (by decide) (by omega)) (kds0 hu2) (by decide) rfl hinX4 (by decide) (by decide +kernel) rfl rfl dX4_become_96 ?_
  refine r_aload_n C (k := 0) dX4_become_99 rfl ?_
  refine r_getf C 8 (v := .ref (adr G (u, 0, 6))) (ok_of hG (kds0 hu) (by decide) (by omega)) (kds0 hu) (by decide) rfl hinX4 (by decide) (by decide +kernel) rfl rfl dX4_become_100 ?_
  refine r_bipush C dX4_become_103 (by decide) ?_
  refine r_callV C (w' := (cpy (cpy (cpy (cpy (cpy (cpy (st1 (st1 (st1 w (u, 0, 0) (0) (w (u2, 0, 0) (0))) (u, 0, 0) (1) (w (u2, 0, 0) (1))) (u, 0, 0) (2) (w (u2, 0, 0) (2))) (u2, 0, 1) (u, 0, 1) (0) (0) (8)) (u2, 0, 2) (u, 0, 2) (0) (0) (8)) (u2, 0, 3) (u, 0, 3) (0) (0) (8)) (u2, 0, 4) (u, 0, 4) (0) (0) (8)) (u2, 0, 5) (u, 0, 5) (0) (0) (40)) (u2, 0, 6) (u, 0, 6) (0) (0) (96))) [.ref (adr G (u2, 0, 6)), .ref (adr G (u, 0, 6)), vI (96)] 3 (c_X4_copy hG (by omega) (k0 := (u2, 0, 6)) (k1 := (u, 0, 6)) (m := 96) (ok_of hG (kds6 hu2) (by decide) (by omega)) (ok_of hG (kds6 hu) (by decide) (by omega)) (kds6 hu2) (kds6 hu) (by omega) (by omega) (by decide) (by decide)) gX4_become_X4_copy rfl rfl rfl (by decide +kernel) (Nat.le_of_ble_eq_true rfl) (Nat.le_of_ble_eq_true rfl) ⟨(Nat.zero_le _), (Nat.zero_le _)⟩ (ok_of hG (kds0 hu) (by decide) (by omega)) (kds0 hu) (by decide) rfl rfl rfl (Nat.le_of_ble_eq_true rfl) (st' := []) rfl dX4_become_105 (fun hr => ?_)
  refine r_aload_n C (k := 0) dX4_become_108 rfl ?_
  refine r_aload_n C (k := 1) dX4_become_109 rfl ?_
  refine r_getf C 9 (v := .ref (adr G (u2, 0, 7))) (ok_of hG (kds0 hu2) (by decide) (by omega)) (kds0 hu2) (by decide) rfl hinX4 (by decide) (by decide +kernel) rfl rfl dX4_become_110 ?_
  refine r_aload_n C (k := 0) dX4_become_113 rfl ?_
  refine r_getf C 9 (v := .ref (adr G (u, 0, 7))) (ok_of hG (kds0 hu) (by decide) (by omega)) (kds0 hu) (by decide) rfl hinX4 (by decide) (by decide +kernel) rfl rfl dX4_become_114 ?_
  refine r_bipush C dX4_become_117 (by decide) ?_
  refine r_callV C (w' := (cpy (cpy (cpy (cpy (cpy (cpy (cpy (st1 (st1 (st1 w (u, 0, 0) (0) (w (u2, 0, 0) (0))) (u, 0, 0) (1) (w (u2, 0, 0) (1))) (u, 0, 0) (2) (w (u2, 0, 0) (2))) (u2, 0, 1) (u, 0, 1) (0) (0) (8)) (u2, 0, 2) (u, 0, 2) (0) (0) (8)) (u2, 0, 3) (u, 0, 3) (0) (0) (8)) (u2, 0, 4) (u, 0, 4) (0) (0) (8)) (u2, 0, 5) (u, 0, 5) (0) (0) (40)) (u2, 0, 6) (u, 0, 6) (0) (0) (96)) (u2, 0, 7) (u, 0, 7) (0) (0) (8))) [.ref (adr G (u2, 0, 7)), .ref (adr G (u, 0, 7)), vI (8)] 3 (c_X4_copy hG (by omega) (k0 := (u2, 0, 7)) (k1 := (u, 0, 7)) (m := 8) (ok_of hG (kds7 hu2) (by decide) (by omega)) (ok_of hG (kds7 hu) (by decide) (by omega)) (kds7 hu2) (kds7 hu) (by omega) (by omega) (by decide) (by decide)) gX4_become_X4_copy rfl rfl rfl (by decide +kernel) (Nat.le_of_ble_eq_true rfl) (Nat.le_of_ble_eq_true rfl) ⟨(Nat.zero_le _), (Nat.zero_le _)⟩ (ok_of hG (kds0 hu) (by decide) (by omega)) (kds0 hu) (by decide) rfl rfl rfl (Nat.le_of_ble_eq_true rfl) (st' := []) rfl dX4_become_119 (fun hr => ?_)
  refine r_aload_n C (k := 0) dX4_become_122 rfl ?_
  refine r_aload_n C (k := 1) dX4_become_123 rfl ?_
  refine r_getf C 10 (v := .ref (adr G (u2, 0, 8))) (ok_of hG (kds0 hu2) (by decide) (by omega)) (kds0 hu2) (by decide) rfl hinX4 (by decide) (by decide +kernel) rfl rfl dX4_become_124 ?_
  refine r_aload_n C (k := 0) dX4_become_127 rfl ?_
  refine r_getf C 10 (v := .ref (adr G (u, 0, 8))) (ok_of hG (kds0 hu) (by decide) (by omega)) (kds0 hu) (by decide) rfl hinX4 (by decide) (by decide +kernel) rfl rfl dX4_become_128 ?_
  refine r_aload_n C (k := 0) dX4_become_131 rfl ?_
  refine r_getf C 2 (ok_of hG (kds0 hu) (by decide) (by omega)) (kds0 hu) (by decide) rfl hinX4 (by decide) (by decide +kernel) rfl rfl dX4_become_132 ?_
  refine Wm.top (z' := w (u2, 0, 0) (2)) (by simp [st1, cpy, hne, hne2]) ?_
  refine Wm.top (z' := (((w (u2, 0, 0) 2).toNat : Nat) : Int)) (by omega) ?_
  refine r_callV C (w' := (cpy (cpy (cpy (cpy (cpy (cpy (cpy (cpy (st1 (st1 (st1 w (u, 0, 0) (0) (w (u2, 0, 0) (0))) (u, 0, 0) (1) (w (u2, 0, 0) (1))) (u, 0, 0) (2) (w (u2, 0, 0) (2))) (u2, 0, 1) (u, 0, 1) (0) (0) (8)) (u2, 0, 2) (u, 0, 2) (0) (0) (8)) (u2, 0, 3) (u, 0, 3) (0) (0) (8)) (u2, 0, 4) (u, 0, 4) (0) (0) (8)) (u2, 0, 5) (u, 0, 5) (0) (0) (40)) (u2, 0, 6) (u, 0, 6) (0) (0) (96)) (u2, 0, 7) (u, 0, 7) (0) (0) (8)) (u2, 0, 8) (u, 0, 8) (0) (0) ((w (u2, 0, 0) 2).toNat))) [.ref (adr G (u2, 0, 8)), .ref (adr G (u, 0, 8)), vI ((((w (u2, 0, 0) 2).toNat : Nat) : Int))] 3 (c_X4_copy hG (by omega) (k0 := (u2, 0, 8)) (k1 := (u, 0, 8)) (m := (w (u2, 0, 0) 2).toNat) (ok_of hG (kds8 hu2) (by decide) (by omega)) (ok_of hG (kds8 hu) (by decide) (by omega)) (kds8 hu2) (kds8 hu) (by omega) (by omega) (by decide) (by decide)) gX4_become_X4_copy rfl rfl rfl (by decide +kernel) (Nat.le_of_ble_eq_true rfl) (Nat.le_of_ble_eq_true rfl) ⟨(Nat.zero_le _), (Nat.zero_le _)⟩ (ok_of hG (kds0 hu) (by decide) (by omega)) (kds0 hu) (by decide) rfl rfl rfl (Nat.le_of_ble_eq_true rfl) (st' := []) rfl dX4_become_135 (fun hr => ?_)
  refine r_aload_n C (k := 0) dX4_become_138 rfl ?_
  refine r_aload_n C (k := 1) dX4_become_139 rfl ?_
  refine r_getf C 11 (v := .ref (adr G (u2, 0, 9))) (ok_of hG (kds0 hu2) (by decide) (by omega)) (kds0 hu2) (by decide) rfl hinX4 (by decide) (by decide +kernel) rfl rfl dX4_become_140 ?_
  refine r_aload_n C (k := 0) dX4_become_143 rfl ?_
  refine r_getf C 11 (v := .ref (adr G (u, 0, 9))) (ok_of hG (kds0 hu) (by decide) (by omega)) (kds0 hu) (by decide) rfl hinX4 (by decide) (by decide +kernel) rfl rfl dX4_become_144 ?_
  refine r_aload_n C (k := 0) dX4_become_147 rfl ?_
  refine r_getf C 2 (ok_of hG (kds0 hu) (by decide) (by omega)) (kds0 hu) (by decide) rfl hinX4 (by decide) (by decide +kernel) rfl rfl dX4_become_148 ?_
  refine Wm.top (z' := w (u2, 0, 0) (2)) (by simp [st1, cpy, hne, hne2]) ?_
  refine Wm.top (z' := (((w (u2, 0, 0) 2).toNat : Nat) : Int)) (by omega) ?_
  refine r_callV C (w' := (cpy (cpy (cpy (cpy (cpy (cpy (cpy (cpy (cpy (st1 (st1 (st1 w (u, 0, 0) (0) (w (u2, 0, 0) (0))) (u, 0, 0) (1) (w (u2, 0, 0) (1))) (u, 0, 0) (2) (w (u2, 0, 0) (2))) (u2, 0, 1) (u, 0, 1) (0) (0) (8)) (u2, 0, 2) (u, 0, 2) (0) (0) (8)) (u2, 0, 3) (u, 0, 3) (0) (0) (8)) (u2, 0, 4) (u, 0, 4) (0) (0) (8)) (u2, 0, 5) (u, 0, 5) (0) (0) (40)) (u2, 0, 6) (u, 0, 6) (0) (0) (96)) (u2, 0, 7) (u, 0, 7) (0) (0) (8)) (u2, 0, 8) (u, 0, 8) (0) (0) ((w (u2, 0, 0) 2).toNat)) (u2, 0, 9) (u, 0, 9) (0) (0) ((w (u2, 0, 0) 2).toNat))) [.ref (adr G (u2, 0, 9)), .ref (adr G (u, 0, 9)), vI ((((w (u2, 0, 0) 2).toNat : Nat) : Int))] 3 (c_X4_copy hG (by omega) (k0 := (u2, 0, 9)) (k1 := (u, 0, 9)) (m := (w (u2, 0, 0) 2).toNat) (ok_of hG (kds9 hu2) (by decide) (by omega)) (ok_of hG (kds9 hu) (by decide) (by omega)) (kds9 hu2) (kds9 hu) (by omega) (by omega) (by decide) (by decide)) gX4_become_X4_copy rfl rfl rfl (by decide +kernel) (Nat.le_of_ble_eq_true rfl) (Nat.le_of_ble_eq_true rfl) ⟨(Nat.zero_le _), (Nat.zero_le _)⟩ (ok_of hG (kds0 hu) (by decide) (by omega)) (kds0 hu) (by decide) rfl rfl rfl (Nat.le_of_ble_eq_true rfl) (st' := []) rfl dX4_become_151 (fun hr => ?_)
  refine r_aload_n C (k := 0) dX4_become_154 rfl ?_
  refine r_aload_n C (k := 1) dX4_become_155 rfl ?_
  refine r_getf C 12 (v := .ref (adr G (u2, 0, 10))) (ok_of hG (kds0 hu2) (by decide) (by omega)) (kds0 hu2) (by decide) rfl hinX4 (by decide) (by decide +kernel) rfl rfl dX4_become_156 ?_
  refine r_aload_n C (k := 0) dX4_become_159 rfl ?_
  refine r_getf C 12 (v := .ref (adr G (u, 0, 10))) (ok_of hG (kds0 hu) (by decide) (by omega)) (kds0 hu) (by decide) rfl hinX4 (by decide) (by decide +kernel) rfl rfl dX4_become_160 ?_
  refine r_aload_n C (k := 0) dX4_become_163 rfl ?_
  refine r_getf C 2 (ok_of hG (kds0 hu) (by decide) (by omega)) (kds0 hu) (by decide) rfl hinX4 (by decide) (by decide +kernel) rfl rfl dX4_become_164 ?_
  refine Wm.top (z' := w (u2, 0, 0) (2)) (by simp [st1, cpy, hne, hne2]) ?_
  refine Wm.top (z' := (((w (u2, 0, 0) 2).toNat : Nat) : Int)) (by omega) ?_
  refine r_callV C (w' := (cpy (cpy (cpy (cpy (cpy (cpy (cpy (cpy (cpy (cpy (st1 (st1 (st1 w (u, 0, 0) (0) (w (u2, 0, 0) (0))) (u, 0, 0) (1) (w (u2, 0, 0) (1))) (u, 0, 0) (2) (w (u2, 0, 0) (2))) (u2, 0, 1) (u, 0, 1) (0) (0) (8)) (u2, 0, 2) (u, 0, 2) (0) (0) (8)) (u2, 0, 3) (u, 0, 3) (0) (0) (8)) (u2, 0, 4) (u, 0, 4) (0) (0) (8)) (u2, 0, 5) (u, 0, 5) (0) (0) (40)) (u2, 0, 6) (u, 0, 6) (0) (0) (96)) (u2, 0, 7) (u, 0, 7) (0) (0) (8)) (u2, 0, 8) (u, 0, 8) (0) (0) ((w (u2, 0, 0) 2).toNat)) (u2, 0, 9) (u, 0, 9) (0) (0) ((w (u2, 0, 0) 2).toNat)) (u2, 0, 10) (u, 0, 10) (0) (0) ((w (u2, 0, 0) 2).toNat))) [.ref (adr G (u2, 0, 10)), .ref (adr G (u, 0, 10)), vI ((((w (u2, 0, 0) 2).toNat : Nat) : Int))] 3 (c_X4_copy hG (by omega) (k0 := (u2, 0, 10)) (k1 := (u, 0, 10)) (m := (w (u2, 0, 0) 2).toNat) (ok_of hG (kds10 hu2) (by decide) (by omega)) (ok_of hG (kds10 hu) (by decide) (by omega)) (kds10 hu2) (kds10 hu) (by omega) (by omega) (by decide) (by decide)) gX4_become_X4_copy rfl rfl rfl (by decide +kernel) (Nat.le_of_ble_eq_true rfl) (Nat.le_of_ble_eq_true rfl) ⟨(Nat.zero_le _), (Nat.zero_le _)⟩ (ok_of hG (kds0 hu) (by decide) (by omega)) (kds0 hu) (by decide) rfl rfl rfl (Nat.le_of_ble_eq_true rfl) (st' := []) rfl dX4_become_167 (fun hr => ?_)
  refine r_aload_n C (k := 0) dX4_become_170 rfl ?_
  refine r_aload_n C (k := 1) dX4_become_171 rfl ?_
  refine r_getf C 13 (v := .ref (adr G (u2, 0, 11))) (ok_of hG (kds0 hu2) (by decide) (by omega)) (kds0 hu2) (by decide) rfl hinX4 (by decide) (by decide +kernel) rfl rfl dX4_become_172 ?_
  refine r_aload_n C (k := 0) dX4_become_175 rfl ?_
  refine r_getf C 13 (v := .ref (adr G (u, 0, 11))) (ok_of hG (kds0 hu) (by decide) (by omega)) (kds0 hu) (by decide) rfl hinX4 (by decide) (by decide +kernel) rfl rfl dX4_become_176 ?_
  refine r_aload_n C (k := 0) dX4_become_179 rfl ?_
  refine r_getf C 2 (ok_of hG (kds0 hu) (by decide) (by omega)) (kds0 hu) (by decide) rfl hinX4 (by decide) (by decide +kernel) rfl rfl dX4_become_180 ?_
  refine Wm.top (z' := w (u2, 0, 0) (2)) (by simp [st1, cpy, hne, hne2]) ?_
  refine Wm.top (z' := (((w (u2, 0, 0) 2).toNat : Nat) : Int)) (by omega) ?_
  refine r_callV C (w' := (cpy (cpy (cpy (cpy (cpy (cpy (cpy (cpy (cpy (cpy (cpy (st1 (st1 (st1 w (u, 0, 0) (0) (w (u2, 0, 0) (0))) (u, 0, 0) (1) (w (u2, 0, 0) (1))) (u, 0, 0) (2) (w (u2, 0, 0) (2))) (u2, 0, 1) (u, 0, 1) (0) (0) (8)) (u2, 0, 2) (u, 0, 2) (0) (0) (8)) (u2, 0, 3) (u, 0, 3) (0) (0) (8)) (u2, 0, 4) (u, 0, 4) (0) (0) (8)) (u2, 0, 5) (u, 0, 5) (0) (0) (40)) (u2, 0, 6) (u, 0, 6) (0) (0) (96)) (u2, 0, 7) (u, 0, 7) (0) (0) (8)) (u2, 0, 8) (u, 0, 8) (0) (0) ((w (u2, 0, 0) 2).toNat)) (u2, 0, 9) (u, 0, 9) (0) (0) ((w (u2, 0, 0) 2).toNat)) (u2, 0, 10) (u, 0, 10) (0) (0) ((w (u2, 0, 0) 2).toNat)) (u2, 0, 11) (u, 0, 11) (0) (0) ((w (u2, 0, 0) 2).toNat))) [.ref (adr G (u2, 0, 11)), .ref (adr G (u, 0, 11)), vI ((((w (u2, 0, 0) 2).toNat : Nat) : Int))] 3 (c_X4_copy hG (by omega) (k0 := (u2, 0, 11)) (k1 := (u, 0, 11)) (m := (w (u2, 0, 0) 2).toNat) (ok_of hG (kds11 hu2) (by decide) (by omega)) (ok_of hG (kds11 hu) (by decide) (by omega)) (kds11 hu2) (kds11 hu) (by omega) (by omega) (by decide) (by decide)) gX4_become_X4_copy rfl rfl rfl (by decide +kernel) (Nat.le_of_ble_eq_true rfl) (Nat.le_of_ble_eq_true rfl) ⟨(Nat.zero_le _), (Nat.zero_le _)⟩ (ok_of hG (kds0 hu) (by decide) (by omega)) (kds0 hu) (by decide) rfl rfl rfl (Nat.le_of_ble_eq_true rfl) (st' := []) rfl dX4_become_183 (fun hr => ?_)
  refine r_aload_n C (k := 0) dX4_become_186 rfl ?_
  refine r_aload_n C (k := 1) dX4_become_187 rfl ?_
  refine r_getf C 14 (v := .ref (adr G (u2, 0, 12))) (ok_of hG (kds0 hu2) (by decide) (by omega)) (kds0 hu2) (by decide) rfl hinX4 (by decide) (by decide +kernel) rfl rfl dX4_become_188 ?_
  refine r_aload_n C (k := 0) dX4_become_191 rfl ?_
  refine r_getf C 14 (v := .ref (adr G (u, 0, 12))) (ok_of hG (kds0 hu) (by decide) (by omega)) (kds0 hu) (by decide) rfl hinX4 (by decide) (by decide +kernel) rfl rfl dX4_become_192 ?_
  refine r_aload_n C (k := 0) dX4_become_195 rfl ?_
  refine r_getf C 2 (ok_of hG (kds0 hu) (by decide) (by omega)) (kds0 hu) (by decide) rfl hinX4 (by decide) (by decide +kernel) rfl rfl dX4_become_196 ?_
  refine Wm.top (z' := w (u2, 0, 0) (2)) (by simp [st1, cpy, hne, hne2]) ?_
  refine Wm.top (z' := (((w (u2, 0, 0) 2).toNat : Nat) : Int)) (by omega) ?_
  refine r_callV C (w' := (cpy (cpy (cpy (cpy (cpy (cpy (cpy (cpy (cpy (cpy (cpy (cpy (st1 (st1 (st1 w (u, 0, 0) (0) (w (u2, 0, 0) (0))) (u, 0, 0) (1) (w (u2, 0, 0) (1))) (u, 0, 0) (2) (w (u2, 0, 0) (2))) (u2, 0, 1) (u, 0, 1) (0) (0) (8)) (u2, 0, 2) (u, 0, 2) (0) (0) (8)) (u2, 0, 3) (u, 0, 3) (0) (0) (8)) (u2, 0, 4) (u, 0, 4) (0) (0) (8)) (u2, 0, 5) (u, 0, 5) (0) (0) (40)) (u2, 0, 6) (u, 0, 6) (0) (0) (96)) (u2, 0, 7) (u, 0, 7) (0) (0) (8)) (u2, 0, 8) (u, 0, 8) (0) (0) ((w (u2, 0, 0) 2).toNat)) (u2, 0, 9) (u, 0, 9) (0) (0) ((w (u2, 0, 0) 2).toNat)) (u2, 0, 10) (u, 0, 10) (0) (0) ((w (u2, 0, 0) 2).toNat)) (u2, 0, 11) (u, 0, 11) (0) (0) ((w (u2, 0, 0) 2).toNat)) (u2, 0, 12) (u, 0, 12) (0) (0) ((w (u2, 0, 0) 2).toNat))) [.ref (adr G (u2, 0, 12)), .ref (adr G (u, 0, 12)), vI ((((w (u2, 0, 0) 2).toNat : Nat) : Int))] 3 (c_X4_copy hG (by omega) (k0 := (u2, 0, 12)) (k1 := (u, 0, 12)) (m := (w (u2, 0, 0) 2).toNat) (ok_of hG (kds12 hu2) (by decide) (by omega)) (ok_of hG (kds12 hu) (by decide) (by omega)) (kds12 hu2) (kds12 hu) (by omega) (by omega) (by decide) (by decide)) gX4_become_X4_copy rfl rfl rfl (by decide +kernel) (Nat.le_of_ble_eq_true rfl) (Nat.le_of_ble_eq_true rfl) ⟨(Nat.zero_le _), (Nat.zero_le _)⟩ (ok_of hG (kds0 hu) (by decide) (by omega)) (kds0 hu) (by decide) rfl rfl rfl (Nat.le_of_ble_eq_true rfl) (st' := []) rfl dX4_become_199 (fun hr => ?_)
  exact r_vret C dX4_become_202 (by first | rfl | (simp [*]; done))
