/-! the reference: calls that ask or set -/
abbrev isV (w : Mm) (v : Int) : Prop := 0 ≤ v ∧ v ≤ w (3, 0, 0) 1 - 1
abbrev isP (w : Mm) (p : Int) : Prop := 0 ≤ p ∧ p ≤ w (3, 0, 0) 2 - 1
def th0 (w : Mm) : Mm := st1 w (3, 0, 0) 0 0
def thn (w : Mm) (x : Int) : Mm := st1 (st1 w (3, 0, 0) 0 0) (3, 0, 0) 0 x
def rvt (w : Mm) (v : Nat) (kn : Int) : Nat → Int
  | 0 => w (3, 0, 1) v
  | 1 => w (3, 0, 2) v
  | 2 => w (4, 0, 1) v
  | 3 => w (3, 0, 3) v
  | 4 => bI (rawk w 4 v)
  | 5 => w (4, 0, 2) v
  | 6 => w (4, 0, 3) v
  | 7 => w (4, 0, 4) v
  | 8 => kn
  | _ => w (4, 0, 7) v
def rvk (w : Mm) (v : Int) : Nat → Int := sumI (fun p => bI (¬ w (4, 0, 6) (12 * v + (p : Int)).toNat = -1))
def rvtold (w : Mm) (v : Int) (a : Nat) : Int := rvt w v.toNat (rvk w v (w (3, 0, 0) 2).toNat) a
def rcd (w : Mm) : Nat → Int := sumI (fun v => bI (¬ w (4, 0, 2) v = -1))
def rcw (w : Mm) : Nat → Int := sumI (fun v => w (4, 0, 7) v)
def rcnt (w : Mm) : Nat → Int
  | 0 => w (4, 0, 0) 0
  | 1 => w (3, 0, 0) 1
  | 2 => w (3, 0, 0) 2
  | 3 => rcd w (w (3, 0, 0) 1).toNat
  | 4 => w (4, 0, 0) 2
  | 5 => w (4, 0, 0) 1
  | 6 => rcw w (w (3, 0, 0) 1).toNat
  | _ => rprs w 4

set_option maxRecDepth 100000 in
set_option maxHeartbeats 8000000 in
theorem c_X5_thrown {l : Launch} {G : Gt} (hG : Gok G)  {w : Mm} : Con l G yX5_thrown wsX5_thrown ({ frames := 0, cells := 0, slots := 0, locals := 0 } : Room) w [.ref (adr G (3, 0, 0))] (some (vI (w (3, 0, 0) 0))) w 0 0 := by
  refine Con.head (cc := cX5_thrown) (nL := 1) (ret := (some .int)) hG (by decide +kernel) rfl (Nat.le_of_ble_eq_true rfl) ?_
  intro B A hBl C hr
  have hr0 := hr
  have hrI := hr
  have hinX5 : ∀ w ∈ u_ws RX5 TX5 12, w ∈ wsX5_thrown := by decide +kernel
  refine r_aload_n C (k := 0) dX5_thrown_0 rfl ?_
  refine r_getf C 0 (ok_of hG (show kd (3, 0, 0) = _ from rfl) (by decide) (by decide)) (show kd (3, 0, 0) = _ from rfl) (by decide) rfl hinX5 (by decide) (by decide +kernel) rfl rfl dX5_thrown_1 ?_
  exact r_iret C dX5_thrown_4 (by first | rfl | (simp [*]; done)) (by first | rfl | (simp [*]; done))

set_option maxRecDepth 100000 in
set_option maxHeartbeats 8000000 in
theorem c_X5_no {l : Launch} {G : Gt} (hG : Gok G)  {w : Mm} {n : Int} (hn : inR n) : Con l G yX5_no wsX5_no ({ frames := 0, cells := 0, slots := 0, locals := 0 } : Room) w [.ref (adr G (3, 0, 0)), vI n] (some (vI (0))) (st1 w (3, 0, 0) 0 n) 0 0 := by
  refine Con.head (cc := cX5_no) (nL := 2) (ret := (some .int)) hG (by decide +kernel) rfl (Nat.le_of_ble_eq_true rfl) ?_
  intro B A hBl C hr
  have hr0 := hr
  have hrI := hr
  have hinX5 : ∀ w ∈ u_ws RX5 TX5 12, w ∈ wsX5_no := by decide +kernel
  refine r_aload_n C (k := 0) dX5_no_0 rfl ?_
  refine r_iload_n C (k := 1) dX5_no_1 rfl ?_
  refine r_putf C 0 hr (by first | exact hr _ _ | exact hr0 _ _ | exact hrI _ _ | assumption | exact ⟨by omega, by omega⟩) (ok_of hG (show kd (3, 0, 0) = _ from rfl) (by decide) (by decide)) (show kd (3, 0, 0) = _ from rfl) (by decide) rfl hinX5 tyX5_ok nmX5 (by decide) (by decide +kernel) rfl rfl (ty := .int) (by decide +kernel) rfl rfl rfl (Nat.le_of_ble_eq_true rfl) dX5_no_2 (fun hr => ?_)
  refine r_iconst C dX5_no_5 ?_
  exact r_iret C dX5_no_6 (by first | rfl | (simp [*]; done)) (by first | rfl | (simp [*]; done))

set_option maxRecDepth 100000 in
set_option maxHeartbeats 8000000 in
theorem c_X5_isIn {l : Launch} {G : Gt} (hG : Gok G)  {w : Mm} {a : Int} {b : Int} {c : Int} (ha : inR a) (hb : inR b) (hc : inR c) : Con l G yX5_isIn wsX5_isIn ({ frames := 0, cells := 0, slots := 0, locals := 0 } : Room) w [vI a, vI b, vI c] (some (vI (bI (b ≤ a ∧ a ≤ c)))) w 0 0 := by
  refine Con.head (cc := cX5_isIn) (nL := 3) (ret := (some .boolean)) hG (by decide +kernel) rfl (Nat.le_of_ble_eq_true rfl) ?_
  intro B A hBl C hr
  have hr0 := hr
  have hrI := hr
  refine r_iload_n C (k := 0) dX5_isIn_0 rfl ?_
  refine r_iload_n C (k := 1) dX5_isIn_1 rfl ?_
  refine r_icmp_lt C (tgt := 14) dX5_isIn_2 (by decide) (by first | exact hr _ _ | exact hr0 _ _ | exact hrI _ _ | assumption | exact ⟨by omega, by omega⟩) (by first | exact hr _ _ | exact hr0 _ _ | exact hrI _ _ | assumption | exact ⟨by omega, by omega⟩) (fun h_1 => ?_) (fun h_1 => ?_)
  · skip
    refine r_iconst C dX5_isIn_14 ?_
    exact r_zret C dX5_isIn_15 (by first | exact Or.inr rfl | exact Or.inl rfl | exact bI_01 _) (by exact congrArg (fun z => some (vI z)) (bI_f (by first | omega | (simp_all; done) | (simp_all; omega))).symm) (by first | rfl | (simp [*]; done))
  · skip
    refine r_iload_n C (k := 0) dX5_isIn_5 rfl ?_
    refine r_iload_n C (k := 2) dX5_isIn_6 rfl ?_
    refine r_icmp_gt C (tgt := 14) dX5_isIn_7 (by decide) (by first | exact hr _ _ | exact hr0 _ _ | exact hrI _ _ | assumption | exact ⟨by omega, by omega⟩) (by first | exact hr _ _ | exact hr0 _ _ | exact hrI _ _ | assumption | exact ⟨by omega, by omega⟩) (fun h_2 => ?_) (fun h_2 => ?_)
    · skip
      refine r_iconst C dX5_isIn_14 ?_
      exact r_zret C dX5_isIn_15 (by first | exact Or.inr rfl | exact Or.inl rfl | exact bI_01 _) (by exact congrArg (fun z => some (vI z)) (bI_f (by first | omega | (simp_all; done) | (simp_all; omega))).symm) (by first | rfl | (simp [*]; done))
    · skip
      refine r_iconst C dX5_isIn_10 ?_
      refine r_goto C (tgt := 15) dX5_isIn_11 (by decide) ?_
      exact r_zret C dX5_isIn_15 (by first | exact Or.inr rfl | exact Or.inl rfl | exact bI_01 _) (by exact congrArg (fun z => some (vI z)) (bI_t (by first | omega | (simp_all; done) | (simp_all; omega))).symm) (by first | rfl | (simp [*]; done))

set_option maxRecDepth 100000 in
set_option maxHeartbeats 8000000 in
theorem c_X5_isVillage {l : Launch} {G : Gt} (hG : Gok G)  {w : Mm} {v : Int} (hv : inR v) (hvb : 0 ≤ w (3, 0, 0) 1 ∧ w (3, 0, 0) 1 ≤ 8) : Con l G yX5_isVillage wsX5_isVillage ({ frames := 1, cells := 0, slots := 0, locals := 22 } : Room) w [.ref (adr G (3, 0, 0)), vI v] (some (vI (bI (0 ≤ v ∧ v ≤ w (3, 0, 0) 1 - 1)))) w 0 0 := by
  refine Con.head (cc := cX5_isVillage) (nL := 2) (ret := (some .boolean)) hG (by decide +kernel) rfl (Nat.le_of_ble_eq_true rfl) ?_
  intro B A hBl C hr
  have hr0 := hr
  have hrI := hr
  have hinX5 : ∀ w ∈ u_ws RX5 TX5 12, w ∈ wsX5_isVillage := by decide +kernel
  obtain ⟨y1, y2⟩ := hvb
  refine r_iload_n C (k := 1) dX5_isVillage_0 rfl ?_
  refine r_iconst C dX5_isVillage_1 ?_
  refine r_aload_n C (k := 0) dX5_isVillage_2 rfl ?_
  refine r_getf C 1 (ok_of hG (show kd (3, 0, 0) = _ from rfl) (by decide) (by decide)) (show kd (3, 0, 0) = _ from rfl) (by decide) rfl hinX5 (by decide) (by decide +kernel) rfl rfl dX5_isVillage_3 ?_
  refine r_iconst C dX5_isVillage_6 ?_
  refine r_isub C dX5_isVillage_7 ?_
  refine r_callS C (w' := w) [vI (v), vI (0), vI ((w (3, 0, 0) (1) - 1))] 3 (c_X5_isIn hG (by first | assumption | omega | exact hr _ _ | exact hr0 _ _ | exact hrI _ _ | exact ⟨by omega, by omega⟩ | exact bI_inR _ | (simp [st1] <;> omega) | exact rowR.so (by assumption) (by simp)) (by first | assumption | omega | exact hr _ _ | exact hr0 _ _ | exact hrI _ _ | exact ⟨by omega, by omega⟩ | exact bI_inR _ | (simp [st1] <;> omega) | exact rowR.so (by assumption) (by simp)) (by first | assumption | omega | exact hr _ _ | exact hr0 _ _ | exact hrI _ _ | exact ⟨by omega, by omega⟩ | exact bI_inR _ | (simp [st1] <;> omega) | exact rowR.so (by assumption) (by simp))) gX5_isVillage_X5_isIn rfl rfl rfl (by decide +kernel) (Nat.le_of_ble_eq_true rfl) (Nat.le_of_ble_eq_true rfl) ⟨(Nat.zero_le _), (Nat.zero_le _)⟩ rfl rfl (Nat.le_of_ble_eq_true rfl) (st' := [vI (bI ((0) ≤ (v) ∧ (v) ≤ ((w (3, 0, 0) (1) - 1))))]) rfl dX5_isVillage_8 (fun hr => ?_)
  exact r_zret C dX5_isVillage_11 (by first | exact Or.inr rfl | exact Or.inl rfl | exact bI_01 _) (by rfl) (by first | rfl | (simp [*]; done))

set_option maxRecDepth 100000 in
set_option maxHeartbeats 8000000 in
theorem c_X5_isPhrase {l : Launch} {G : Gt} (hG : Gok G)  {w : Mm} {v : Int} (hv : inR v) (hpb : 0 ≤ w (3, 0, 0) 2 ∧ w (3, 0, 0) 2 ≤ 12) : Con l G yX5_isPhrase wsX5_isPhrase ({ frames := 1, cells := 0, slots := 0, locals := 22 } : Room) w [.ref (adr G (3, 0, 0)), vI v] (some (vI (bI (0 ≤ v ∧ v ≤ w (3, 0, 0) 2 - 1)))) w 0 0 := by
  refine Con.head (cc := cX5_isPhrase) (nL := 2) (ret := (some .boolean)) hG (by decide +kernel) rfl (Nat.le_of_ble_eq_true rfl) ?_
  intro B A hBl C hr
  have hr0 := hr
  have hrI := hr
  have hinX5 : ∀ w ∈ u_ws RX5 TX5 12, w ∈ wsX5_isPhrase := by decide +kernel
  obtain ⟨y1, y2⟩ := hpb
  refine r_iload_n C (k := 1) dX5_isPhrase_0 rfl ?_
  refine r_iconst C dX5_isPhrase_1 ?_
  refine r_aload_n C (k := 0) dX5_isPhrase_2 rfl ?_
  refine r_getf C 2 (ok_of hG (show kd (3, 0, 0) = _ from rfl) (by decide) (by decide)) (show kd (3, 0, 0) = _ from rfl) (by decide) rfl hinX5 (by decide) (by decide +kernel) rfl rfl dX5_isPhrase_3 ?_
  refine r_iconst C dX5_isPhrase_6 ?_
  refine r_isub C dX5_isPhrase_7 ?_
  refine r_callS C (w' := w) [vI (v), vI (0), vI ((w (3, 0, 0) (2) - 1))] 3 (c_X5_isIn hG (by first | assumption | omega | exact hr _ _ | exact hr0 _ _ | exact hrI _ _ | exact ⟨by omega, by omega⟩ | exact bI_inR _ | (simp [st1] <;> omega) | exact rowR.so (by assumption) (by simp)) (by first | assumption | omega | exact hr _ _ | exact hr0 _ _ | exact hrI _ _ | exact ⟨by omega, by omega⟩ | exact bI_inR _ | (simp [st1] <;> omega) | exact rowR.so (by assumption) (by simp)) (by first | assumption | omega | exact hr _ _ | exact hr0 _ _ | exact hrI _ _ | exact ⟨by omega, by omega⟩ | exact bI_inR _ | (simp [st1] <;> omega) | exact rowR.so (by assumption) (by simp))) gX5_isPhrase_X5_isIn rfl rfl rfl (by decide +kernel) (Nat.le_of_ble_eq_true rfl) (Nat.le_of_ble_eq_true rfl) ⟨(Nat.zero_le _), (Nat.zero_le _)⟩ rfl rfl (Nat.le_of_ble_eq_true rfl) (st' := [vI (bI ((0) ≤ (v) ∧ (v) ≤ ((w (3, 0, 0) (2) - 1))))]) rfl dX5_isPhrase_8 (fun hr => ?_)
  exact r_zret C dX5_isPhrase_11 (by first | exact Or.inr rfl | exact Or.inl rfl | exact bI_01 _) (by rfl) (by first | rfl | (simp [*]; done))

set_option maxRecDepth 100000 in
set_option maxHeartbeats 8000000 in
theorem c_X5_setDrum {l : Launch} {G : Gt} (hG : Gok G)  {w : Mm} {v : Int} {d : Int} (hv : inR v) (hd : inR d) (hvb : 0 ≤ w (3, 0, 0) 1 ∧ w (3, 0, 0) 1 ≤ 8) : Con l G yX5_setDrum wsX5_setDrum ({ frames := 2, cells := 0, slots := 0, locals := 43 } : Room) w [.ref (adr G (3, 0, 0)), vI v, vI d] (some (vI ((if isV w v then (if 1 ≤ d ∧ d ≤ 9 then w (4, 0, 1) (v).toNat else 0) else 0)))) ((if isV w v then (if 1 ≤ d ∧ d ≤ 9 then st1 (th0 w) (4, 0, 1) (v).toNat d else thn w 2) else thn w 1)) 0 0 := by
  refine Con.head (cc := cX5_setDrum) (nL := 4) (ret := (some .int)) hG (by decide +kernel) rfl (Nat.le_of_ble_eq_true rfl) ?_
  intro B A hBl C hr
  have hr0 := hr
  have hrI := hr
  have hinX4 : ∀ w ∈ u_ws RX4 TX4 16, w ∈ wsX5_setDrum := by decide +kernel
  have hinX5 : ∀ w ∈ u_ws RX5 TX5 12, w ∈ wsX5_setDrum := by decide +kernel
  obtain ⟨y1, y2⟩ := hvb
  refine r_aload_n C (k := 0) dX5_setDrum_0 rfl ?_
  refine r_iconst C dX5_setDrum_1 ?_
  refine r_putf C 0 hr ⟨by decide, by decide⟩ (ok_of hG (show kd (3, 0, 0) = _ from rfl) (by decide) (by decide)) (show kd (3, 0, 0) = _ from rfl) (by decide) rfl hinX5 tyX5_ok nmX5 (by decide) (by decide +kernel) rfl rfl (ty := .int) (by decide +kernel) rfl rfl rfl (Nat.le_of_ble_eq_true rfl) dX5_setDrum_2 (fun hr => ?_)
  refine r_aload_n C (k := 0) dX5_setDrum_5 rfl ?_
  refine r_iload_n C (k := 1) dX5_setDrum_6 rfl ?_
  refine r_callV C (w' := (st1 w (3, 0, 0) (0) (0))) [vI (v)] 1 (c_X5_isVillage hG (by first | assumption | omega | exact hr _ _ | exact hr0 _ _ | exact hrI _ _ | exact ⟨by omega, by omega⟩ | exact bI_inR _ | (simp [st1] <;> omega) | exact rowR.so (by assumption) (by simp)) (by first | assumption | omega | exact hr _ _ | exact hr0 _ _ | exact hrI _ _ | exact ⟨by omega, by omega⟩ | exact bI_inR _ | (simp [st1] <;> omega) | exact rowR.so (by assumption) (by simp))) gX5_setDrum_X5_isVillage rfl rfl rfl (by decide +kernel) (Nat.le_of_ble_eq_true rfl) (Nat.le_of_ble_eq_true rfl) ⟨(Nat.zero_le _), (Nat.zero_le _)⟩ (ok_of hG (show kd (3, 0, 0) = _ from rfl) (by decide) (by decide)) (show kd (3, 0, 0) = _ from rfl) (by decide) rfl rfl rfl (Nat.le_of_ble_eq_true rfl) (st' := [vI (bI (0 ≤ (v) ∧ (v) ≤ (w (3, 0, 0) (1)) - 1))]) rfl dX5_setDrum_7 (fun hr => ?_)
  refine r_if_neP C (P := 0 ≤ (v) ∧ (v) ≤ (w (3, 0, 0) (1)) - 1) (tgt := 19) dX5_setDrum_10 (by decide) (fun h_1 => ?_) (fun h_1 => ?_)
  · skip
    refine r_iload_n C (k := 2) dX5_setDrum_19 rfl ?_
    refine r_iconst C dX5_setDrum_20 ?_
    refine r_bipush C dX5_setDrum_21 (by decide) ?_
    refine r_callS C (w' := (st1 w (3, 0, 0) (0) (0))) [vI (d), vI (1), vI (9)] 3 (c_X5_isIn hG (by first | assumption | omega | exact hr _ _ | exact hr0 _ _ | exact hrI _ _ | exact ⟨by omega, by omega⟩ | exact bI_inR _ | (simp [st1] <;> omega) | exact rowR.so (by assumption) (by simp)) (by first | assumption | omega | exact hr _ _ | exact hr0 _ _ | exact hrI _ _ | exact ⟨by omega, by omega⟩ | exact bI_inR _ | (simp [st1] <;> omega) | exact rowR.so (by assumption) (by simp)) (by first | assumption | omega | exact hr _ _ | exact hr0 _ _ | exact hrI _ _ | exact ⟨by omega, by omega⟩ | exact bI_inR _ | (simp [st1] <;> omega) | exact rowR.so (by assumption) (by simp))) gX5_setDrum_X5_isIn rfl rfl rfl (by decide +kernel) (Nat.le_of_ble_eq_true rfl) (Nat.le_of_ble_eq_true rfl) ⟨(Nat.zero_le _), (Nat.zero_le _)⟩ rfl rfl (Nat.le_of_ble_eq_true rfl) (st' := [vI (bI ((1) ≤ (d) ∧ (d) ≤ (9)))]) rfl dX5_setDrum_23 (fun hr => ?_)
    refine r_if_neP C (P := (1) ≤ (d) ∧ (d) ≤ (9)) (tgt := 35) dX5_setDrum_26 (by decide) (fun h_2 => ?_) (fun h_2 => ?_)
    · skip
      refine r_aload_n C (k := 0) dX5_setDrum_35 rfl ?_
      refine r_getf C 10 (v := .ref (adr G (4, 0, 0))) (ok_of hG (show kd (3, 0, 0) = _ from rfl) (by decide) (by decide)) (show kd (3, 0, 0) = _ from rfl) (by decide) rfl hinX5 (by decide) (by decide +kernel) rfl rfl dX5_setDrum_36 ?_
      refine r_getfN (host := "DrumTalkModel") C 3 (v := .ref (adr G (4, 0, 1))) (ok_of hG (show kd (4, 0, 0) = _ from rfl) (by decide) (by decide)) (show kd (4, 0, 0) = _ from rfl) (by decide) rfl hinX4 (by decide) (by decide +kernel) rfl rfl dX5_setDrum_39 ?_
      refine r_iload_n C (k := 1) dX5_setDrum_42 rfl ?_
      refine r_iald C ((v).toNat) (ok_of hG (show kd (4, 0, 1) = _ from rfl) (by decide) (by decide)) (show kd (4, 0, 1) = _ from rfl) (Int.toNat_of_nonneg (by first | omega | assumption)).symm (by first | omega | assumption) (by decide) dX5_setDrum_43 ?_
      refine Wm.top (z' := w (4, 0, 1) ((v).toNat)) (by simp [st1, cpy]) ?_
      refine r_istore_n C (i := 3) (lv' := [(3, vI (w (4, 0, 1) ((v).toNat))), (0, .ref (adr G (3, 0, 0))), (1, vI (v)), (2, vI (d))]) dX5_setDrum_44 rfl (by decide) rfl ?_
      refine r_aload_n C (k := 1) dX5_setDrum_45 rfl ?_
      refine r_getf C 10 (v := .ref (adr G (4, 0, 0))) (ok_of hG (show kd (3, 0, 0) = _ from rfl) (by decide) (by decide)) (show kd (3, 0, 0) = _ from rfl) (by decide) rfl hinX5 (by decide) (by decide +kernel) rfl rfl dX5_setDrum_46 ?_
      refine r_getfN (host := "DrumTalkModel") C 3 (v := .ref (adr G (4, 0, 1))) (ok_of hG (show kd (4, 0, 0) = _ from rfl) (by decide) (by decide)) (show kd (4, 0, 0) = _ from rfl) (by decide) rfl hinX4 (by decide) (by decide +kernel) rfl rfl dX5_setDrum_49 ?_
      refine r_iload_n C (k := 2) dX5_setDrum_52 rfl ?_
      refine r_iload_n C (k := 3) dX5_setDrum_53 rfl ?_
      refine r_iast C ((v).toNat) hr (by first | exact hr _ _ | exact hr0 _ _ | exact hrI _ _ | assumption | exact ⟨by omega, by omega⟩) (ok_of hG (show kd (4, 0, 1) = _ from rfl) (by decide) (by decide)) (show kd (4, 0, 1) = _ from rfl) (Int.toNat_of_nonneg (by first | omega | assumption)).symm (by first | omega | assumption) (by decide) dX5_setDrum_54 (fun hr => ?_)
      refine r_iload_n C (k := 0) dX5_setDrum_55 rfl ?_
      exact r_iret C dX5_setDrum_56 (by (first | rfl | ((repeat' split) <;> first | rfl | contradiction | (exfalso; omega)))) (by (first | rfl | ((repeat' split) <;> first | rfl | contradiction | (exfalso; omega))))
    · skip
      refine r_aload_n C (k := 0) dX5_setDrum_29 rfl ?_
      refine r_iconst C dX5_setDrum_30 ?_
      refine r_callV C (w' := (st1 (st1 w (3, 0, 0) (0) (0)) (3, 0, 0) 0 (2))) [vI (2)] 1 (c_X5_no hG (by first | assumption | omega | exact hr _ _ | exact hr0 _ _ | exact hrI _ _ | exact ⟨by omega, by omega⟩ | exact bI_inR _ | (simp [st1] <;> omega) | exact rowR.so (by assumption) (by simp))) gX5_setDrum_X5_no rfl rfl rfl (by decide +kernel) (Nat.le_of_ble_eq_true rfl) (Nat.le_of_ble_eq_true rfl) ⟨(Nat.zero_le _), (Nat.zero_le _)⟩ (ok_of hG (show kd (3, 0, 0) = _ from rfl) (by decide) (by decide)) (show kd (3, 0, 0) = _ from rfl) (by decide) rfl rfl rfl (Nat.le_of_ble_eq_true rfl) (st' := [vI ((0))]) rfl dX5_setDrum_31 (fun hr => ?_)
      exact r_iret C dX5_setDrum_34 (by (first | rfl | ((repeat' split) <;> first | rfl | contradiction | (exfalso; omega)))) (by (first | rfl | ((repeat' split) <;> first | rfl | contradiction | (exfalso; omega))))
  · skip
    refine r_aload_n C (k := 0) dX5_setDrum_13 rfl ?_
    refine r_iconst C dX5_setDrum_14 ?_
    refine r_callV C (w' := (st1 (st1 w (3, 0, 0) (0) (0)) (3, 0, 0) 0 (1))) [vI (1)] 1 (c_X5_no hG (by first | assumption | omega | exact hr _ _ | exact hr0 _ _ | exact hrI _ _ | exact ⟨by omega, by omega⟩ | exact bI_inR _ | (simp [st1] <;> omega) | exact rowR.so (by assumption) (by simp))) gX5_setDrum_X5_no rfl rfl rfl (by decide +kernel) (Nat.le_of_ble_eq_true rfl) (Nat.le_of_ble_eq_true rfl) ⟨(Nat.zero_le _), (Nat.zero_le _)⟩ (ok_of hG (show kd (3, 0, 0) = _ from rfl) (by decide) (by decide)) (show kd (3, 0, 0) = _ from rfl) (by decide) rfl rfl rfl (Nat.le_of_ble_eq_true rfl) (st' := [vI ((0))]) rfl dX5_setDrum_15 (fun hr => ?_)
    exact r_iret C dX5_setDrum_18 (by (first | rfl | ((repeat' split) <;> first | rfl | contradiction | (exfalso; omega)))) (by (first | rfl | ((repeat' split) <;> first | rfl | contradiction | (exfalso; omega))))

set_option maxRecDepth 100000 in
set_option maxHeartbeats 8000000 in
theorem c_X5_setCliff {l : Launch} {G : Gt} (hG : Gok G)  {w : Mm} {v : Int} {d : Int} (hv : inR v) (hd : inR d) (hvb : 0 ≤ w (3, 0, 0) 1 ∧ w (3, 0, 0) 1 ≤ 8) : Con l G yX5_setCliff wsX5_setCliff ({ frames := 2, cells := 0, slots := 0, locals := 43 } : Room) w [.ref (adr G (3, 0, 0)), vI v, vI d] (some (vI (bI (isV w v ∧ w (3, 0, 3) (v).toNat = 1)))) ((if isV w v then st1 (th0 w) (3, 0, 3) (v).toNat (if d = 0 then 0 else 1) else thn w 1)) 0 0 := by
  refine Con.head (cc := cX5_setCliff) (nL := 4) (ret := (some .boolean)) hG (by decide +kernel) rfl (Nat.le_of_ble_eq_true rfl) ?_
  intro B A hBl C hr
  have hr0 := hr
  have hrI := hr
  have hinX5 : ∀ w ∈ u_ws RX5 TX5 12, w ∈ wsX5_setCliff := by decide +kernel
  obtain ⟨y1, y2⟩ := hvb
  refine r_aload_n C (k := 0) dX5_setCliff_0 rfl ?_
  refine r_iconst C dX5_setCliff_1 ?_
  refine r_putf C 0 hr ⟨by decide, by decide⟩ (ok_of hG (show kd (3, 0, 0) = _ from rfl) (by decide) (by decide)) (show kd (3, 0, 0) = _ from rfl) (by decide) rfl hinX5 tyX5_ok nmX5 (by decide) (by decide +kernel) rfl rfl (ty := .int) (by decide +kernel) rfl rfl rfl (Nat.le_of_ble_eq_true rfl) dX5_setCliff_2 (fun hr => ?_)
  refine r_aload_n C (k := 0) dX5_setCliff_5 rfl ?_
  refine r_iload_n C (k := 1) dX5_setCliff_6 rfl ?_
  refine r_callV C (w' := (st1 w (3, 0, 0) (0) (0))) [vI (v)] 1 (c_X5_isVillage hG (by first | assumption | omega | exact hr _ _ | exact hr0 _ _ | exact hrI _ _ | exact ⟨by omega, by omega⟩ | exact bI_inR _ | (simp [st1] <;> omega) | exact rowR.so (by assumption) (by simp)) (by first | assumption | omega | exact hr _ _ | exact hr0 _ _ | exact hrI _ _ | exact ⟨by omega, by omega⟩ | exact bI_inR _ | (simp [st1] <;> omega) | exact rowR.so (by assumption) (by simp))) gX5_setCliff_X5_isVillage rfl rfl rfl (by decide +kernel) (Nat.le_of_ble_eq_true rfl) (Nat.le_of_ble_eq_true rfl) ⟨(Nat.zero_le _), (Nat.zero_le _)⟩ (ok_of hG (show kd (3, 0, 0) = _ from rfl) (by decide) (by decide)) (show kd (3, 0, 0) = _ from rfl) (by decide) rfl rfl rfl (Nat.le_of_ble_eq_true rfl) (st' := [vI (bI (0 ≤ (v) ∧ (v) ≤ (w (3, 0, 0) (1)) - 1))]) rfl dX5_setCliff_7 (fun hr => ?_)
  refine r_if_neP C (P := 0 ≤ (v) ∧ (v) ≤ (w (3, 0, 0) (1)) - 1) (tgt := 27) dX5_setCliff_10 (by decide) (fun h_1 => ?_) (fun h_1 => ?_)
  · skip
    refine r_aload_n C (k := 0) dX5_setCliff_27 rfl ?_
    refine r_getf C 5 (v := .ref (adr G (3, 0, 3))) (ok_of hG (show kd (3, 0, 0) = _ from rfl) (by decide) (by decide)) (show kd (3, 0, 0) = _ from rfl) (by decide) rfl hinX5 (by decide) (by decide +kernel) rfl rfl dX5_setCliff_28 ?_
    refine r_iload_n C (k := 1) dX5_setCliff_31 rfl ?_
    refine r_iald C ((v).toNat) (ok_of hG (show kd (3, 0, 3) = _ from rfl) (by decide) (by decide)) (show kd (3, 0, 3) = _ from rfl) (Int.toNat_of_nonneg (by first | omega | assumption)).symm (by first | omega | assumption) (by decide) dX5_setCliff_32 ?_
    refine Wm.top (z' := w (3, 0, 3) ((v).toNat)) (by simp [st1, cpy]) ?_
    refine r_iconst C dX5_setCliff_33 ?_
    refine r_icmp_ne C (tgt := 41) dX5_setCliff_34 (by decide) (by first | exact hr _ _ | exact hr0 _ _ | exact hrI _ _ | assumption | exact ⟨by omega, by omega⟩) ⟨by decide, by decide⟩ (fun h_2 => ?_) (fun h_2 => ?_)
    · skip
      refine r_iconst C dX5_setCliff_41 ?_
      refine r_istore_n C (i := 3) (lv' := [(3, vI (0)), (0, .ref (adr G (3, 0, 0))), (1, vI (v)), (2, vI (d))]) dX5_setCliff_42 rfl (by decide) rfl ?_
      refine r_aload_n C (k := 1) dX5_setCliff_43 rfl ?_
      refine r_getf C 5 (v := .ref (adr G (3, 0, 3))) (ok_of hG (show kd (3, 0, 0) = _ from rfl) (by decide) (by decide)) (show kd (3, 0, 0) = _ from rfl) (by decide) rfl hinX5 (by decide) (by decide +kernel) rfl rfl dX5_setCliff_44 ?_
      refine r_iload_n C (k := 2) dX5_setCliff_47 rfl ?_
      refine r_iload_n C (k := 3) dX5_setCliff_48 rfl ?_
      refine r_if_eq C (tgt := 56) dX5_setCliff_49 (by decide) (by first | exact hr _ _ | exact hr0 _ _ | exact hrI _ _ | assumption | exact ⟨by omega, by omega⟩) (fun h_3 => ?_) (fun h_3 => ?_)
      · skip
        refine r_iconst C dX5_setCliff_56 ?_
        refine r_iast C ((v).toNat) hr ⟨by decide, by decide⟩ (ok_of hG (show kd (3, 0, 3) = _ from rfl) (by decide) (by decide)) (show kd (3, 0, 3) = _ from rfl) (Int.toNat_of_nonneg (by first | omega | assumption)).symm (by first | omega | assumption) (by decide) dX5_setCliff_57 (fun hr => ?_)
        refine r_iload_n C (k := 0) dX5_setCliff_58 rfl ?_
        exact r_zret C dX5_setCliff_59 (by first | exact Or.inr rfl | exact Or.inl rfl | exact bI_01 _) (by exact congrArg (fun z => some (vI z)) (bI_f (by first | omega | (simp_all; done) | (simp_all; omega))).symm) (by (first | rfl | ((repeat' split) <;> first | rfl | contradiction | (exfalso; omega))))
      · skip
        refine r_iconst C dX5_setCliff_52 ?_
        refine r_goto C (tgt := 57) dX5_setCliff_53 (by decide) ?_
        refine r_iast C ((v).toNat) hr ⟨by decide, by decide⟩ (ok_of hG (show kd (3, 0, 3) = _ from rfl) (by decide) (by decide)) (show kd (3, 0, 3) = _ from rfl) (Int.toNat_of_nonneg (by first | omega | assumption)).symm (by first | omega | assumption) (by decide) dX5_setCliff_57 (fun hr => ?_)
        refine r_iload_n C (k := 0) dX5_setCliff_58 rfl ?_
        exact r_zret C dX5_setCliff_59 (by first | exact Or.inr rfl | exact Or.inl rfl | exact bI_01 _) (by exact congrArg (fun z => some (vI z)) (bI_f (by first | omega | (simp_all; done) | (simp_all; omega))).symm) (by (first | rfl | ((repeat' split) <;> first | rfl | contradiction | (exfalso; omega))))
    · skip
      refine r_iconst C dX5_setCliff_37 ?_
      refine r_goto C (tgt := 42) dX5_setCliff_38 (by decide) ?_
      refine r_istore_n C (i := 3) (lv' := [(3, vI (1)), (0, .ref (adr G (3, 0, 0))), (1, vI (v)), (2, vI (d))]) dX5_setCliff_42 rfl (by decide) rfl ?_
      refine r_aload_n C (k := 1) dX5_setCliff_43 rfl ?_
      refine r_getf C 5 (v := .ref (adr G (3, 0, 3))) (ok_of hG (show kd (3, 0, 0) = _ from rfl) (by decide) (by decide)) (show kd (3, 0, 0) = _ from rfl) (by decide) rfl hinX5 (by decide) (by decide +kernel) rfl rfl dX5_setCliff_44 ?_
      refine r_iload_n C (k := 2) dX5_setCliff_47 rfl ?_
      refine r_iload_n C (k := 3) dX5_setCliff_48 rfl ?_
      refine r_if_eq C (tgt := 56) dX5_setCliff_49 (by decide) (by first | exact hr _ _ | exact hr0 _ _ | exact hrI _ _ | assumption | exact ⟨by omega, by omega⟩) (fun h_4 => ?_) (fun h_4 => ?_)
      · skip
        refine r_iconst C dX5_setCliff_56 ?_
        refine r_iast C ((v).toNat) hr ⟨by decide, by decide⟩ (ok_of hG (show kd (3, 0, 3) = _ from rfl) (by decide) (by decide)) (show kd (3, 0, 3) = _ from rfl) (Int.toNat_of_nonneg (by first | omega | assumption)).symm (by first | omega | assumption) (by decide) dX5_setCliff_57 (fun hr => ?_)
        refine r_iload_n C (k := 0) dX5_setCliff_58 rfl ?_
        exact r_zret C dX5_setCliff_59 (by first | exact Or.inr rfl | exact Or.inl rfl | exact bI_01 _) (by exact congrArg (fun z => some (vI z)) (bI_t (by first | omega | (simp_all; done) | (simp_all; omega))).symm) (by (first | rfl | ((repeat' split) <;> first | rfl | contradiction | (exfalso; omega))))
      · skip
        refine r_iconst C dX5_setCliff_52 ?_
        refine r_goto C (tgt := 57) dX5_setCliff_53 (by decide) ?_
        refine r_iast C ((v).toNat) hr ⟨by decide, by decide⟩ (ok_of hG (show kd (3, 0, 3) = _ from rfl) (by decide) (by decide)) (show kd (3, 0, 3) = _ from rfl) (Int.toNat_of_nonneg (by first | omega | assumption)).symm (by first | omega | assumption) (by decide) dX5_setCliff_57 (fun hr => ?_)
        refine r_iload_n C (k := 0) dX5_setCliff_58 rfl ?_
        exact r_zret C dX5_setCliff_59 (by first | exact Or.inr rfl | exact Or.inl rfl | exact bI_01 _) (by exact congrArg (fun z => some (vI z)) (bI_t (by first | omega | (simp_all; done) | (simp_all; omega))).symm) (by (first | rfl | ((repeat' split) <;> first | rfl | contradiction | (exfalso; omega))))
  · skip
    refine r_aload_n C (k := 0) dX5_setCliff_13 rfl ?_
    refine r_iconst C dX5_setCliff_14 ?_
    refine r_callV C (w' := (st1 (st1 w (3, 0, 0) (0) (0)) (3, 0, 0) 0 (1))) [vI (1)] 1 (c_X5_no hG (by first | assumption | omega | exact hr _ _ | exact hr0 _ _ | exact hrI _ _ | exact ⟨by omega, by omega⟩ | exact bI_inR _ | (simp [st1] <;> omega) | exact rowR.so (by assumption) (by simp))) gX5_setCliff_X5_no rfl rfl rfl (by decide +kernel) (Nat.le_of_ble_eq_true rfl) (Nat.le_of_ble_eq_true rfl) ⟨(Nat.zero_le _), (Nat.zero_le _)⟩ (ok_of hG (show kd (3, 0, 0) = _ from rfl) (by decide) (by decide)) (show kd (3, 0, 0) = _ from rfl) (by decide) rfl rfl rfl (Nat.le_of_ble_eq_true rfl) (st' := [vI ((0))]) rfl dX5_setCliff_15 (fun hr => ?_)
    refine r_if_eq C (tgt := 25) dX5_setCliff_18 (by decide) (by first | exact hr _ _ | exact hr0 _ _ | exact hrI _ _ | assumption | exact ⟨by omega, by omega⟩) (fun h_5 => ?_) (fun h_5 => ?_)
    · skip
      refine r_iconst C dX5_setCliff_25 ?_
      exact r_zret C dX5_setCliff_26 (by first | exact Or.inr rfl | exact Or.inl rfl | exact bI_01 _) (by exact congrArg (fun z => some (vI z)) (bI_f (fun q => by omega)).symm) (by (first | rfl | ((repeat' split) <;> first | rfl | contradiction | (exfalso; omega))))
    · skip
      contradiction

set_option maxRecDepth 100000 in
set_option maxHeartbeats 8000000 in
theorem c_X5_setAwake {l : Launch} {G : Gt} (hG : Gok G)  {w : Mm} {v : Int} {a : Int} {b : Int} (hv : inR v) (ha : inR a) (hb : inR b) (hvb : 0 ≤ w (3, 0, 0) 1 ∧ w (3, 0, 0) 1 ≤ 8) : Con l G yX5_setAwake wsX5_setAwake ({ frames := 2, cells := 0, slots := 0, locals := 43 } : Room) w [.ref (adr G (3, 0, 0)), vI v, vI a, vI b] (some (vI ((if isV w v then (if (0 ≤ a ∧ a ≤ 23) ∧ (1 ≤ b ∧ b ≤ 24) then w (3, 0, 5) (v).toNat else 0) else 0)))) ((if isV w v then (if (0 ≤ a ∧ a ≤ 23) ∧ (1 ≤ b ∧ b ≤ 24) then st1 (st1 (th0 w) (3, 0, 4) (v).toNat a) (3, 0, 5) (v).toNat b else thn w 2) else thn w 1)) 0 0 := by
  refine Con.head (cc := cX5_setAwake) (nL := 5) (ret := (some .int)) hG (by decide +kernel) rfl (Nat.le_of_ble_eq_true rfl) ?_
  intro B A hBl C hr
  have hr0 := hr
  have hrI := hr
  have hinX5 : ∀ w ∈ u_ws RX5 TX5 12, w ∈ wsX5_setAwake := by decide +kernel
  obtain ⟨y1, y2⟩ := hvb
  refine r_aload_n C (k := 0) dX5_setAwake_0 rfl ?_
  refine r_iconst C dX5_setAwake_1 ?_
  refine r_putf C 0 hr ⟨by decide, by decide⟩ (ok_of hG (show kd (3, 0, 0) = _ from rfl) (by decide) (by decide)) (show kd (3, 0, 0) = _ from rfl) (by decide) rfl hinX5 tyX5_ok nmX5 (by decide) (by decide +kernel) rfl rfl (ty := .int) (by decide +kernel) rfl rfl rfl (Nat.le_of_ble_eq_true rfl) dX5_setAwake_2 (fun hr => ?_)
  refine r_aload_n C (k := 0) dX5_setAwake_5 rfl ?_
  refine r_iload_n C (k := 1) dX5_setAwake_6 rfl ?_
  refine r_callV C (w' := (st1 w (3, 0, 0) (0) (0))) [vI (v)] 1 (c_X5_isVillage hG (by first | assumption | omega | exact hr _ _ | exact hr0 _ _ | exact hrI _ _ | exact ⟨by omega, by omega⟩ | exact bI_inR _ | (simp [st1] <;> omega) | exact rowR.so (by assumption) (by simp)) (by first | assumption | omega | exact hr _ _ | exact hr0 _ _ | exact hrI _ _ | exact ⟨by omega, by omega⟩ | exact bI_inR _ | (simp [st1] <;> omega) | exact rowR.so (by assumption) (by simp))) gX5_setAwake_X5_isVillage rfl rfl rfl (by decide +kernel) (Nat.le_of_ble_eq_true rfl) (Nat.le_of_ble_eq_true rfl) ⟨(Nat.zero_le _), (Nat.zero_le _)⟩ (ok_of hG (show kd (3, 0, 0) = _ from rfl) (by decide) (by decide)) (show kd (3, 0, 0) = _ from rfl) (by decide) rfl rfl rfl (Nat.le_of_ble_eq_true rfl) (st' := [vI (bI (0 ≤ (v) ∧ (v) ≤ (w (3, 0, 0) (1)) - 1))]) rfl dX5_setAwake_7 (fun hr => ?_)
  refine r_if_neP C (P := 0 ≤ (v) ∧ (v) ≤ (w (3, 0, 0) (1)) - 1) (tgt := 19) dX5_setAwake_10 (by decide) (fun h_1 => ?_) (fun h_1 => ?_)
  · skip
    refine r_iload_n C (k := 2) dX5_setAwake_19 rfl ?_
    refine r_iconst C dX5_setAwake_20 ?_
    refine r_bipush C dX5_setAwake_21 (by decide) ?_
    refine r_callS C (w' := (st1 w (3, 0, 0) (0) (0))) [vI (a), vI (0), vI (23)] 3 (c_X5_isIn hG (by first | assumption | omega | exact hr _ _ | exact hr0 _ _ | exact hrI _ _ | exact ⟨by omega, by omega⟩ | exact bI_inR _ | (simp [st1] <;> omega) | exact rowR.so (by assumption) (by simp)) (by first | assumption | omega | exact hr _ _ | exact hr0 _ _ | exact hrI _ _ | exact ⟨by omega, by omega⟩ | exact bI_inR _ | (simp [st1] <;> omega) | exact rowR.so (by assumption) (by simp)) (by first | assumption | omega | exact hr _ _ | exact hr0 _ _ | exact hrI _ _ | exact ⟨by omega, by omega⟩ | exact bI_inR _ | (simp [st1] <;> omega) | exact rowR.so (by assumption) (by simp))) gX5_setAwake_X5_isIn rfl rfl rfl (by decide +kernel) (Nat.le_of_ble_eq_true rfl) (Nat.le_of_ble_eq_true rfl) ⟨(Nat.zero_le _), (Nat.zero_le _)⟩ rfl rfl (Nat.le_of_ble_eq_true rfl) (st' := [vI (bI ((0) ≤ (a) ∧ (a) ≤ (23)))]) rfl dX5_setAwake_23 (fun hr => ?_)
    refine r_if_eqP C (P := (0) ≤ (a) ∧ (a) ≤ (23)) (tgt := 39) dX5_setAwake_26 (by decide) (fun h_2 => ?_) (fun h_2 => ?_)
    · skip
      refine r_aload_n C (k := 0) dX5_setAwake_39 rfl ?_
      refine r_iconst C dX5_setAwake_40 ?_
      refine r_callV C (w' := (st1 (st1 w (3, 0, 0) (0) (0)) (3, 0, 0) 0 (2))) [vI (2)] 1 (c_X5_no hG (by first | assumption | omega | exact hr _ _ | exact hr0 _ _ | exact hrI _ _ | exact ⟨by omega, by omega⟩ | exact bI_inR _ | (simp [st1] <;> omega) | exact rowR.so (by assumption) (by simp))) gX5_setAwake_X5_no rfl rfl rfl (by decide +kernel) (Nat.le_of_ble_eq_true rfl) (Nat.le_of_ble_eq_true rfl) ⟨(Nat.zero_le _), (Nat.zero_le _)⟩ (ok_of hG (show kd (3, 0, 0) = _ from rfl) (by decide) (by decide)) (show kd (3, 0, 0) = _ from rfl) (by decide) rfl rfl rfl (Nat.le_of_ble_eq_true rfl) (st' := [vI ((0))]) rfl dX5_setAwake_41 (fun hr => ?_)
      exact r_iret C dX5_setAwake_44 (by (first | rfl | ((repeat' split) <;> first | rfl | contradiction | (exfalso; omega)))) (by (first | rfl | ((repeat' split) <;> first | rfl | contradiction | (exfalso; omega))))
    · skip
      refine r_iload_n C (k := 3) dX5_setAwake_29 rfl ?_
      refine r_iconst C dX5_setAwake_30 ?_
      refine r_bipush C dX5_setAwake_31 (by decide) ?_
      refine r_callS C (w' := (st1 w (3, 0, 0) (0) (0))) [vI (b), vI (1), vI (24)] 3 (c_X5_isIn hG (by first | assumption | omega | exact hr _ _ | exact hr0 _ _ | exact hrI _ _ | exact ⟨by omega, by omega⟩ | exact bI_inR _ | (simp [st1] <;> omega) | exact rowR.so (by assumption) (by simp)) (by first | assumption | omega | exact hr _ _ | exact hr0 _ _ | exact hrI _ _ | exact ⟨by omega, by omega⟩ | exact bI_inR _ | (simp [st1] <;> omega) | exact rowR.so (by assumption) (by simp)) (by first | assumption | omega | exact hr _ _ | exact hr0 _ _ | exact hrI _ _ | exact ⟨by omega, by omega⟩ | exact bI_inR _ | (simp [st1] <;> omega) | exact rowR.so (by assumption) (by simp))) gX5_setAwake_X5_isIn rfl rfl rfl (by decide +kernel) (Nat.le_of_ble_eq_true rfl) (Nat.le_of_ble_eq_true rfl) ⟨(Nat.zero_le _), (Nat.zero_le _)⟩ rfl rfl (Nat.le_of_ble_eq_true rfl) (st' := [vI (bI ((1) ≤ (b) ∧ (b) ≤ (24)))]) rfl dX5_setAwake_33 (fun hr => ?_)
      refine r_if_neP C (P := (1) ≤ (b) ∧ (b) ≤ (24)) (tgt := 45) dX5_setAwake_36 (by decide) (fun h_3 => ?_) (fun h_3 => ?_)
      · skip
        refine r_aload_n C (k := 0) dX5_setAwake_45 rfl ?_
        refine r_getf C 7 (v := .ref (adr G (3, 0, 5))) (ok_of hG (show kd (3, 0, 0) = _ from rfl) (by decide) (by decide)) (show kd (3, 0, 0) = _ from rfl) (by decide) rfl hinX5 (by decide) (by decide +kernel) rfl rfl dX5_setAwake_46 ?_
        refine r_iload_n C (k := 1) dX5_setAwake_49 rfl ?_
        refine r_iald C ((v).toNat) (ok_of hG (show kd (3, 0, 5) = _ from rfl) (by decide) (by decide)) (show kd (3, 0, 5) = _ from rfl) (Int.toNat_of_nonneg (by first | omega | assumption)).symm (by first | omega | assumption) (by decide) dX5_setAwake_50 ?_
        refine Wm.top (z' := w (3, 0, 5) ((v).toNat)) (by simp [st1, cpy]) ?_
        refine r_istore C (i := 4) (lv' := [(4, vI (w (3, 0, 5) ((v).toNat))), (0, .ref (adr G (3, 0, 0))), (1, vI (v)), (2, vI (a)), (3, vI (b))]) dX5_setAwake_51 (by decide) rfl ?_
        refine r_aload_n C (k := 1) dX5_setAwake_53 rfl ?_
        refine r_getf C 6 (v := .ref (adr G (3, 0, 4))) (ok_of hG (show kd (3, 0, 0) = _ from rfl) (by decide) (by decide)) (show kd (3, 0, 0) = _ from rfl) (by decide) rfl hinX5 (by decide) (by decide +kernel) rfl rfl dX5_setAwake_54 ?_
        refine r_iload_n C (k := 2) dX5_setAwake_57 rfl ?_
        refine r_iload_n C (k := 3) dX5_setAwake_58 rfl ?_
        refine r_iast C ((v).toNat) hr (by first | exact hr _ _ | exact hr0 _ _ | exact hrI _ _ | assumption | exact ⟨by omega, by omega⟩) (ok_of hG (show kd (3, 0, 4) = _ from rfl) (by decide) (by decide)) (show kd (3, 0, 4) = _ from rfl) (Int.toNat_of_nonneg (by first | omega | assumption)).symm (by first | omega | assumption) (by decide) dX5_setAwake_59 (fun hr => ?_)
        refine r_aload_n C (k := 1) dX5_setAwake_60 rfl ?_
        refine r_getf C 7 (v := .ref (adr G (3, 0, 5))) (ok_of hG (show kd (3, 0, 0) = _ from rfl) (by decide) (by decide)) (show kd (3, 0, 0) = _ from rfl) (by decide) rfl hinX5 (by decide) (by decide +kernel) rfl rfl dX5_setAwake_61 ?_
        refine r_iload_n C (k := 2) dX5_setAwake_64 rfl ?_
        refine r_iload_n C (k := 4) dX5_setAwake_65 rfl ?_
        refine r_iast C ((v).toNat) hr (by first | exact hr _ _ | exact hr0 _ _ | exact hrI _ _ | assumption | exact ⟨by omega, by omega⟩) (ok_of hG (show kd (3, 0, 5) = _ from rfl) (by decide) (by decide)) (show kd (3, 0, 5) = _ from rfl) (Int.toNat_of_nonneg (by first | omega | assumption)).symm (by first | omega | assumption) (by decide) dX5_setAwake_66 (fun hr => ?_)
        refine r_iload C (k := 0) dX5_setAwake_67 rfl ?_
        exact r_iret C dX5_setAwake_69 (by (first | rfl | ((repeat' split) <;> first | rfl | contradiction | (exfalso; omega)))) (by (first | rfl | ((repeat' split) <;> first | rfl | contradiction | (exfalso; omega))))
      · skip
        refine r_aload_n C (k := 0) dX5_setAwake_39 rfl ?_
        refine r_iconst C dX5_setAwake_40 ?_
        refine r_callV C (w' := (st1 (st1 w (3, 0, 0) (0) (0)) (3, 0, 0) 0 (2))) [vI (2)] 1 (c_X5_no hG (by first | assumption | omega | exact hr _ _ | exact hr0 _ _ | exact hrI _ _ | exact ⟨by omega, by omega⟩ | exact bI_inR _ | (simp [st1] <;> omega) | exact rowR.so (by assumption) (by simp))) gX5_setAwake_X5_no rfl rfl rfl (by decide +kernel) (Nat.le_of_ble_eq_true rfl) (Nat.le_of_ble_eq_true rfl) ⟨(Nat.zero_le _), (Nat.zero_le _)⟩ (ok_of hG (show kd (3, 0, 0) = _ from rfl) (by decide) (by decide)) (show kd (3, 0, 0) = _ from rfl) (by decide) rfl rfl rfl (Nat.le_of_ble_eq_true rfl) (st' := [vI ((0))]) rfl dX5_setAwake_41 (fun hr => ?_)
        exact r_iret C dX5_setAwake_44 (by (first | rfl | ((repeat' split) <;> first | rfl | contradiction | (exfalso; omega)))) (by (first | rfl | ((repeat' split) <;> first | rfl | contradiction | (exfalso; omega))))
  · skip
    refine r_aload_n C (k := 0) dX5_setAwake_13 rfl ?_
    refine r_iconst C dX5_setAwake_14 ?_
    refine r_callV C (w' := (st1 (st1 w (3, 0, 0) (0) (0)) (3, 0, 0) 0 (1))) [vI (1)] 1 (c_X5_no hG (by first | assumption | omega | exact hr _ _ | exact hr0 _ _ | exact hrI _ _ | exact ⟨by omega, by omega⟩ | exact bI_inR _ | (simp [st1] <;> omega) | exact rowR.so (by assumption) (by simp))) gX5_setAwake_X5_no rfl rfl rfl (by decide +kernel) (Nat.le_of_ble_eq_true rfl) (Nat.le_of_ble_eq_true rfl) ⟨(Nat.zero_le _), (Nat.zero_le _)⟩ (ok_of hG (show kd (3, 0, 0) = _ from rfl) (by decide) (by decide)) (show kd (3, 0, 0) = _ from rfl) (by decide) rfl rfl rfl (Nat.le_of_ble_eq_true rfl) (st' := [vI ((0))]) rfl dX5_setAwake_15 (fun hr => ?_)
    exact r_iret C dX5_setAwake_18 (by (first | rfl | ((repeat' split) <;> first | rfl | contradiction | (exfalso; omega)))) (by (first | rfl | ((repeat' split) <;> first | rfl | contradiction | (exfalso; omega))))

set_option maxRecDepth 100000 in
set_option maxHeartbeats 8000000 in
theorem c_X5_tell {l : Launch} {G : Gt} (hG : Gok G)  {w : Mm} {v : Int} {p : Int} (hv : inR v) (hp : inR p) (hvb : 0 ≤ w (3, 0, 0) 1 ∧ w (3, 0, 0) 1 ≤ 8) (hpb : 0 ≤ w (3, 0, 0) 2 ∧ w (3, 0, 0) 2 ≤ 12) (hq : rowR w (4, 0, 4) 8 0 5) : Con l G yX5_tell wsX5_tell ({ frames := 2, cells := 0, slots := 0, locals := 43 } : Room) w [.ref (adr G (3, 0, 0)), vI v, vI p] (some (vI ((if isV w v ∧ isP w p then (if w (4, 0, 4) (v).toNat = 5 then 0 else w (4, 0, 4) (v).toNat + 1) else 0)))) ((if isV w v ∧ isP w p then (if w (4, 0, 4) (v).toNat = 5 then thn w 2 else rput (rlrn (th0 w) 4 v p) 4 v p) else thn w 1)) 0 0 := by
  refine Con.head (cc := cX5_tell) (nL := 3) (ret := (some .int)) hG (by decide +kernel) rfl (Nat.le_of_ble_eq_true rfl) ?_
  intro B A hBl C hr
  have hr0 := hr
  have hrI := hr
  have hinX4 : ∀ w ∈ u_ws RX4 TX4 16, w ∈ wsX5_tell := by decide +kernel
  have hinX5 : ∀ w ∈ u_ws RX5 TX5 12, w ∈ wsX5_tell := by decide +kernel
  obtain ⟨y1, y2⟩ := hvb
  obtain ⟨z1, z2⟩ := hpb
  have q4 : isV w v → 0 ≤ w (4, 0, 4) (v).toNat ∧ w (4, 0, 4) (v).toNat ≤ 5 := fun q => hq _ (by omega)
  refine r_aload_n C (k := 0) dX5_tell_0 rfl ?_
  refine r_iconst C dX5_tell_1 ?_
  refine r_putf C 0 hr ⟨by decide, by decide⟩ (ok_of hG (show kd (3, 0, 0) = _ from rfl) (by decide) (by decide)) (show kd (3, 0, 0) = _ from rfl) (by decide) rfl hinX5 tyX5_ok nmX5 (by decide) (by decide +kernel) rfl rfl (ty := .int) (by decide +kernel) rfl rfl rfl (Nat.le_of_ble_eq_true rfl) dX5_tell_2 (fun hr => ?_)
  refine r_aload_n C (k := 0) dX5_tell_5 rfl ?_
  refine r_iload_n C (k := 1) dX5_tell_6 rfl ?_
  refine r_callV C (w' := (st1 w (3, 0, 0) (0) (0))) [vI (v)] 1 (c_X5_isVillage hG (by first | assumption | omega | exact hr _ _ | exact hr0 _ _ | exact hrI _ _ | exact ⟨by omega, by omega⟩ | exact bI_inR _ | (simp [st1] <;> omega) | exact rowR.so (by assumption) (by simp)) (by first | assumption | omega | exact hr _ _ | exact hr0 _ _ | exact hrI _ _ | exact ⟨by omega, by omega⟩ | exact bI_inR _ | (simp [st1] <;> omega) | exact rowR.so (by assumption) (by simp))) gX5_tell_X5_isVillage rfl rfl rfl (by decide +kernel) (Nat.le_of_ble_eq_true rfl) (Nat.le_of_ble_eq_true rfl) ⟨(Nat.zero_le _), (Nat.zero_le _)⟩ (ok_of hG (show kd (3, 0, 0) = _ from rfl) (by decide) (by decide)) (show kd (3, 0, 0) = _ from rfl) (by decide) rfl rfl rfl (Nat.le_of_ble_eq_true rfl) (st' := [vI (bI (0 ≤ (v) ∧ (v) ≤ (w (3, 0, 0) (1)) - 1))]) rfl dX5_tell_7 (fun hr => ?_)
  refine r_if_eqP C (P := 0 ≤ (v) ∧ (v) ≤ (w (3, 0, 0) (1)) - 1) (tgt := 21) dX5_tell_10 (by decide) (fun h_1 => ?_) (fun h_1 => ?_)
  · skip
    refine r_aload_n C (k := 0) dX5_tell_21 rfl ?_
    refine r_iconst C dX5_tell_22 ?_
    refine r_callV C (w' := (st1 (st1 w (3, 0, 0) (0) (0)) (3, 0, 0) 0 (1))) [vI (1)] 1 (c_X5_no hG (by first | assumption | omega | exact hr _ _ | exact hr0 _ _ | exact hrI _ _ | exact ⟨by omega, by omega⟩ | exact bI_inR _ | (simp [st1] <;> omega) | exact rowR.so (by assumption) (by simp))) gX5_tell_X5_no rfl rfl rfl (by decide +kernel) (Nat.le_of_ble_eq_true rfl) (Nat.le_of_ble_eq_true rfl) ⟨(Nat.zero_le _), (Nat.zero_le _)⟩ (ok_of hG (show kd (3, 0, 0) = _ from rfl) (by decide) (by decide)) (show kd (3, 0, 0) = _ from rfl) (by decide) rfl rfl rfl (Nat.le_of_ble_eq_true rfl) (st' := [vI ((0))]) rfl dX5_tell_23 (fun hr => ?_)
    exact r_iret C dX5_tell_26 (by (first | rfl | ((repeat' split) <;> first | rfl | contradiction | (exfalso; omega)))) (by (first | rfl | ((repeat' split) <;> first | rfl | contradiction | (exfalso; omega))))
  · skip
    refine r_aload_n C (k := 0) dX5_tell_13 rfl ?_
    refine r_iload_n C (k := 2) dX5_tell_14 rfl ?_
    refine r_callV C (w' := (st1 w (3, 0, 0) (0) (0))) [vI (p)] 1 (c_X5_isPhrase hG (by first | assumption | omega | exact hr _ _ | exact hr0 _ _ | exact hrI _ _ | exact ⟨by omega, by omega⟩ | exact bI_inR _ | (simp [st1] <;> omega) | exact rowR.so (by assumption) (by simp)) (by first | assumption | omega | exact hr _ _ | exact hr0 _ _ | exact hrI _ _ | exact ⟨by omega, by omega⟩ | exact bI_inR _ | (simp [st1] <;> omega) | exact rowR.so (by assumption) (by simp))) gX5_tell_X5_isPhrase rfl rfl rfl (by decide +kernel) (Nat.le_of_ble_eq_true rfl) (Nat.le_of_ble_eq_true rfl) ⟨(Nat.zero_le _), (Nat.zero_le _)⟩ (ok_of hG (show kd (3, 0, 0) = _ from rfl) (by decide) (by decide)) (show kd (3, 0, 0) = _ from rfl) (by decide) rfl rfl rfl (Nat.le_of_ble_eq_true rfl) (st' := [vI (bI (0 ≤ (p) ∧ (p) ≤ (w (3, 0, 0) (2)) - 1))]) rfl dX5_tell_15 (fun hr => ?_)
    refine r_if_neP C (P := 0 ≤ (p) ∧ (p) ≤ (w (3, 0, 0) (2)) - 1) (tgt := 27) dX5_tell_18 (by decide) (fun h_2 => ?_) (fun h_2 => ?_)
    · have q4 := q4 (by assumption)
      refine r_aload_n C (k := 0) dX5_tell_27 rfl ?_
      refine r_getf C 10 (v := .ref (adr G (4, 0, 0))) (ok_of hG (show kd (3, 0, 0) = _ from rfl) (by decide) (by decide)) (show kd (3, 0, 0) = _ from rfl) (by decide) rfl hinX5 (by decide) (by decide +kernel) rfl rfl dX5_tell_28 ?_
      refine r_getfN (host := "DrumTalkModel") C 6 (v := .ref (adr G (4, 0, 4))) (ok_of hG (show kd (4, 0, 0) = _ from rfl) (by decide) (by decide)) (show kd (4, 0, 0) = _ from rfl) (by decide) rfl hinX4 (by decide) (by decide +kernel) rfl rfl dX5_tell_31 ?_
      refine r_iload_n C (k := 1) dX5_tell_34 rfl ?_
      refine r_iald C ((v).toNat) (ok_of hG (show kd (4, 0, 4) = _ from rfl) (by decide) (by decide)) (show kd (4, 0, 4) = _ from rfl) (Int.toNat_of_nonneg (by first | omega | assumption)).symm (by first | omega | assumption) (by decide) dX5_tell_35 ?_
      refine Wm.top (z' := w (4, 0, 4) ((v).toNat)) (by simp [st1, cpy]) ?_
      refine r_iconst C dX5_tell_36 ?_
      refine r_icmp_ne C (tgt := 46) dX5_tell_37 (by decide) (by first | exact hr _ _ | exact hr0 _ _ | exact hrI _ _ | assumption | exact ⟨by omega, by omega⟩) ⟨by decide, by decide⟩ (fun h_3 => ?_) (fun h_3 => ?_)
      · skip
        refine r_aload_n C (k := 0) dX5_tell_46 rfl ?_
        refine r_getf C 10 (v := .ref (adr G (4, 0, 0))) (ok_of hG (show kd (3, 0, 0) = _ from rfl) (by decide) (by decide)) (show kd (3, 0, 0) = _ from rfl) (by decide) rfl hinX5 (by decide) (by decide +kernel) rfl rfl dX5_tell_47 ?_
        refine r_iload_n C (k := 1) dX5_tell_50 rfl ?_
        refine r_iload_n C (k := 2) dX5_tell_51 rfl ?_
        refine r_callV C (w' := (rlrn (st1 w (3, 0, 0) (0) (0)) 4 (v) (p))) [vI (v), vI (p)] 2 (c_X4_learns hG (Or.inl rfl) (by first | assumption | omega | exact hr _ _ | exact hr0 _ _ | exact hrI _ _ | exact ⟨by omega, by omega⟩ | exact bI_inR _ | (simp [st1] <;> omega) | exact rowR.so (by assumption) (by simp)) (by first | assumption | omega | exact hr _ _ | exact hr0 _ _ | exact hrI _ _ | exact ⟨by omega, by omega⟩ | exact bI_inR _ | (simp [st1] <;> omega) | exact rowR.so (by assumption) (by simp))) gX5_tell_X4_learns rfl rfl rfl (by decide +kernel) (Nat.le_of_ble_eq_true rfl) (Nat.le_of_ble_eq_true rfl) ⟨(Nat.zero_le _), (Nat.zero_le _)⟩ (ok_of hG (show kd (4, 0, 0) = _ from rfl) (by decide) (by decide)) (show kd (4, 0, 0) = _ from rfl) (by decide) rfl rfl rfl (Nat.le_of_ble_eq_true rfl) (st' := [vI (bI ((st1 w (3, 0, 0) (0) (0)) (4, 0, 6) (12 * (v) + (p)).toNat = -1))]) rfl dX5_tell_52 (fun hr => ?_)
        refine r_pop C dX5_tell_55 rfl ?_
        refine r_aload_n C (k := 0) dX5_tell_56 rfl ?_
        refine r_getf C 10 (v := .ref (adr G (4, 0, 0))) (ok_of hG (show kd (3, 0, 0) = _ from rfl) (by decide) (by decide)) (show kd (3, 0, 0) = _ from rfl) (by decide) rfl hinX5 (by decide) (by decide +kernel) rfl rfl dX5_tell_57 ?_
        refine r_iload_n C (k := 1) dX5_tell_60 rfl ?_
        refine r_iload_n C (k := 2) dX5_tell_61 rfl ?_
        refine r_callV C (w' := (rput (rlrn (st1 w (3, 0, 0) (0) (0)) 4 (v) (p)) 4 (v) (p))) [vI (v), vI (p)] 2 (c_X4_put hG (Or.inl rfl) (by first | assumption | omega | exact hr _ _ | exact hr0 _ _ | exact hrI _ _ | exact ⟨by omega, by omega⟩ | exact bI_inR _ | (simp [st1] <;> omega) | exact rowR.so (by assumption) (by simp)) (by first | assumption | omega | exact hr _ _ | exact hr0 _ _ | exact hrI _ _ | exact ⟨by omega, by omega⟩ | exact bI_inR _ | (simp [st1] <;> omega) | exact rowR.so (by assumption) (by simp)) (by rw [rlrn_off (by simp), st1_k (by simp)]; exact ⟨by omega, by omega⟩)) gX5_tell_X4_put rfl rfl rfl (by decide +kernel) (Nat.le_of_ble_eq_true rfl) (Nat.le_of_ble_eq_true rfl) ⟨(Nat.zero_le _), (Nat.zero_le _)⟩ (ok_of hG (show kd (4, 0, 0) = _ from rfl) (by decide) (by decide)) (show kd (4, 0, 0) = _ from rfl) (by decide) rfl rfl rfl (Nat.le_of_ble_eq_true rfl) (st' := []) rfl dX5_tell_62 (fun hr => ?_)
        refine r_aload_n C (k := 0) dX5_tell_65 rfl ?_
        refine r_getf C 10 (v := .ref (adr G (4, 0, 0))) (ok_of hG (show kd (3, 0, 0) = _ from rfl) (by decide) (by decide)) (show kd (3, 0, 0) = _ from rfl) (by decide) rfl hinX5 (by decide) (by decide +kernel) rfl rfl dX5_tell_66 ?_
        refine r_getfN (host := "DrumTalkModel") C 6 (v := .ref (adr G (4, 0, 4))) (ok_of hG (show kd (4, 0, 0) = _ from rfl) (by decide) (by decide)) (show kd (4, 0, 0) = _ from rfl) (by decide) rfl hinX4 (by decide) (by decide +kernel) rfl rfl dX5_tell_69 ?_
        refine r_iload_n C (k := 1) dX5_tell_72 rfl ?_
        refine r_iald C ((v).toNat) (ok_of hG (show kd (4, 0, 4) = _ from rfl) (by decide) (by decide)) (show kd (4, 0, 4) = _ from rfl) (Int.toNat_of_nonneg (by first | omega | assumption)).symm (by first | omega | assumption) (by decide) dX5_tell_73 ?_
        exact r_iret C dX5_tell_74 (by rw [if_pos ⟨by assumption, by assumption⟩, if_neg (by assumption)]; exact congrArg (fun z => some (vI z)) (by unfold rput; rw [st1_eq, rlrn_off (by simp), st1_k (by simp)])) (by (first | rfl | ((repeat' split) <;> first | rfl | contradiction | (exfalso; omega))))
      · skip
        refine r_aload_n C (k := 0) dX5_tell_40 rfl ?_
        refine r_iconst C dX5_tell_41 ?_
        refine r_callV C (w' := (st1 (st1 w (3, 0, 0) (0) (0)) (3, 0, 0) 0 (2))) [vI (2)] 1 (c_X5_no hG (by first | assumption | omega | exact hr _ _ | exact hr0 _ _ | exact hrI _ _ | exact ⟨by omega, by omega⟩ | exact bI_inR _ | (simp [st1] <;> omega) | exact rowR.so (by assumption) (by simp))) gX5_tell_X5_no rfl rfl rfl (by decide +kernel) (Nat.le_of_ble_eq_true rfl) (Nat.le_of_ble_eq_true rfl) ⟨(Nat.zero_le _), (Nat.zero_le _)⟩ (ok_of hG (show kd (3, 0, 0) = _ from rfl) (by decide) (by decide)) (show kd (3, 0, 0) = _ from rfl) (by decide) rfl rfl rfl (Nat.le_of_ble_eq_true rfl) (st' := [vI ((0))]) rfl dX5_tell_42 (fun hr => ?_)
        exact r_iret C dX5_tell_45 (by (first | rfl | ((repeat' split) <;> first | rfl | contradiction | (exfalso; omega)))) (by (first | rfl | ((repeat' split) <;> first | rfl | contradiction | (exfalso; omega))))
    · skip
      refine r_aload_n C (k := 0) dX5_tell_21 rfl ?_
      refine r_iconst C dX5_tell_22 ?_
      refine r_callV C (w' := (st1 (st1 w (3, 0, 0) (0) (0)) (3, 0, 0) 0 (1))) [vI (1)] 1 (c_X5_no hG (by first | assumption | omega | exact hr _ _ | exact hr0 _ _ | exact hrI _ _ | exact ⟨by omega, by omega⟩ | exact bI_inR _ | (simp [st1] <;> omega) | exact rowR.so (by assumption) (by simp))) gX5_tell_X5_no rfl rfl rfl (by decide +kernel) (Nat.le_of_ble_eq_true rfl) (Nat.le_of_ble_eq_true rfl) ⟨(Nat.zero_le _), (Nat.zero_le _)⟩ (ok_of hG (show kd (3, 0, 0) = _ from rfl) (by decide) (by decide)) (show kd (3, 0, 0) = _ from rfl) (by decide) rfl rfl rfl (Nat.le_of_ble_eq_true rfl) (st' := [vI ((0))]) rfl dX5_tell_23 (fun hr => ?_)
      exact r_iret C dX5_tell_26 (by (first | rfl | ((repeat' split) <;> first | rfl | contradiction | (exfalso; omega)))) (by (first | rfl | ((repeat' split) <;> first | rfl | contradiction | (exfalso; omega))))

set_option maxRecDepth 100000 in
set_option maxHeartbeats 8000000 in
theorem c_X5_queue {l : Launch} {G : Gt} (hG : Gok G)  {w : Mm} {v : Int} {p : Int} (hv : inR v) (hp : inR p) (hvb : 0 ≤ w (3, 0, 0) 1 ∧ w (3, 0, 0) 1 ≤ 8) (hq : rowR w (4, 0, 4) 8 0 5) : Con l G yX5_queue wsX5_queue ({ frames := 2, cells := 0, slots := 0, locals := 43 } : Room) w [.ref (adr G (3, 0, 0)), vI v, vI p] (some (vI ((if isV w v ∧ (0 ≤ p ∧ p ≤ w (4, 0, 4) (v).toNat - 1) then w (4, 0, 5) (5 * v + p).toNat else 0)))) ((if isV w v ∧ (0 ≤ p ∧ p ≤ w (4, 0, 4) (v).toNat - 1) then th0 w else thn w 1)) 0 0 := by
  refine Con.head (cc := cX5_queue) (nL := 3) (ret := (some .int)) hG (by decide +kernel) rfl (Nat.le_of_ble_eq_true rfl) ?_
  intro B A hBl C hr
  have hr0 := hr
  have hrI := hr
  have hinX4 : ∀ w ∈ u_ws RX4 TX4 16, w ∈ wsX5_queue := by decide +kernel
  have hinX5 : ∀ w ∈ u_ws RX5 TX5 12, w ∈ wsX5_queue := by decide +kernel
  obtain ⟨y1, y2⟩ := hvb
  have q4 : isV w v → 0 ≤ w (4, 0, 4) (v).toNat ∧ w (4, 0, 4) (v).toNat ≤ 5 := fun q => hq _ (by omega)
  refine r_aload_n C (k := 0) dX5_queue_0 rfl ?_
  refine r_iconst C dX5_queue_1 ?_
  refine r_putf C 0 hr ⟨by decide, by decide⟩ (ok_of hG (show kd (3, 0, 0) = _ from rfl) (by decide) (by decide)) (show kd (3, 0, 0) = _ from rfl) (by decide) rfl hinX5 tyX5_ok nmX5 (by decide) (by decide +kernel) rfl rfl (ty := .int) (by decide +kernel) rfl rfl rfl (Nat.le_of_ble_eq_true rfl) dX5_queue_2 (fun hr => ?_)
  refine r_aload_n C (k := 0) dX5_queue_5 rfl ?_
  refine r_iload_n C (k := 1) dX5_queue_6 rfl ?_
  refine r_callV C (w' := (st1 w (3, 0, 0) (0) (0))) [vI (v)] 1 (c_X5_isVillage hG (by first | assumption | omega | exact hr _ _ | exact hr0 _ _ | exact hrI _ _ | exact ⟨by omega, by omega⟩ | exact bI_inR _ | (simp [st1] <;> omega) | exact rowR.so (by assumption) (by simp)) (by first | assumption | omega | exact hr _ _ | exact hr0 _ _ | exact hrI _ _ | exact ⟨by omega, by omega⟩ | exact bI_inR _ | (simp [st1] <;> omega) | exact rowR.so (by assumption) (by simp))) gX5_queue_X5_isVillage rfl rfl rfl (by decide +kernel) (Nat.le_of_ble_eq_true rfl) (Nat.le_of_ble_eq_true rfl) ⟨(Nat.zero_le _), (Nat.zero_le _)⟩ (ok_of hG (show kd (3, 0, 0) = _ from rfl) (by decide) (by decide)) (show kd (3, 0, 0) = _ from rfl) (by decide) rfl rfl rfl (Nat.le_of_ble_eq_true rfl) (st' := [vI (bI (0 ≤ (v) ∧ (v) ≤ (w (3, 0, 0) (1)) - 1))]) rfl dX5_queue_7 (fun hr => ?_)
  refine r_if_eqP C (P := 0 ≤ (v) ∧ (v) ≤ (w (3, 0, 0) (1)) - 1) (tgt := 48) dX5_queue_10 (by decide) (fun h_1 => ?_) (fun h_1 => ?_)
  · skip
    refine r_aload_n C (k := 0) dX5_queue_48 rfl ?_
    refine r_iconst C dX5_queue_49 ?_
    refine r_callV C (w' := (st1 (st1 w (3, 0, 0) (0) (0)) (3, 0, 0) 0 (1))) [vI (1)] 1 (c_X5_no hG (by first | assumption | omega | exact hr _ _ | exact hr0 _ _ | exact hrI _ _ | exact ⟨by omega, by omega⟩ | exact bI_inR _ | (simp [st1] <;> omega) | exact rowR.so (by assumption) (by simp))) gX5_queue_X5_no rfl rfl rfl (by decide +kernel) (Nat.le_of_ble_eq_true rfl) (Nat.le_of_ble_eq_true rfl) ⟨(Nat.zero_le _), (Nat.zero_le _)⟩ (ok_of hG (show kd (3, 0, 0) = _ from rfl) (by decide) (by decide)) (show kd (3, 0, 0) = _ from rfl) (by decide) rfl rfl rfl (Nat.le_of_ble_eq_true rfl) (st' := [vI ((0))]) rfl dX5_queue_50 (fun hr => ?_)
    exact r_iret C dX5_queue_53 (by (first | rfl | ((repeat' split) <;> first | rfl | contradiction | (exfalso; omega)))) (by (first | rfl | ((repeat' split) <;> first | rfl | contradiction | (exfalso; omega))))
  · have q4 := q4 (by assumption)
    refine r_iload_n C (k := 2) dX5_queue_13 rfl ?_
    refine r_iconst C dX5_queue_14 ?_
    refine r_aload_n C (k := 0) dX5_queue_15 rfl ?_
    refine r_getf C 10 (v := .ref (adr G (4, 0, 0))) (ok_of hG (show kd (3, 0, 0) = _ from rfl) (by decide) (by decide)) (show kd (3, 0, 0) = _ from rfl) (by decide) rfl hinX5 (by decide) (by decide +kernel) rfl rfl dX5_queue_16 ?_
    refine r_getfN (host := "DrumTalkModel") C 6 (v := .ref (adr G (4, 0, 4))) (ok_of hG (show kd (4, 0, 0) = _ from rfl) (by decide) (by decide)) (show kd (4, 0, 0) = _ from rfl) (by decide) rfl hinX4 (by decide) (by decide +kernel) rfl rfl dX5_queue_19 ?_
    refine r_iload_n C (k := 1) dX5_queue_22 rfl ?_
    refine r_iald C ((v).toNat) (ok_of hG (show kd (4, 0, 4) = _ from rfl) (by decide) (by decide)) (show kd (4, 0, 4) = _ from rfl) (Int.toNat_of_nonneg (by first | omega | assumption)).symm (by first | omega | assumption) (by decide) dX5_queue_23 ?_
    refine Wm.top (z' := w (4, 0, 4) ((v).toNat)) (by simp [st1, cpy]) ?_
    refine r_iconst C dX5_queue_24 ?_
    refine r_isub C dX5_queue_25 ?_
    refine r_callS C (w' := (st1 w (3, 0, 0) (0) (0))) [vI (p), vI (0), vI ((w (4, 0, 4) ((v).toNat) - 1))] 3 (c_X5_isIn hG (by first | assumption | omega | exact hr _ _ | exact hr0 _ _ | exact hrI _ _ | exact ⟨by omega, by omega⟩ | exact bI_inR _ | (simp [st1] <;> omega) | exact rowR.so (by assumption) (by simp)) (by first | assumption | omega | exact hr _ _ | exact hr0 _ _ | exact hrI _ _ | exact ⟨by omega, by omega⟩ | exact bI_inR _ | (simp [st1] <;> omega) | exact rowR.so (by assumption) (by simp)) (by first | assumption | omega | exact hr _ _ | exact hr0 _ _ | exact hrI _ _ | exact ⟨by omega, by omega⟩ | exact bI_inR _ | (simp [st1] <;> omega) | exact rowR.so (by assumption) (by simp))) gX5_queue_X5_isIn rfl rfl rfl (by decide +kernel) (Nat.le_of_ble_eq_true rfl) (Nat.le_of_ble_eq_true rfl) ⟨(Nat.zero_le _), (Nat.zero_le _)⟩ rfl rfl (Nat.le_of_ble_eq_true rfl) (st' := [vI (bI ((0) ≤ (p) ∧ (p) ≤ ((w (4, 0, 4) ((v).toNat) - 1))))]) rfl dX5_queue_26 (fun hr => ?_)
    refine r_if_eqP C (P := (0) ≤ (p) ∧ (p) ≤ ((w (4, 0, 4) ((v).toNat) - 1))) (tgt := 48) dX5_queue_29 (by decide) (fun h_2 => ?_) (fun h_2 => ?_)
    · skip
      refine r_aload_n C (k := 0) dX5_queue_48 rfl ?_
      refine r_iconst C dX5_queue_49 ?_
      refine r_callV C (w' := (st1 (st1 w (3, 0, 0) (0) (0)) (3, 0, 0) 0 (1))) [vI (1)] 1 (c_X5_no hG (by first | assumption | omega | exact hr _ _ | exact hr0 _ _ | exact hrI _ _ | exact ⟨by omega, by omega⟩ | exact bI_inR _ | (simp [st1] <;> omega) | exact rowR.so (by assumption) (by simp))) gX5_queue_X5_no rfl rfl rfl (by decide +kernel) (Nat.le_of_ble_eq_true rfl) (Nat.le_of_ble_eq_true rfl) ⟨(Nat.zero_le _), (Nat.zero_le _)⟩ (ok_of hG (show kd (3, 0, 0) = _ from rfl) (by decide) (by decide)) (show kd (3, 0, 0) = _ from rfl) (by decide) rfl rfl rfl (Nat.le_of_ble_eq_true rfl) (st' := [vI ((0))]) rfl dX5_queue_50 (fun hr => ?_)
      exact r_iret C dX5_queue_53 (by (first | rfl | ((repeat' split) <;> first | rfl | contradiction | (exfalso; omega)))) (by (first | rfl | ((repeat' split) <;> first | rfl | contradiction | (exfalso; omega))))
    · skip
      refine r_aload_n C (k := 0) dX5_queue_32 rfl ?_
      refine r_getf C 10 (v := .ref (adr G (4, 0, 0))) (ok_of hG (show kd (3, 0, 0) = _ from rfl) (by decide) (by decide)) (show kd (3, 0, 0) = _ from rfl) (by decide) rfl hinX5 (by decide) (by decide +kernel) rfl rfl dX5_queue_33 ?_
      refine r_getfN (host := "DrumTalkModel") C 7 (v := .ref (adr G (4, 0, 5))) (ok_of hG (show kd (4, 0, 0) = _ from rfl) (by decide) (by decide)) (show kd (4, 0, 0) = _ from rfl) (by decide) rfl hinX4 (by decide) (by decide +kernel) rfl rfl dX5_queue_36 ?_
      refine r_iconst C dX5_queue_39 ?_
      refine r_iload_n C (k := 1) dX5_queue_40 rfl ?_
      refine r_imul C dX5_queue_41 ?_
      refine r_iload_n C (k := 2) dX5_queue_42 rfl ?_
      refine r_iadd C dX5_queue_43 ?_
      refine r_iald C ((((5 * v) + p)).toNat) (ok_of hG (show kd (4, 0, 5) = _ from rfl) (by decide) (by decide)) (show kd (4, 0, 5) = _ from rfl) (Int.toNat_of_nonneg (by first | omega | assumption)).symm (by first | omega | assumption) (by decide) dX5_queue_44 ?_
      refine Wm.top (z' := w (4, 0, 5) ((((5 * v) + p)).toNat)) (by simp [st1, cpy]) ?_
      refine r_goto C (tgt := 53) dX5_queue_45 (by decide) ?_
      exact r_iret C dX5_queue_53 (by (first | rfl | ((repeat' split) <;> first | rfl | contradiction | (exfalso; omega)))) (by (first | rfl | ((repeat' split) <;> first | rfl | contradiction | (exfalso; omega))))

set_option maxRecDepth 100000 in
set_option maxHeartbeats 8000000 in
theorem c_X5_knows {l : Launch} {G : Gt} (hG : Gok G)  {w : Mm} {v : Int} {p : Int} (hv : inR v) (hp : inR p) (hvb : 0 ≤ w (3, 0, 0) 1 ∧ w (3, 0, 0) 1 ≤ 8) (hpb : 0 ≤ w (3, 0, 0) 2 ∧ w (3, 0, 0) 2 ≤ 12) : Con l G yX5_knows wsX5_knows ({ frames := 2, cells := 0, slots := 0, locals := 43 } : Room) w [.ref (adr G (3, 0, 0)), vI v, vI p] (some (vI ((if isV w v ∧ isP w p then w (4, 0, 6) (12 * v + p).toNat else 0)))) ((if isV w v ∧ isP w p then th0 w else thn w 1)) 0 0 := by
  refine Con.head (cc := cX5_knows) (nL := 3) (ret := (some .int)) hG (by decide +kernel) rfl (Nat.le_of_ble_eq_true rfl) ?_
  intro B A hBl C hr
  have hr0 := hr
  have hrI := hr
  have hinX4 : ∀ w ∈ u_ws RX4 TX4 16, w ∈ wsX5_knows := by decide +kernel
  have hinX5 : ∀ w ∈ u_ws RX5 TX5 12, w ∈ wsX5_knows := by decide +kernel
  obtain ⟨y1, y2⟩ := hvb
  obtain ⟨z1, z2⟩ := hpb
  refine r_aload_n C (k := 0) dX5_knows_0 rfl ?_
  refine r_iconst C dX5_knows_1 ?_
  refine r_putf C 0 hr ⟨by decide, by decide⟩ (ok_of hG (show kd (3, 0, 0) = _ from rfl) (by decide) (by decide)) (show kd (3, 0, 0) = _ from rfl) (by decide) rfl hinX5 tyX5_ok nmX5 (by decide) (by decide +kernel) rfl rfl (ty := .int) (by decide +kernel) rfl rfl rfl (Nat.le_of_ble_eq_true rfl) dX5_knows_2 (fun hr => ?_)
  refine r_aload_n C (k := 0) dX5_knows_5 rfl ?_
  refine r_iload_n C (k := 1) dX5_knows_6 rfl ?_
  refine r_callV C (w' := (st1 w (3, 0, 0) (0) (0))) [vI (v)] 1 (c_X5_isVillage hG (by first | assumption | omega | exact hr _ _ | exact hr0 _ _ | exact hrI _ _ | exact ⟨by omega, by omega⟩ | exact bI_inR _ | (simp [st1] <;> omega) | exact rowR.so (by assumption) (by simp)) (by first | assumption | omega | exact hr _ _ | exact hr0 _ _ | exact hrI _ _ | exact ⟨by omega, by omega⟩ | exact bI_inR _ | (simp [st1] <;> omega) | exact rowR.so (by assumption) (by simp))) gX5_knows_X5_isVillage rfl rfl rfl (by decide +kernel) (Nat.le_of_ble_eq_true rfl) (Nat.le_of_ble_eq_true rfl) ⟨(Nat.zero_le _), (Nat.zero_le _)⟩ (ok_of hG (show kd (3, 0, 0) = _ from rfl) (by decide) (by decide)) (show kd (3, 0, 0) = _ from rfl) (by decide) rfl rfl rfl (Nat.le_of_ble_eq_true rfl) (st' := [vI (bI (0 ≤ (v) ∧ (v) ≤ (w (3, 0, 0) (1)) - 1))]) rfl dX5_knows_7 (fun hr => ?_)
  refine r_if_eqP C (P := 0 ≤ (v) ∧ (v) ≤ (w (3, 0, 0) (1)) - 1) (tgt := 38) dX5_knows_10 (by decide) (fun h_1 => ?_) (fun h_1 => ?_)
  · skip
    refine r_aload_n C (k := 0) dX5_knows_38 rfl ?_
    refine r_iconst C dX5_knows_39 ?_
    refine r_callV C (w' := (st1 (st1 w (3, 0, 0) (0) (0)) (3, 0, 0) 0 (1))) [vI (1)] 1 (c_X5_no hG (by first | assumption | omega | exact hr _ _ | exact hr0 _ _ | exact hrI _ _ | exact ⟨by omega, by omega⟩ | exact bI_inR _ | (simp [st1] <;> omega) | exact rowR.so (by assumption) (by simp))) gX5_knows_X5_no rfl rfl rfl (by decide +kernel) (Nat.le_of_ble_eq_true rfl) (Nat.le_of_ble_eq_true rfl) ⟨(Nat.zero_le _), (Nat.zero_le _)⟩ (ok_of hG (show kd (3, 0, 0) = _ from rfl) (by decide) (by decide)) (show kd (3, 0, 0) = _ from rfl) (by decide) rfl rfl rfl (Nat.le_of_ble_eq_true rfl) (st' := [vI ((0))]) rfl dX5_knows_40 (fun hr => ?_)
    exact r_iret C dX5_knows_43 (by (first | rfl | ((repeat' split) <;> first | rfl | contradiction | (exfalso; omega)))) (by (first | rfl | ((repeat' split) <;> first | rfl | contradiction | (exfalso; omega))))
  · skip
    refine r_aload_n C (k := 0) dX5_knows_13 rfl ?_
    refine r_iload_n C (k := 2) dX5_knows_14 rfl ?_
    refine r_callV C (w' := (st1 w (3, 0, 0) (0) (0))) [vI (p)] 1 (c_X5_isPhrase hG (by first | assumption | omega | exact hr _ _ | exact hr0 _ _ | exact hrI _ _ | exact ⟨by omega, by omega⟩ | exact bI_inR _ | (simp [st1] <;> omega) | exact rowR.so (by assumption) (by simp)) (by first | assumption | omega | exact hr _ _ | exact hr0 _ _ | exact hrI _ _ | exact ⟨by omega, by omega⟩ | exact bI_inR _ | (simp [st1] <;> omega) | exact rowR.so (by assumption) (by simp))) gX5_knows_X5_isPhrase rfl rfl rfl (by decide +kernel) (Nat.le_of_ble_eq_true rfl) (Nat.le_of_ble_eq_true rfl) ⟨(Nat.zero_le _), (Nat.zero_le _)⟩ (ok_of hG (show kd (3, 0, 0) = _ from rfl) (by decide) (by decide)) (show kd (3, 0, 0) = _ from rfl) (by decide) rfl rfl rfl (Nat.le_of_ble_eq_true rfl) (st' := [vI (bI (0 ≤ (p) ∧ (p) ≤ (w (3, 0, 0) (2)) - 1))]) rfl dX5_knows_15 (fun hr => ?_)
    refine r_if_eqP C (P := 0 ≤ (p) ∧ (p) ≤ (w (3, 0, 0) (2)) - 1) (tgt := 38) dX5_knows_18 (by decide) (fun h_2 => ?_) (fun h_2 => ?_)
    · skip
      refine r_aload_n C (k := 0) dX5_knows_38 rfl ?_
      refine r_iconst C dX5_knows_39 ?_
      refine r_callV C (w' := (st1 (st1 w (3, 0, 0) (0) (0)) (3, 0, 0) 0 (1))) [vI (1)] 1 (c_X5_no hG (by first | assumption | omega | exact hr _ _ | exact hr0 _ _ | exact hrI _ _ | exact ⟨by omega, by omega⟩ | exact bI_inR _ | (simp [st1] <;> omega) | exact rowR.so (by assumption) (by simp))) gX5_knows_X5_no rfl rfl rfl (by decide +kernel) (Nat.le_of_ble_eq_true rfl) (Nat.le_of_ble_eq_true rfl) ⟨(Nat.zero_le _), (Nat.zero_le _)⟩ (ok_of hG (show kd (3, 0, 0) = _ from rfl) (by decide) (by decide)) (show kd (3, 0, 0) = _ from rfl) (by decide) rfl rfl rfl (Nat.le_of_ble_eq_true rfl) (st' := [vI ((0))]) rfl dX5_knows_40 (fun hr => ?_)
      exact r_iret C dX5_knows_43 (by (first | rfl | ((repeat' split) <;> first | rfl | contradiction | (exfalso; omega)))) (by (first | rfl | ((repeat' split) <;> first | rfl | contradiction | (exfalso; omega))))
    · skip
      refine r_aload_n C (k := 0) dX5_knows_21 rfl ?_
      refine r_getf C 10 (v := .ref (adr G (4, 0, 0))) (ok_of hG (show kd (3, 0, 0) = _ from rfl) (by decide) (by decide)) (show kd (3, 0, 0) = _ from rfl) (by decide) rfl hinX5 (by decide) (by decide +kernel) rfl rfl dX5_knows_22 ?_
      refine r_getfN (host := "DrumTalkModel") C 8 (v := .ref (adr G (4, 0, 6))) (ok_of hG (show kd (4, 0, 0) = _ from rfl) (by decide) (by decide)) (show kd (4, 0, 0) = _ from rfl) (by decide) rfl hinX4 (by decide) (by decide +kernel) rfl rfl dX5_knows_25 ?_
      refine r_bipush C dX5_knows_28 (by decide) ?_
      refine r_iload_n C (k := 1) dX5_knows_30 rfl ?_
      refine r_imul C dX5_knows_31 ?_
      refine r_iload_n C (k := 2) dX5_knows_32 rfl ?_
      refine r_iadd C dX5_knows_33 ?_
      refine r_iald C ((((12 * v) + p)).toNat) (ok_of hG (show kd (4, 0, 6) = _ from rfl) (by decide) (by decide)) (show kd (4, 0, 6) = _ from rfl) (Int.toNat_of_nonneg (by first | omega | assumption)).symm (by first | omega | assumption) (by decide) dX5_knows_34 ?_
      refine Wm.top (z' := w (4, 0, 6) ((((12 * v) + p)).toNat)) (by simp [st1, cpy]) ?_
      refine r_goto C (tgt := 43) dX5_knows_35 (by decide) ?_
      exact r_iret C dX5_knows_43 (by (first | rfl | ((repeat' split) <;> first | rfl | contradiction | (exfalso; omega)))) (by (first | rfl | ((repeat' split) <;> first | rfl | contradiction | (exfalso; omega))))

set_option maxRecDepth 100000 in
set_option maxHeartbeats 8000000 in
theorem c_X5_sounds {l : Launch} {G : Gt} (hG : Gok G)  {w : Mm} {v : Int} (hv : inR v) (hvb : 0 ≤ w (3, 0, 0) 1 ∧ w (3, 0, 0) 1 ≤ 8) (hs : 0 ≤ w (4, 0, 0) 2 ∧ w (4, 0, 0) 2 ≤ 1024) : Con l G yX5_sounds wsX5_sounds ({ frames := 2, cells := 0, slots := 0, locals := 43 } : Room) w [.ref (adr G (3, 0, 0)), vI v] (some (vI ((if isV w v then ((rlast (th0 w) 4 v (w (4, 0, 0) 2).toNat : Nat) : Int) else 0)))) ((if isV w v then th0 w else thn w 1)) 0 0 := by
  refine Con.head (cc := cX5_sounds) (nL := 2) (ret := (some .int)) hG (by decide +kernel) rfl (Nat.le_of_ble_eq_true rfl) ?_
  intro B A hBl C hr
  have hr0 := hr
  have hrI := hr
  have hinX5 : ∀ w ∈ u_ws RX5 TX5 12, w ∈ wsX5_sounds := by decide +kernel
  obtain ⟨y1, y2⟩ := hvb
  refine r_aload_n C (k := 0) dX5_sounds_0 rfl ?_
  refine r_iconst C dX5_sounds_1 ?_
  refine r_putf C 0 hr ⟨by decide, by decide⟩ (ok_of hG (show kd (3, 0, 0) = _ from rfl) (by decide) (by decide)) (show kd (3, 0, 0) = _ from rfl) (by decide) rfl hinX5 tyX5_ok nmX5 (by decide) (by decide +kernel) rfl rfl (ty := .int) (by decide +kernel) rfl rfl rfl (Nat.le_of_ble_eq_true rfl) dX5_sounds_2 (fun hr => ?_)
  refine r_aload_n C (k := 0) dX5_sounds_5 rfl ?_
  refine r_iload_n C (k := 1) dX5_sounds_6 rfl ?_
  refine r_callV C (w' := (st1 w (3, 0, 0) (0) (0))) [vI (v)] 1 (c_X5_isVillage hG (by first | assumption | omega | exact hr _ _ | exact hr0 _ _ | exact hrI _ _ | exact ⟨by omega, by omega⟩ | exact bI_inR _ | (simp [st1] <;> omega) | exact rowR.so (by assumption) (by simp)) (by first | assumption | omega | exact hr _ _ | exact hr0 _ _ | exact hrI _ _ | exact ⟨by omega, by omega⟩ | exact bI_inR _ | (simp [st1] <;> omega) | exact rowR.so (by assumption) (by simp))) gX5_sounds_X5_isVillage rfl rfl rfl (by decide +kernel) (Nat.le_of_ble_eq_true rfl) (Nat.le_of_ble_eq_true rfl) ⟨(Nat.zero_le _), (Nat.zero_le _)⟩ (ok_of hG (show kd (3, 0, 0) = _ from rfl) (by decide) (by decide)) (show kd (3, 0, 0) = _ from rfl) (by decide) rfl rfl rfl (Nat.le_of_ble_eq_true rfl) (st' := [vI (bI (0 ≤ (v) ∧ (v) ≤ (w (3, 0, 0) (1)) - 1))]) rfl dX5_sounds_7 (fun hr => ?_)
  refine r_if_eqP C (P := 0 ≤ (v) ∧ (v) ≤ (w (3, 0, 0) (1)) - 1) (tgt := 24) dX5_sounds_10 (by decide) (fun h_1 => ?_) (fun h_1 => ?_)
  · skip
    refine r_aload_n C (k := 0) dX5_sounds_24 rfl ?_
    refine r_iconst C dX5_sounds_25 ?_
    refine r_callV C (w' := (st1 (st1 w (3, 0, 0) (0) (0)) (3, 0, 0) 0 (1))) [vI (1)] 1 (c_X5_no hG (by first | assumption | omega | exact hr _ _ | exact hr0 _ _ | exact hrI _ _ | exact ⟨by omega, by omega⟩ | exact bI_inR _ | (simp [st1] <;> omega) | exact rowR.so (by assumption) (by simp))) gX5_sounds_X5_no rfl rfl rfl (by decide +kernel) (Nat.le_of_ble_eq_true rfl) (Nat.le_of_ble_eq_true rfl) ⟨(Nat.zero_le _), (Nat.zero_le _)⟩ (ok_of hG (show kd (3, 0, 0) = _ from rfl) (by decide) (by decide)) (show kd (3, 0, 0) = _ from rfl) (by decide) rfl rfl rfl (Nat.le_of_ble_eq_true rfl) (st' := [vI ((0))]) rfl dX5_sounds_26 (fun hr => ?_)
    exact r_iret C dX5_sounds_29 (by (first | rfl | ((repeat' split) <;> first | rfl | contradiction | (exfalso; omega)))) (by (first | rfl | ((repeat' split) <;> first | rfl | contradiction | (exfalso; omega))))
  · skip
    refine r_aload_n C (k := 0) dX5_sounds_13 rfl ?_
    refine r_getf C 10 (v := .ref (adr G (4, 0, 0))) (ok_of hG (show kd (3, 0, 0) = _ from rfl) (by decide) (by decide)) (show kd (3, 0, 0) = _ from rfl) (by decide) rfl hinX5 (by decide) (by decide +kernel) rfl rfl dX5_sounds_14 ?_
    refine r_iload_n C (k := 1) dX5_sounds_17 rfl ?_
    refine r_callV C (w' := (st1 w (3, 0, 0) (0) (0))) [vI (v)] 1 (c_X4_lasting hG (Or.inl rfl) (by first | assumption | omega | exact hr _ _ | exact hr0 _ _ | exact hrI _ _ | exact ⟨by omega, by omega⟩ | exact bI_inR _ | (simp [st1] <;> omega) | exact rowR.so (by assumption) (by simp)) (by first | assumption | omega | exact hr _ _ | exact hr0 _ _ | exact hrI _ _ | exact ⟨by omega, by omega⟩ | exact bI_inR _ | (simp [st1] <;> omega) | exact rowR.so (by assumption) (by simp))) gX5_sounds_X4_lasting rfl rfl rfl (by decide +kernel) (Nat.le_of_ble_eq_true rfl) (Nat.le_of_ble_eq_true rfl) ⟨(Nat.zero_le _), (Nat.zero_le _)⟩ (ok_of hG (show kd (4, 0, 0) = _ from rfl) (by decide) (by decide)) (show kd (4, 0, 0) = _ from rfl) (by decide) rfl rfl rfl (Nat.le_of_ble_eq_true rfl) (st' := [vI ((((rlast (st1 w (3, 0, 0) (0) (0)) 4 (v) ((st1 w (3, 0, 0) (0) (0)) (4, 0, 0) 2).toNat : Nat) : Int)))]) rfl dX5_sounds_18 (fun hr => ?_)
    refine r_goto C (tgt := 29) dX5_sounds_21 (by decide) ?_
    exact r_iret C dX5_sounds_29 (by (first | rfl | ((repeat' split) <;> first | rfl | contradiction | (exfalso; omega)))) (by (first | rfl | ((repeat' split) <;> first | rfl | contradiction | (exfalso; omega))))
