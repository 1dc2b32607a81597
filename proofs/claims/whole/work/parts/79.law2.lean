/-! known, digest, and the loop -/
theorem r_dcmp {B : Bx} {nL : Nat} {G : Gt} {A : Nat → Prop} {cc : ByteArray} {own : String} {Ts : List Cond} {ret : Option FieldType} {Rm : Room} {Q : State → Prop} {w : Mm} {cells slots pc : Nat} {lv : List (Nat × Value)} {st : List Value} (C : Cx B nL G A cc own Ts ret Rm) {x y : UInt64} {op : CmpOp} {z : Int} (hz : (Op.cmpValue (FP.dcmp x y) op).toInt = z) (hd : decode cc pc = .ok (.dcmp op, 1)) (kk : Wm B nL G A Q w cells slots (pc + 1) lv (vI z :: st)) : Wm B nL G A Q w cells slots pc lv (.double y :: .double x :: st) := by
  obtain ⟨p, l, e, R, s, m, args, below, meth, c⟩ := B
  intro H locs ls hP hS hl
  subst hz
  refine lv_dcmp C.1 C.2.1 hd ?_
  have e1 : (Value.int (Op.cmpValue (FP.dcmp x y) op)) = vI (Op.cmpValue (FP.dcmp x y) op).toInt := by
    show Value.int _ = Value.int (Int32.ofInt _)
    rw [Int32.ofInt_toInt]
  rw [e1]
  exact kk H locs ls hP hS hl
theorem law_known {B : Bx} {G : Gt} {A : Nat → Prop} {Q : State → Prop} {b L : Nat} {xs : Nat → Int32} (Z : Lw B G A b L xs) {c ce sl : Nat} {w : Mm} (hI : GI c w) (hc : c < 512) (hr : rng w) (hce : ce + 1000 ≤ 601024) (hsl : sl + 14000 ≤ 7293034) (K : ∀ w', GI ((c : Int) + 1) w' → rng w' → Wm B 9 G A Q w' (ce + 1000) (sl + 14000) 1254 (LV G b ((4 * c : Nat) : Int)) []) : Wm B 9 G A Q w ce sl 1199 (LV G b ((4 * c : Nat) : Int)) [] := by
  obtain ⟨C, hE, hl9, hX, hbl, hbA, hL9, h7, h71⟩ := Z
  have hG : Gok G := C.2.2.2.2.2.2.1
  have ok2 : okk G (2, 0, 0) := hG.2 _ (by decide) (by decide)
  have ok3 : okk G (3, 0, 0) := hG.2 _ (by decide) (by decide)
  have hL := hI.1.1
  have hM := hI.2.1.2.2
  obtain ⟨x, hx⟩ : ∃ x, x = dpk (w (0, 8, 0) 1 * w (0, 8, 0) 4) (s0prs w 0) := ⟨_, rfl⟩
  obtain ⟨z, hz⟩ : ∃ z, (Op.cmpValue (FP.dcmp x x) .l).toInt = z := ⟨_, rfl⟩
  have hzR : inR z := by rw [← hz]; exact inR_of _
  have hM1 : Con B.2.1 G yX3_known wsX3_known ({ frames := 3, cells := 0, slots := 0, locals := 65 } : Room) w [.ref (adr G (2, 0, 0))] (some (.double x)) w 0 0 := by
    rw [hx]
    exact c_X3_known hG hL.1 hL.2.1
  have hM2 : Con B.2.1 G yX5_known wsX5_known ({ frames := 2, cells := 0, slots := 0, locals := 45 } : Room) w [.ref (adr G (3, 0, 0))] (some (.double x)) (th0 w) 0 0 := by
    rw [hx, known_eq hI]
    exact c_X5_known hG hM.1 hM.2.1
  refine r_aload_n (k := 2) C dL_law_1199 rfl ?_
  refine r_callV (rest := []) (k0 := (2, 0, 0)) (ci := 3) (nk := 0) C [] 0 hM1 gL_law_X3_known rfl rfl rfl ⟨rfl, by decide, by decide, by decide +kernel⟩ (by decide) (by decide) ⟨by show ce + 0 ≤ 601024; omega, by show sl + 0 ≤ 7293034; omega⟩ ok2 rfl (by decide) rfl rfl rfl (Nat.le_of_ble_eq_true rfl) rfl dL_law_1200 (fun hr1 => ?_)
  refine r_dstore (lv' := (5, .double x) :: LV G b ((4 * c : Nat) : Int)) C dL_law_1203 (by decide) rfl ?_
  refine r_aload_n (k := 4) C dL_law_1205 rfl ?_
  refine r_callV (rest := []) (k0 := (3, 0, 0)) (ci := 5) (nk := 0) C [] 0 hM2 gL_law_X5_known rfl rfl rfl ⟨rfl, by decide, by decide, by decide +kernel⟩ (by decide) (by decide) ⟨by show ce + 0 + 0 ≤ 601024; omega, by show sl + 0 + 0 ≤ 7293034; omega⟩ ok3 rfl (by decide) rfl rfl rfl (Nat.le_of_ble_eq_true rfl) rfl dL_law_1206 (fun hr2 => ?_)
  refine r_dstore (lv' := (7, .double x) :: (5, .double x) :: LV G b ((4 * c : Nat) : Int)) C dL_law_1209 (by decide) rfl ?_
  have fin : Wm B 9 G A Q (th0 w) (ce + 0 + 0) (sl + 0 + 0) 1237 ((7, .double x) :: (5, .double x) :: LV G b ((4 * c : Nat) : Int)) [] := by
    refine r_goto (tgt := 1254) C dL_law_1237 rfl ?_
    refine Wm.sub (lv' := LV G b ((4 * c : Nat) : Int)) [2, 3, 4, 5, 6] rfl ?_
    exact Wm.ge (by omega) (by omega) (K (th0 w) (GI_th0 hI) hr2)
  refine r_dload (k := 1) C dL_law_1211 rfl ?_
  refine r_dload (k := 0) C dL_law_1213 rfl ?_
  refine r_dcmp C hz dL_law_1215 ?_
  refine r_if_eq (tgt := 1237) C dL_law_1216 rfl hzR (fun _ => fin) (fun hz0 => ?_)
  refine r_dload (k := 1) C dL_law_1219 rfl ?_
  refine r_dload (k := 1) C dL_law_1221 rfl ?_
  refine r_dcmp C hz dL_law_1223 ?_
  refine r_if_eq (tgt := 1235) C dL_law_1224 rfl hzR (fun h => absurd h hz0) (fun _ => ?_)
  refine r_dload (k := 0) C dL_law_1227 rfl ?_
  refine r_dload (k := 0) C dL_law_1229 rfl ?_
  refine r_dcmp C hz dL_law_1231 ?_
  exact r_if_ne (tgt := 1237) C dL_law_1232 rfl hzR (fun _ => fin) (fun h => absurd h hz0)
theorem law_digest {B : Bx} {G : Gt} {A : Nat → Prop} {Q : State → Prop} {b L : Nat} {xs : Nat → Int32} (Z : Lw B G A b L xs) {c ce sl : Nat} {w : Mm} (hI : GI c w) (hc : c < 512) (hr : rng w) (hce : ce + 1000 ≤ 601024) (hsl : sl + 14000 ≤ 7293034) (K : ∀ w', GI ((c : Int) + 1) w' → rng w' → Wm B 9 G A Q w' (ce + 1000) (sl + 14000) 1254 (LV G b ((4 * c : Nat) : Int)) []) : Wm B 9 G A Q w ce sl 1240 (LV G b ((4 * c : Nat) : Int)) [] := by
  obtain ⟨C, hE, hl9, hX, hbl, hbA, hL9, h7, h71⟩ := Z
  have hG : Gok G := C.2.2.2.2.2.2.1
  have ok2 : okk G (2, 0, 0) := hG.2 _ (by decide) (by decide)
  have ok3 : okk G (3, 0, 0) := hG.2 _ (by decide) (by decide)
  have hL := hI.1.1
  have hM := hI.2.1.2.2
  have hS := hI.2.1.1
  obtain ⟨x, hx⟩ : ∃ x, x = dgX w := ⟨_, rfl⟩
  have hM1 : Con B.2.1 G yX3_digest wsX3_digest ({ frames := 4, cells := 0, slots := 0, locals := 91 } : Room) w [.ref (adr G (2, 0, 0))] (some (.long x)) w 0 0 := by
    rw [hx]
    exact c_X3_digest hG hL ⟨by omega, by omega, fun u _ => by show 22400 * (c : Int) ≤ 100000000; omega⟩
  have hM2 : Con B.2.1 G yX5_digest wsX5_digest ({ frames := 3, cells := 88, slots := 864, locals := 69 } : Room) w [.ref (adr G (3, 0, 0))] (some (.long x)) (th0 w) 88 864 := by
    rw [hx, dig_eq hI]
    exact c_X5_digest hG hM.1 hM.2.1 hS hM (by omega) (GR_R ⟨by omega, by omega⟩ hI.2.1).1 (GR_R ⟨by omega, by omega⟩ hI.2.1).2 h7 h71
  refine r_aload_n (k := 2) C dL_law_1240 rfl ?_
  refine r_callV (rest := []) (k0 := (2, 0, 0)) (ci := 3) (nk := 0) C [] 0 hM1 gL_law_X3_digest rfl rfl rfl ⟨rfl, by decide, by decide, by decide +kernel⟩ (by decide) (by decide) ⟨by show ce + 0 ≤ 601024; omega, by show sl + 0 ≤ 7293034; omega⟩ ok2 rfl (by decide) rfl rfl rfl (Nat.le_of_ble_eq_true rfl) rfl dL_law_1241 (fun hr1 => ?_)
  refine r_aload_n (k := 3) C dL_law_1244 rfl ?_
  refine r_callV (rest := [.long x]) (k0 := (3, 0, 0)) (ci := 5) (nk := 0) C [] 0 hM2 gL_law_X5_digest rfl rfl rfl ⟨rfl, by decide, by decide, by decide +kernel⟩ (by decide) (by decide) ⟨by show ce + 0 + 88 ≤ 601024; omega, by show sl + 0 + 864 ≤ 7293034; omega⟩ ok3 rfl (by decide) rfl rfl rfl (Nat.le_of_ble_eq_true rfl) rfl dL_law_1245 (fun hr2 => ?_)
  refine r_lcmpE C rfl dL_law_1248 ?_
  refine r_if_eq (tgt := 1254) C dL_law_1249 rfl ⟨by decide, by decide⟩ (fun _ => ?_) (fun h => absurd rfl h)
  exact Wm.ge (by omega) (by omega) (K (th0 w) (GI_th0 hI) hr2)
theorem law_loop {B : Bx} {G : Gt} {A : Nat → Prop} {Q : State → Prop} {b L : Nat} {xs : Nat → Int32} (Z : Lw B G A b L xs) (KE : ∀ w ce sl lv, ce ≤ 601024 → sl ≤ 7293034 → Wm B 9 G A Q w ce sl 1260 lv []) : ∀ (m c ce sl : Nat) (w : Mm), L < 4 * c + 4 * m + 4 → c ≤ 512 → GI c w → rng w → ce ≤ 1000 + 1000 * c → sl ≤ 20000 + 14000 * c → Wm B 9 G A Q w ce sl 23 (LV G b ((4 * c : Nat) : Int)) [] := by
  have Z0 := Z
  obtain ⟨C, hE, hl9, hX, hbl, hbA, hL9, h7, h71⟩ := Z
  intro m
  induction m with
  | zero =>
    intro c ce sl w hm hc hI hr hce hsl
    refine r_iload (k := 0) C dL_law_23 rfl ?_
    refine r_aload_n (k := 1) C dL_law_25 rfl ?_
    refine r_slen C hX hbl hbA dL_law_26 ?_
    refine r_iconst C dL_law_27 ?_
    refine r_isub C dL_law_28 ?_
    refine r_icmp_gt (tgt := 1260) C dL_law_29 rfl ⟨by omega, by omega⟩ ⟨by omega, by omega⟩ (fun _ => ?_) (fun h => by omega)
    exact KE _ _ _ _ (by omega) (by omega)
  | succ m ih =>
    intro c ce sl w hm hc hI hr hce hsl
    refine r_iload (k := 0) C dL_law_23 rfl ?_
    refine r_aload_n (k := 1) C dL_law_25 rfl ?_
    refine r_slen C hX hbl hbA dL_law_26 ?_
    refine r_iconst C dL_law_27 ?_
    refine r_isub C dL_law_28 ?_
    refine r_icmp_gt (tgt := 1260) C dL_law_29 rfl ⟨by omega, by omega⟩ ⟨by omega, by omega⟩ (fun _ => ?_) (fun h9 => ?_)
    · exact KE _ _ _ _ (by omega) (by omega)
    have hb9 : 4 * c + 4 ≤ L := by omega
    have hc9 : c < 512 := by omega
    have K : ∀ w', GI ((c : Int) + 1) w' → rng w' → Wm B 9 G A Q w' (ce + 1000) (sl + 14000) 1254 (LV G b ((4 * c : Nat) : Int)) [] := by
      intro w' hI' hr'
      refine r_iinc (k := 0) (lv' := LV G b (((4 * c : Nat) : Int) + 4)) C dL_law_1254 rfl (by decide) rfl ?_
      refine r_goto (tgt := 23) C dL_law_1257 rfl ?_
      have e : (((4 * c : Nat) : Int) + 4) = ((4 * (c + 1) : Nat) : Int) := by omega
      rw [e]
      exact ih (c + 1) _ _ w' (by omega) (by omega) (by rw [show ((c + 1 : Nat) : Int) = (c : Int) + 1 by omega]; exact hI') hr' (by omega) (by omega)
    obtain ⟨y, hy⟩ : ∃ y, (xs (4 * c)).toInt = y := ⟨_, rfl⟩
    obtain ⟨a, ha⟩ : ∃ a, a = (Int32.ofInt y &&& Int32.ofInt 31).toInt := ⟨_, rfl⟩
    have haR : inR a := by rw [ha]; exact inR_of _
    refine r_aload_n (k := 1) C dL_law_32 rfl ?_
    refine r_iload (k := 0) C dL_law_33 rfl ?_
    refine r_sld C hX hbl hbA (4 * c) hy rfl (by omega) hL9 dL_law_35 ?_
    refine r_bipush C dL_law_36 rfl ?_
    refine r_iand (c9 := a) C dL_law_38 (by rw [ha, Int32.ofInt_toInt]) ?_
    by_cases hin : 0 ≤ a ∧ a ≤ 17
    · have h18 : a = 0 ∨ a = 1 ∨ a = 2 ∨ a = 3 ∨ a = 4 ∨ a = 5 ∨ a = 6 ∨ a = 7 ∨ a = 8 ∨ a = 9 ∨ a = 10 ∨ a = 11 ∨ a = 12 ∨ a = 13 ∨ a = 14 ∨ a = 15 ∨ a = 16 ∨ a = 17 := by omega
      clear ha
      rcases h18 with rfl | rfl | rfl | rfl | rfl | rfl | rfl | rfl | rfl | rfl | rfl | rfl | rfl | rfl | rfl | rfl | rfl | rfl
      · refine r_tsIn (off := 85) (tgt := 124) C dL_law_39 haR (by decide) (by decide) rfl rfl ?_
        exact law_found Z0 hI hc9 hr hb9 (by omega) (by omega) K
      · refine r_tsIn (off := 165) (tgt := 204) C dL_law_39 haR (by decide) (by decide) rfl rfl ?_
        exact law_setDrum Z0 hI hc9 hr hb9 (by omega) (by omega) K
      · refine r_tsIn (off := 233) (tgt := 272) C dL_law_39 haR (by decide) (by decide) rfl rfl ?_
        by_cases hz : (xs (4 * c + 2)).toInt = 0
        · exact law_setCliff0 Z0 hI hc9 hr hb9 (by omega) (by omega) hz K
        · exact law_setCliff1 Z0 hI hc9 hr hb9 (by omega) (by omega) hz K
      · refine r_tsIn (off := 324) (tgt := 363) C dL_law_39 haR (by decide) (by decide) rfl rfl ?_
        exact law_setAwake Z0 hI hc9 hr hb9 (by omega) (by omega) K
      · refine r_tsIn (off := 404) (tgt := 443) C dL_law_39 haR (by decide) (by decide) rfl rfl ?_
        exact law_phrase Z0 hI hc9 hr hb9 (by omega) (by omega) K
      · refine r_tsIn (off := 460) (tgt := 499) C dL_law_39 haR (by decide) (by decide) rfl rfl ?_
        exact law_tell Z0 hI hc9 hr hb9 (by omega) (by omega) K
      · refine r_tsIn (off := 528) (tgt := 567) C dL_law_39 haR (by decide) (by decide) rfl rfl ?_
        exact law_village Z0 hI hc9 hr hb9 (by omega) (by omega) K
      · refine r_tsIn (off := 596) (tgt := 635) C dL_law_39 haR (by decide) (by decide) rfl rfl ?_
        exact law_queue Z0 hI hc9 hr hb9 (by omega) (by omega) K
      · refine r_tsIn (off := 664) (tgt := 703) C dL_law_39 haR (by decide) (by decide) rfl rfl ?_
        exact law_knows Z0 hI hc9 hr hb9 (by omega) (by omega) K
      · refine r_tsIn (off := 732) (tgt := 771) C dL_law_39 haR (by decide) (by decide) rfl rfl ?_
        exact law_sounds Z0 hI hc9 hr hb9 (by omega) (by omega) K
      · refine r_tsIn (off := 788) (tgt := 827) C dL_law_39 haR (by decide) (by decide) rfl rfl ?_
        exact law_count Z0 hI hc9 hr hb9 (by omega) (by omega) K
      · refine r_tsIn (off := 844) (tgt := 883) C dL_law_39 haR (by decide) (by decide) rfl rfl ?_
        exact law_way Z0 hI hc9 hr hb9 (by omega) (by omega) K
      · refine r_tsIn (off := 912) (tgt := 951) C dL_law_39 haR (by decide) (by decide) rfl rfl ?_
        exact law_pass Z0 hI hc9 hr hb9 (by omega) (by omega) K
      · refine r_tsIn (off := 968) (tgt := 1007) C dL_law_39 haR (by decide) (by decide) rfl rfl ?_
        exact law_reaches Z0 hI hc9 hr hb9 (by omega) (by omega) K
      · refine r_tsIn (off := 1036) (tgt := 1075) C dL_law_39 haR (by decide) (by decide) rfl rfl ?_
        exact law_best Z0 hI hc9 hr hb9 (by omega) (by omega) K
      · refine r_tsIn (off := 1104) (tgt := 1143) C dL_law_39 haR (by decide) (by decide) rfl rfl ?_
        exact law_larger Z0 hI hc9 hr hb9 (by omega) (by omega) K
      · refine r_tsIn (off := 1160) (tgt := 1199) C dL_law_39 haR (by decide) (by decide) rfl rfl ?_
        exact law_known Z0 hI hc9 hr (by omega) (by omega) K
      · refine r_tsIn (off := 1201) (tgt := 1240) C dL_law_39 haR (by decide) (by decide) rfl rfl ?_
        exact law_digest Z0 hI hc9 hr (by omega) (by omega) K
    · refine r_tsOut (tgt := 1254) C dL_law_39 haR (by omega) rfl ?_
      exact Wm.ge (by omega) (by omega) (K w (GI_ro hI (fun _ _ _ _ _ _ => rfl)) hr)
