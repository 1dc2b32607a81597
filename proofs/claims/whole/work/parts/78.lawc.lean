/-! the law's cases -/
def LV (G : Gt) (b : Nat) (i : Int) : List (Nat × Value) := [(4, vI i), (0, .ref b), (1, .ref (adr G (2, 0, 0))), (2, .ref (adr G (3, 0, 0))), (3, .ref (adr G (6, 0, 0)))]
abbrev LV5 (G : Gt) (b : Nat) (i k : Int) : List (Nat × Value) := (5, vI k) :: LV G b i
abbrev LV6 (G : Gt) (b : Nat) (i k x : Int) : List (Nat × Value) := (6, vI x) :: (5, vI k) :: LV G b i
/-- what stands while the law runs -/
def Lw (B : Bx) (G : Gt) (A : Nat → Prop) (b L : Nat) (xs : Nat → Int32) : Prop := Cx B 9 G A cL_law RL wsL_law (some .boolean) room_1 ∧ Ex B.2.2.2.2.1 ∧ B.2.1.stackTraces = false ∧ va_X b L xs B.2.2.2.2.1 B.2.2.2.2.1.heap ∧ b < B.2.2.2.2.1.heap.size ∧ ¬ A b ∧ L ≤ 2048 ∧ ¬ okk G (7, 0, 0) ∧ ¬ okk G (7, 0, 1)
theorem of_ite {P : Prop} [Decidable P] {e : String} (h : (if P then (none : Option String) else some e) = none) : P := by
  by_cases hp : P
  · exact hp
  · rw [if_neg hp] at h
    cases h
theorem wr6_t {o : Option String} {w w' : Mm} {v : Int} (h : o = none → ∀ t i p j, 2 ≤ t → w' (t, i, p) j = w (t, i, p) j) : ∀ t i p j, 2 ≤ t → t ≠ 6 → wr6 o w w' v (t, i, p) j = w (t, i, p) j := by
  intro t i p j ht h6
  cases o with
  | none =>
    show st1 w' (6, 0, 0) 0 v (t, i, p) j = _
    rw [k_6 h6]
    exact h rfl t i p j ht
  | some E => rfl
theorem cd_R {E1 : String} {o : Option String} : inR (cd E1 o) := by
  unfold cd
  split
  · exact ⟨by decide, by decide⟩
  · split
    · exact ⟨by decide, by decide⟩
    · exact ⟨by decide, by decide⟩
theorem larger_sl {c : Int} {w : Mm} {n : Int} (h : GI c w) (c1 : 1 ≤ n ∧ n ≤ 100) : sloc 1 w (llg (s0go 1 n.toNat (s0cp w 1 0)).1 (s0prs (s0go 1 n.toNat (s0cp w 1 0)).1 1) n.toNat (w (0, 8, 0) 1).toNat).1 := by
  have hc := h.nn
  have hV := h.1.1.1
  obtain ⟨N1, D1, hL1⟩ := h.1.2
  have sW : sloc 1 w (s0go 1 n.toNat (s0cp w 1 0)).1 := s0cp_sl.tr (s0go_sl _)
  have hLW := h.1.1.sl sW (by decide)
  have hLW1 : LI (s0go 1 n.toNat (s0cp w 1 0)).1 1 (200 * c + n.toNat) (1600 * c + 8 * n.toNat) (fun _ => 300000 * (c + 1) + 11200) := (LI_go n.toNat (LI_cp (by decide) h.1.1 hL1)).mono (by omega) (by omega) (fun u _ => by
      show max (22400 * c) (300000 * (c + 1)) + 112 * ((n.toNat : Nat) : Int) ≤ 300000 * (c + 1) + 11200
      omega)
  obtain ⟨l1, l2⟩ := llg_inv (m0 := s0prs (s0go 1 n.toNat (s0cp w 1 0)).1 1) hLW hLW1 (fun u _ => by show 22400 * c ≤ 300000 * (c + 1) + 11200; omega) (by omega) (w (0, 8, 0) 1).toNat (by rw [sW _ _ (by decide)]; omega)
  exact sW.tr l1
theorem law_found {B : Bx} {G : Gt} {A : Nat → Prop} {Q : State → Prop} {b L : Nat} {xs : Nat → Int32} (Z : Lw B G A b L xs) {c ce sl : Nat} {w : Mm} (hI : GI c w) (hc : c < 512) (hr : rng w) (hb9 : 4 * c + 4 ≤ L) (hce : ce + 1000 ≤ 601024) (hsl : sl + 14000 ≤ 7293034) (K : ∀ w', GI ((c : Int) + 1) w' → rng w' → Wm B 9 G A Q w' (ce + 1000) (sl + 14000) 1254 (LV G b ((4 * c : Nat) : Int)) []) : Wm B 9 G A Q w ce sl 124 (LV G b ((4 * c : Nat) : Int)) [] := by
  obtain ⟨C, hE, hl9, hX, hbl, hbA, hL9, h7, h71⟩ := Z
  have hG : Gok G := C.2.2.2.2.2.2.1
  have ok3 : okk G (3, 0, 0) := hG.2 _ (by decide) (by decide)
  have ok6 : okk G (6, 0, 0) := hG.2 _ (by decide) (by decide)
  have hL := hI.1.1
  obtain ⟨N1, D1, hL1⟩ := hI.1.2
  obtain ⟨x, hx9⟩ : ∃ x, (xs (4 * c + 1)).toInt = x := ⟨_, rfl⟩
  have hx : inR x := by rw [← hx9]; exact inR_of _
  obtain ⟨y, hy9⟩ : ∃ y, (xs (4 * c + 2)).toInt = y := ⟨_, rfl⟩
  have hy : inR y := by rw [← hy9]; exact inR_of _
  obtain ⟨d, hd9⟩ : ∃ d, (xs (4 * c + 3)).toInt = d := ⟨_, rfl⟩
  have hd : inR d := by rw [← hd9]; exact inR_of _
  obtain ⟨W, hW⟩ : ∃ W, W = wr6 (if (0 ≤ x ∧ x ≤ 30) ∧ (0 ≤ y ∧ y ≤ 30) ∧ (1 ≤ d ∧ d ≤ 9) then (if w (0, 8, 0) 1 < 8 ∧ ¬ s0has w 0 x y then none else eS) else eA) w (s0addV w 0 x y d) (w (0, 8, 0) 1) := ⟨_, rfl⟩
  obtain ⟨k, hk⟩ : ∃ k, k = cd xA (if (0 ≤ x ∧ x ≤ 30) ∧ (0 ≤ y ∧ y ≤ 30) ∧ (1 ≤ d ∧ d ≤ 9) then (if w (0, 8, 0) 1 < 8 ∧ ¬ s0has w 0 x y then none else eS) else eA) := ⟨_, rfl⟩
  have hWt : ∀ t i p j, 2 ≤ t → t ≠ 6 → W (t, i, p) j = w (t, i, p) j := by rw [hW]; exact wr6_t (fun _ t i p j ht => by unfold s0addV; split <;> simp [st1, show t ≠ 0 by omega])
  have hGW := GR_w hI.2.1 hWt
  obtain ⟨hS, ⟨N5, D5, X5, hS5⟩, hM⟩ := id hGW
  have hM1 : ConW B.2.1 G yL_found wsL_found { frames := 7, cells := 1, slots := 6, locals := 8 + (4 + 11) + 82 } w [.ref (adr G (2, 0, 0)), vI x, vI y, vI d, .ref (adr G (6, 0, 0))] (some (vI k)) W 1 6 := by
    rw [hk, hW]
    exact c_L_found (o := (if (0 ≤ x ∧ x ≤ 30) ∧ (0 ≤ y ∧ y ≤ 30) ∧ (1 ≤ d ∧ d ≤ 9) then (if w (0, 8, 0) 1 < 8 ∧ ¬ s0has w 0 x y then none else eS) else eA)) (w' := (s0addV w 0 x y d)) (v := (w (0, 8, 0) 1)) (rm := { frames := 6, cells := 1, slots := 6, locals := 82 }) (mc := 1) (ms := 6) hG (c_X3_found hG hl9 hx hy hd hL.1) rfl rfl (fun _ _ => hr _ _) (by (repeat' split) <;> simp)
  obtain ⟨M, hMd⟩ : ∃ M, M = (if (0 ≤ x ∧ x ≤ 30) ∧ (0 ≤ y ∧ y ≤ 30) ∧ (1 ≤ d ∧ d ≤ 9) then (if rfd W x y (W (3, 0, 0) 1).toNat = true then thn W 2 else rfnd W x y d) else thn W 1) := ⟨_, rfl⟩
  obtain ⟨aw, haw⟩ : ∃ aw, aw = (if (0 ≤ x ∧ x ≤ 30) ∧ (0 ≤ y ∧ y ≤ 30) ∧ (1 ≤ d ∧ d ≤ 9) then (if rfd W x y (W (3, 0, 0) 1).toNat = true then 0 else W (3, 0, 0) 1) else 0) := ⟨_, rfl⟩
  obtain ⟨s1, s2, s3⟩ : OKs c k M aw := by rw [hMd, haw]; exact st_found hI hW hk
  have hM2 : Con B.2.1 G yX5_found wsX5_found ({ frames := 1, cells := 0, slots := 0, locals := 22 } : Room) W [.ref (adr G (3, 0, 0)), vI x, vI y, vI d] (some (vI aw)) M 0 0 := by
    rw [hMd, haw]
    exact c_X5_found hG hx hy hd hM.1
  have hMt : Con B.2.1 G yX5_thrown wsX5_thrown ({ frames := 0, cells := 0, slots := 0, locals := 0 } : Room) M [.ref (adr G (3, 0, 0))] (some (vI k)) M 0 0 := by
    rw [← s1]
    exact c_X5_thrown hG
  have hkR : inR k := by rw [hk]; exact cd_R
  refine r_aload_n (k := 2) C dL_law_124 rfl ?_
  refine r_aload_n (k := 1) C dL_law_125 rfl ?_
  refine r_iload (k := 0) C dL_law_126 rfl ?_
  refine r_iconst C dL_law_128 ?_
  refine r_iadd C dL_law_129 ?_
  refine r_sld C hX hbl hbA (4 * c + 1) hx9 (by omega) (by omega) hL9 dL_law_130 ?_
  refine r_aload_n (k := 1) C dL_law_131 rfl ?_
  refine r_iload (k := 0) C dL_law_132 rfl ?_
  refine r_iconst C dL_law_134 ?_
  refine r_iadd C dL_law_135 ?_
  refine r_sld C hX hbl hbA (4 * c + 2) hy9 (by omega) (by omega) hL9 dL_law_136 ?_
  refine r_aload_n (k := 1) C dL_law_137 rfl ?_
  refine r_iload (k := 0) C dL_law_138 rfl ?_
  refine r_iconst C dL_law_140 ?_
  refine r_iadd C dL_law_141 ?_
  refine r_sld C hX hbl hbA (4 * c + 3) hd9 (by omega) (by omega) hL9 dL_law_142 ?_
  refine r_aload_n (k := 4) C dL_law_143 rfl ?_
  refine r_callSW (rest := []) C hE [.ref (adr G (2, 0, 0)), vI x, vI y, vI d, .ref (adr G (6, 0, 0))] 5 hM1 gL_law_L_found rfl rfl rfl ⟨by decide, by decide, by decide +kernel⟩ (by decide) (by decide) ⟨by show ce + 1 ≤ 601024; omega, by show sl + 6 ≤ 7293034; omega⟩ rfl rfl (Nat.le_of_ble_eq_true rfl) rfl dL_law_144 (fun hr1 => ?_)
  refine r_istore (lv' := LV5 G b ((4 * c : Nat) : Int) k) C dL_law_147 (by decide) rfl ?_
  refine r_aload_n (k := 4) C dL_law_149 rfl ?_
  refine r_aload_n (k := 2) C dL_law_150 rfl ?_
  refine r_iload (k := 1) C dL_law_151 rfl ?_
  refine r_iconst C dL_law_153 ?_
  refine r_iadd C dL_law_154 ?_
  refine r_sld C hX hbl hbA (4 * c + 1) hx9 (by omega) (by omega) hL9 dL_law_155 ?_
  refine r_aload_n (k := 2) C dL_law_156 rfl ?_
  refine r_iload (k := 1) C dL_law_157 rfl ?_
  refine r_iconst C dL_law_159 ?_
  refine r_iadd C dL_law_160 ?_
  refine r_sld C hX hbl hbA (4 * c + 2) hy9 (by omega) (by omega) hL9 dL_law_161 ?_
  refine r_aload_n (k := 2) C dL_law_162 rfl ?_
  refine r_iload (k := 1) C dL_law_163 rfl ?_
  refine r_iconst C dL_law_165 ?_
  refine r_iadd C dL_law_166 ?_
  refine r_sld C hX hbl hbA (4 * c + 3) hd9 (by omega) (by omega) hL9 dL_law_167 ?_
  refine r_callV (rest := []) (k0 := (3, 0, 0)) (ci := 5) (nk := 0) C [vI x, vI y, vI d] 3 hM2 gL_law_X5_found rfl rfl rfl ⟨rfl, by decide, by decide, by decide +kernel⟩ (by decide) (by decide) ⟨by show ce + 1 + 0 ≤ 601024; omega, by show sl + 6 + 0 ≤ 7293034; omega⟩ ok3 rfl (by decide) rfl rfl rfl (Nat.le_of_ble_eq_true rfl) rfl dL_law_168 (fun hr2 => ?_)
  refine r_istore (lv' := LV6 G b ((4 * c : Nat) : Int) k aw) C dL_law_171 (by decide) rfl ?_
  refine r_aload_n (k := 5) C dL_law_173 rfl ?_
  refine r_callV (rest := []) (k0 := (3, 0, 0)) (ci := 5) (nk := 0) C [] 0 hMt gL_law_X5_thrown rfl rfl rfl ⟨rfl, by decide, by decide, by decide +kernel⟩ (by decide) (by decide) ⟨by show ce + 1 + 0 + 0 ≤ 601024; omega, by show sl + 6 + 0 + 0 ≤ 7293034; omega⟩ ok3 rfl (by decide) rfl rfl rfl (Nat.le_of_ble_eq_true rfl) rfl dL_law_174 (fun _ => ?_)
  refine r_iload (k := 1) C dL_law_177 rfl ?_
  refine r_icmp_eq (tgt := 184) C dL_law_179 rfl hkR hkR (fun _ => ?_) (fun h => absurd rfl h)
  refine r_iload (k := 1) C dL_law_184 rfl ?_
  have fin : Wm B 9 G A Q M (ce + 1 + 0 + 0) (sl + 6 + 0 + 0) 201 (LV6 G b ((4 * c : Nat) : Int) k aw) [] := by
    refine r_goto (tgt := 1254) C dL_law_201 rfl ?_
    refine Wm.sub (lv' := LV G b ((4 * c : Nat) : Int)) [2, 3, 4, 5, 6] rfl ?_
    exact Wm.ge (by omega) (by omega) (K M s3 hr2)
  refine r_if_ne (tgt := 201) C dL_law_186 rfl hkR (fun _ => fin) (fun hk0 => ?_)
  have e6 := s2 hk0
  refine r_aload_n (k := 6) C dL_law_189 rfl ?_
  refine r_iconst C dL_law_190 ?_
  refine r_lald (k := (6, 0, 0)) (len := 1) C 0 ok6 rfl rfl (by decide) (by decide) dL_law_191 ?_
  refine r_iload (k := 0) C dL_law_192 rfl ?_
  refine r_i2l C dL_law_194 (by rw [← e6]; exact hr2 _ _) ?_
  refine r_lcmpE C (by rw [e6]) dL_law_195 ?_
  exact r_if_eq (tgt := 201) C dL_law_196 rfl ⟨by decide, by decide⟩ (fun _ => fin) (fun h => absurd rfl h)
theorem law_setDrum {B : Bx} {G : Gt} {A : Nat → Prop} {Q : State → Prop} {b L : Nat} {xs : Nat → Int32} (Z : Lw B G A b L xs) {c ce sl : Nat} {w : Mm} (hI : GI c w) (hc : c < 512) (hr : rng w) (hb9 : 4 * c + 4 ≤ L) (hce : ce + 1000 ≤ 601024) (hsl : sl + 14000 ≤ 7293034) (K : ∀ w', GI ((c : Int) + 1) w' → rng w' → Wm B 9 G A Q w' (ce + 1000) (sl + 14000) 1254 (LV G b ((4 * c : Nat) : Int)) []) : Wm B 9 G A Q w ce sl 204 (LV G b ((4 * c : Nat) : Int)) [] := by
  obtain ⟨C, hE, hl9, hX, hbl, hbA, hL9, h7, h71⟩ := Z
  have hG : Gok G := C.2.2.2.2.2.2.1
  have ok3 : okk G (3, 0, 0) := hG.2 _ (by decide) (by decide)
  have ok6 : okk G (6, 0, 0) := hG.2 _ (by decide) (by decide)
  have hL := hI.1.1
  obtain ⟨N1, D1, hL1⟩ := hI.1.2
  obtain ⟨v, hv9⟩ : ∃ v, (xs (4 * c + 1)).toInt = v := ⟨_, rfl⟩
  have hv : inR v := by rw [← hv9]; exact inR_of _
  obtain ⟨d, hd9⟩ : ∃ d, (xs (4 * c + 2)).toInt = d := ⟨_, rfl⟩
  have hd : inR d := by rw [← hd9]; exact inR_of _
  obtain ⟨W, hW⟩ : ∃ W, W = wr6 (if lV w v then (if 1 ≤ d ∧ d ≤ 9 then none else eA) else eI) w (st1 w (0, v.toNat, 0) 2 d) (w (0, v.toNat, 0) 2) := ⟨_, rfl⟩
  obtain ⟨k, hk⟩ : ∃ k, k = cd xI (if lV w v then (if 1 ≤ d ∧ d ≤ 9 then none else eA) else eI) := ⟨_, rfl⟩
  have hWt : ∀ t i p j, 2 ≤ t → t ≠ 6 → W (t, i, p) j = w (t, i, p) j := by rw [hW]; exact wr6_t (fun _ t i p j ht => st1_k (by simp [show t ≠ 0 by omega]))
  have hGW := GR_w hI.2.1 hWt
  obtain ⟨hS, ⟨N5, D5, X5, hS5⟩, hM⟩ := id hGW
  have hM1 : ConW B.2.1 G yL_setDrum wsL_setDrum { frames := 9, cells := 2, slots := 12, locals := 8 + (5 + 11) + 124 } w [.ref (adr G (2, 0, 0)), vI v, vI d, .ref (adr G (6, 0, 0))] (some (vI k)) W 2 12 := by
    rw [hk, hW]
    exact c_L_setDrum (o := (if lV w v then (if 1 ≤ d ∧ d ≤ 9 then none else eA) else eI)) (w' := (st1 w (0, v.toNat, 0) 2 d)) (v := (w (0, v.toNat, 0) 2)) (rm := { frames := 8, cells := 2, slots := 12, locals := 124 }) (mc := 2) (ms := 12) hG (c_X3_setDrum hG hl9 hv hd hL) rfl rfl (fun _ _ => hr _ _) (by (repeat' split) <;> simp)
  obtain ⟨M, hMd⟩ : ∃ M, M = (if isV W v then (if 1 ≤ d ∧ d ≤ 9 then st1 (th0 W) (4, 0, 1) v.toNat d else thn W 2) else thn W 1) := ⟨_, rfl⟩
  obtain ⟨aw, haw⟩ : ∃ aw, aw = (if isV W v then (if 1 ≤ d ∧ d ≤ 9 then W (4, 0, 1) v.toNat else 0) else 0) := ⟨_, rfl⟩
  obtain ⟨s1, s2, s3⟩ : OKs c k M aw := by rw [hMd, haw]; exact st_setDrum hI hW hk
  have hM2 : Con B.2.1 G yX5_setDrum wsX5_setDrum ({ frames := 2, cells := 0, slots := 0, locals := 43 } : Room) W [.ref (adr G (3, 0, 0)), vI v, vI d] (some (vI aw)) M 0 0 := by
    rw [hMd, haw]
    exact c_X5_setDrum hG hv hd hM.1
  have hMt : Con B.2.1 G yX5_thrown wsX5_thrown ({ frames := 0, cells := 0, slots := 0, locals := 0 } : Room) M [.ref (adr G (3, 0, 0))] (some (vI k)) M 0 0 := by
    rw [← s1]
    exact c_X5_thrown hG
  have hkR : inR k := by rw [hk]; exact cd_R
  refine r_aload_n (k := 2) C dL_law_204 rfl ?_
  refine r_aload_n (k := 1) C dL_law_205 rfl ?_
  refine r_iload (k := 0) C dL_law_206 rfl ?_
  refine r_iconst C dL_law_208 ?_
  refine r_iadd C dL_law_209 ?_
  refine r_sld C hX hbl hbA (4 * c + 1) hv9 (by omega) (by omega) hL9 dL_law_210 ?_
  refine r_aload_n (k := 1) C dL_law_211 rfl ?_
  refine r_iload (k := 0) C dL_law_212 rfl ?_
  refine r_iconst C dL_law_214 ?_
  refine r_iadd C dL_law_215 ?_
  refine r_sld C hX hbl hbA (4 * c + 2) hd9 (by omega) (by omega) hL9 dL_law_216 ?_
  refine r_aload_n (k := 4) C dL_law_217 rfl ?_
  refine r_callSW (rest := []) C hE [.ref (adr G (2, 0, 0)), vI v, vI d, .ref (adr G (6, 0, 0))] 4 hM1 gL_law_L_setDrum rfl rfl rfl ⟨by decide, by decide, by decide +kernel⟩ (by decide) (by decide) ⟨by show ce + 2 ≤ 601024; omega, by show sl + 12 ≤ 7293034; omega⟩ rfl rfl (Nat.le_of_ble_eq_true rfl) rfl dL_law_218 (fun hr1 => ?_)
  refine r_istore (lv' := LV5 G b ((4 * c : Nat) : Int) k) C dL_law_221 (by decide) rfl ?_
  refine r_aload_n (k := 4) C dL_law_223 rfl ?_
  refine r_aload_n (k := 2) C dL_law_224 rfl ?_
  refine r_iload (k := 1) C dL_law_225 rfl ?_
  refine r_iconst C dL_law_227 ?_
  refine r_iadd C dL_law_228 ?_
  refine r_sld C hX hbl hbA (4 * c + 1) hv9 (by omega) (by omega) hL9 dL_law_229 ?_
  refine r_aload_n (k := 2) C dL_law_230 rfl ?_
  refine r_iload (k := 1) C dL_law_231 rfl ?_
  refine r_iconst C dL_law_233 ?_
  refine r_iadd C dL_law_234 ?_
  refine r_sld C hX hbl hbA (4 * c + 2) hd9 (by omega) (by omega) hL9 dL_law_235 ?_
  refine r_callV (rest := []) (k0 := (3, 0, 0)) (ci := 5) (nk := 0) C [vI v, vI d] 2 hM2 gL_law_X5_setDrum rfl rfl rfl ⟨rfl, by decide, by decide, by decide +kernel⟩ (by decide) (by decide) ⟨by show ce + 2 + 0 ≤ 601024; omega, by show sl + 12 + 0 ≤ 7293034; omega⟩ ok3 rfl (by decide) rfl rfl rfl (Nat.le_of_ble_eq_true rfl) rfl dL_law_236 (fun hr2 => ?_)
  refine r_istore (lv' := LV6 G b ((4 * c : Nat) : Int) k aw) C dL_law_239 (by decide) rfl ?_
  refine r_aload_n (k := 5) C dL_law_241 rfl ?_
  refine r_callV (rest := []) (k0 := (3, 0, 0)) (ci := 5) (nk := 0) C [] 0 hMt gL_law_X5_thrown rfl rfl rfl ⟨rfl, by decide, by decide, by decide +kernel⟩ (by decide) (by decide) ⟨by show ce + 2 + 0 + 0 ≤ 601024; omega, by show sl + 12 + 0 + 0 ≤ 7293034; omega⟩ ok3 rfl (by decide) rfl rfl rfl (Nat.le_of_ble_eq_true rfl) rfl dL_law_242 (fun _ => ?_)
  refine r_iload (k := 1) C dL_law_245 rfl ?_
  refine r_icmp_eq (tgt := 252) C dL_law_247 rfl hkR hkR (fun _ => ?_) (fun h => absurd rfl h)
  refine r_iload (k := 1) C dL_law_252 rfl ?_
  have fin : Wm B 9 G A Q M (ce + 2 + 0 + 0) (sl + 12 + 0 + 0) 269 (LV6 G b ((4 * c : Nat) : Int) k aw) [] := by
    refine r_goto (tgt := 1254) C dL_law_269 rfl ?_
    refine Wm.sub (lv' := LV G b ((4 * c : Nat) : Int)) [2, 3, 4, 5, 6] rfl ?_
    exact Wm.ge (by omega) (by omega) (K M s3 hr2)
  refine r_if_ne (tgt := 269) C dL_law_254 rfl hkR (fun _ => fin) (fun hk0 => ?_)
  have e6 := s2 hk0
  refine r_aload_n (k := 6) C dL_law_257 rfl ?_
  refine r_iconst C dL_law_258 ?_
  refine r_lald (k := (6, 0, 0)) (len := 1) C 0 ok6 rfl rfl (by decide) (by decide) dL_law_259 ?_
  refine r_iload (k := 0) C dL_law_260 rfl ?_
  refine r_i2l C dL_law_262 (by rw [← e6]; exact hr2 _ _) ?_
  refine r_lcmpE C (by rw [e6]) dL_law_263 ?_
  exact r_if_eq (tgt := 269) C dL_law_264 rfl ⟨by decide, by decide⟩ (fun _ => fin) (fun h => absurd rfl h)
theorem law_setCliff0 {B : Bx} {G : Gt} {A : Nat → Prop} {Q : State → Prop} {b L : Nat} {xs : Nat → Int32} (Z : Lw B G A b L xs) {c ce sl : Nat} {w : Mm} (hI : GI c w) (hc : c < 512) (hr : rng w) (hb9 : 4 * c + 4 ≤ L) (hce : ce + 1000 ≤ 601024) (hsl : sl + 14000 ≤ 7293034) (hz : (xs (4 * c + 2)).toInt = 0) (K : ∀ w', GI ((c : Int) + 1) w' → rng w' → Wm B 9 G A Q w' (ce + 1000) (sl + 14000) 1254 (LV G b ((4 * c : Nat) : Int)) []) : Wm B 9 G A Q w ce sl 272 (LV G b ((4 * c : Nat) : Int)) [] := by
  obtain ⟨C, hE, hl9, hX, hbl, hbA, hL9, h7, h71⟩ := Z
  have hG : Gok G := C.2.2.2.2.2.2.1
  have ok3 : okk G (3, 0, 0) := hG.2 _ (by decide) (by decide)
  have ok6 : okk G (6, 0, 0) := hG.2 _ (by decide) (by decide)
  have hL := hI.1.1
  obtain ⟨N1, D1, hL1⟩ := hI.1.2
  obtain ⟨v, hv9⟩ : ∃ v, (xs (4 * c + 1)).toInt = v := ⟨_, rfl⟩
  have hv : inR v := by rw [← hv9]; exact inR_of _
  obtain ⟨d, hd9⟩ : ∃ d : Int, d = 0 := ⟨_, rfl⟩
  have hd01 : d = 0 ∨ d = 1 := by omega
  have hd : inR d := ⟨by omega, by omega⟩
  obtain ⟨z, hz9⟩ : ∃ z, (xs (4 * c + 2)).toInt = z := ⟨_, rfl⟩
  have hzR : inR z := by rw [← hz9]; exact inR_of _
  rw [hz9] at hz
  obtain ⟨W, hW⟩ : ∃ W, W = wr6 (if lV w v then none else eI) w (st1 w (0, v.toNat, 0) 3 d) (bI (w (0, v.toNat, 0) 3 = 1)) := ⟨_, rfl⟩
  obtain ⟨k, hk⟩ : ∃ k, k = cd xI (if lV w v then none else eI) := ⟨_, rfl⟩
  have hWt : ∀ t i p j, 2 ≤ t → t ≠ 6 → W (t, i, p) j = w (t, i, p) j := by rw [hW]; exact wr6_t (fun _ t i p j ht => st1_k (by simp [show t ≠ 0 by omega]))
  have hGW := GR_w hI.2.1 hWt
  obtain ⟨hS, ⟨N5, D5, X5, hS5⟩, hM⟩ := id hGW
  have hM1 : ConW B.2.1 G yL_setCliff wsL_setCliff { frames := 9, cells := 1, slots := 6, locals := 8 + (5 + 11) + 124 } w [.ref (adr G (2, 0, 0)), vI v, vI d, .ref (adr G (6, 0, 0))] (some (vI k)) W 1 6 := by
    rw [hk, hW]
    exact c_L_setCliff (o := (if lV w v then none else eI)) (w' := (st1 w (0, v.toNat, 0) 3 d)) (v := (bI (w (0, v.toNat, 0) 3 = 1))) (rm := { frames := 8, cells := 1, slots := 6, locals := 124 }) (mc := 1) (ms := 6) hG (c_X3_setCliff hG hl9 hv hd01 hL) rfl rfl (fun _ _ => inR_bI) (by unfold bI; split <;> simp) (by (repeat' split) <;> simp)
  obtain ⟨M, hMd⟩ : ∃ M, M = (if isV W v then st1 (th0 W) (3, 0, 3) v.toNat (if d = 0 then 0 else 1) else thn W 1) := ⟨_, rfl⟩
  obtain ⟨aw, haw⟩ : ∃ aw, aw = (bI (isV W v ∧ W (3, 0, 3) v.toNat = 1)) := ⟨_, rfl⟩
  obtain ⟨s1, s2, s3⟩ : OKs c k M aw := by rw [hMd, haw]; exact st_setCliff hI hd01 hW hk
  have hM2 : Con B.2.1 G yX5_setCliff wsX5_setCliff ({ frames := 2, cells := 0, slots := 0, locals := 43 } : Room) W [.ref (adr G (3, 0, 0)), vI v, vI d] (some (vI aw)) M 0 0 := by
    rw [hMd, haw]
    exact c_X5_setCliff hG hv hd hM.1
  have hMt : Con B.2.1 G yX5_thrown wsX5_thrown ({ frames := 0, cells := 0, slots := 0, locals := 0 } : Room) M [.ref (adr G (3, 0, 0))] (some (vI k)) M 0 0 := by
    rw [← s1]
    exact c_X5_thrown hG
  have hkR : inR k := by rw [hk]; exact cd_R
  refine r_aload_n (k := 2) C dL_law_272 rfl ?_
  refine r_aload_n (k := 1) C dL_law_273 rfl ?_
  refine r_iload (k := 0) C dL_law_274 rfl ?_
  refine r_iconst C dL_law_276 ?_
  refine r_iadd C dL_law_277 ?_
  refine r_sld C hX hbl hbA (4 * c + 1) hv9 (by omega) (by omega) hL9 dL_law_278 ?_
  refine r_aload_n (k := 1) C dL_law_279 rfl ?_
  refine r_iload (k := 0) C dL_law_280 rfl ?_
  refine r_iconst C dL_law_282 ?_
  refine r_iadd C dL_law_283 ?_
  refine r_sld C hX hbl hbA (4 * c + 2) hz9 (by omega) (by omega) hL9 dL_law_284 ?_
  refine r_if_eq (tgt := 292) C dL_law_285 rfl hzR (fun _ => ?_) (fun h => absurd hz h)
  refine r_iconst C dL_law_292 ?_
  refine r_aload_n (k := 4) C dL_law_293 rfl ?_
  refine r_callSW (rest := []) C hE [.ref (adr G (2, 0, 0)), vI v, vI d, .ref (adr G (6, 0, 0))] 4 hM1 gL_law_L_setCliff rfl rfl rfl ⟨by decide, by decide, by decide +kernel⟩ (by decide) (by decide) ⟨by show ce + 1 ≤ 601024; omega, by show sl + 6 ≤ 7293034; omega⟩ rfl (by subst hd9; rfl) (Nat.le_of_ble_eq_true rfl) rfl dL_law_294 (fun hr1 => ?_)
  refine r_istore (lv' := LV5 G b ((4 * c : Nat) : Int) k) C dL_law_297 (by decide) rfl ?_
  refine r_aload_n (k := 4) C dL_law_299 rfl ?_
  refine r_aload_n (k := 2) C dL_law_300 rfl ?_
  refine r_iload (k := 1) C dL_law_301 rfl ?_
  refine r_iconst C dL_law_303 ?_
  refine r_iadd C dL_law_304 ?_
  refine r_sld C hX hbl hbA (4 * c + 1) hv9 (by omega) (by omega) hL9 dL_law_305 ?_
  refine r_aload_n (k := 2) C dL_law_306 rfl ?_
  refine r_iload (k := 1) C dL_law_307 rfl ?_
  refine r_iconst C dL_law_309 ?_
  refine r_iadd C dL_law_310 ?_
  refine r_sld C hX hbl hbA (4 * c + 2) hz9 (by omega) (by omega) hL9 dL_law_311 ?_
  refine r_if_eq (tgt := 319) C dL_law_312 rfl hzR (fun _ => ?_) (fun h => absurd hz h)
  refine r_iconst C dL_law_319 ?_
  refine r_callV (rest := []) (k0 := (3, 0, 0)) (ci := 5) (nk := 0) C [vI v, vI d] 2 hM2 gL_law_X5_setCliff rfl rfl rfl ⟨rfl, by decide, by decide, by decide +kernel⟩ (by decide) (by decide) ⟨by show ce + 1 + 0 ≤ 601024; omega, by show sl + 6 + 0 ≤ 7293034; omega⟩ ok3 rfl (by decide) rfl rfl (by subst hd9; rfl) (Nat.le_of_ble_eq_true rfl) rfl dL_law_320 (fun hr2 => ?_)
  refine r_istore (lv' := LV6 G b ((4 * c : Nat) : Int) k aw) C dL_law_323 (by decide) rfl ?_
  refine r_aload_n (k := 5) C dL_law_325 rfl ?_
  refine r_callV (rest := []) (k0 := (3, 0, 0)) (ci := 5) (nk := 0) C [] 0 hMt gL_law_X5_thrown rfl rfl rfl ⟨rfl, by decide, by decide, by decide +kernel⟩ (by decide) (by decide) ⟨by show ce + 1 + 0 + 0 ≤ 601024; omega, by show sl + 6 + 0 + 0 ≤ 7293034; omega⟩ ok3 rfl (by decide) rfl rfl rfl (Nat.le_of_ble_eq_true rfl) rfl dL_law_326 (fun _ => ?_)
  refine r_iload (k := 1) C dL_law_329 rfl ?_
  refine r_icmp_eq (tgt := 336) C dL_law_331 rfl hkR hkR (fun _ => ?_) (fun h => absurd rfl h)
  refine r_iload (k := 1) C dL_law_336 rfl ?_
  have fin : Wm B 9 G A Q M (ce + 1 + 0 + 0) (sl + 6 + 0 + 0) 360 (LV6 G b ((4 * c : Nat) : Int) k aw) [] := by
    refine r_goto (tgt := 1254) C dL_law_360 rfl ?_
    refine Wm.sub (lv' := LV G b ((4 * c : Nat) : Int)) [2, 3, 4, 5, 6] rfl ?_
    exact Wm.ge (by omega) (by omega) (K M s3 hr2)
  refine r_if_ne (tgt := 360) C dL_law_338 rfl hkR (fun _ => fin) (fun hk0 => ?_)
  have e6 := s2 hk0
  refine r_aload_n (k := 6) C dL_law_341 rfl ?_
  refine r_iconst C dL_law_342 ?_
  refine r_lald (k := (6, 0, 0)) (len := 1) C 0 ok6 rfl rfl (by decide) (by decide) dL_law_343 ?_
  refine r_iload (k := 0) C dL_law_344 rfl ?_
  have hx01 : aw = 0 ∨ aw = 1 := by rw [haw]; unfold bI; split <;> simp
  refine r_if_eq (tgt := 353) C dL_law_346 rfl (by rw [← e6]; exact hr2 _ _) (fun h0 => ?_) (fun h0 => ?_)
  · refine r_lconst (x := 0) C dL_law_353 rfl ?_
    refine r_lcmpE C (by rw [e6, h0]) dL_law_354 ?_
    exact r_if_eq (tgt := 360) C dL_law_355 rfl ⟨by decide, by decide⟩ (fun _ => fin) (fun h => absurd rfl h)
  · have h1 : aw = 1 := hx01.resolve_left h0
    refine r_lconst (x := 1) C dL_law_349 rfl ?_
    refine r_goto (tgt := 354) C dL_law_350 rfl ?_
    refine r_lcmpE C (by rw [e6, h1]) dL_law_354 ?_
    exact r_if_eq (tgt := 360) C dL_law_355 rfl ⟨by decide, by decide⟩ (fun _ => fin) (fun h => absurd rfl h)
theorem law_setCliff1 {B : Bx} {G : Gt} {A : Nat → Prop} {Q : State → Prop} {b L : Nat} {xs : Nat → Int32} (Z : Lw B G A b L xs) {c ce sl : Nat} {w : Mm} (hI : GI c w) (hc : c < 512) (hr : rng w) (hb9 : 4 * c + 4 ≤ L) (hce : ce + 1000 ≤ 601024) (hsl : sl + 14000 ≤ 7293034) (hz : ¬ (xs (4 * c + 2)).toInt = 0) (K : ∀ w', GI ((c : Int) + 1) w' → rng w' → Wm B 9 G A Q w' (ce + 1000) (sl + 14000) 1254 (LV G b ((4 * c : Nat) : Int)) []) : Wm B 9 G A Q w ce sl 272 (LV G b ((4 * c : Nat) : Int)) [] := by
  obtain ⟨C, hE, hl9, hX, hbl, hbA, hL9, h7, h71⟩ := Z
  have hG : Gok G := C.2.2.2.2.2.2.1
  have ok3 : okk G (3, 0, 0) := hG.2 _ (by decide) (by decide)
  have ok6 : okk G (6, 0, 0) := hG.2 _ (by decide) (by decide)
  have hL := hI.1.1
  obtain ⟨N1, D1, hL1⟩ := hI.1.2
  obtain ⟨v, hv9⟩ : ∃ v, (xs (4 * c + 1)).toInt = v := ⟨_, rfl⟩
  have hv : inR v := by rw [← hv9]; exact inR_of _
  obtain ⟨d, hd9⟩ : ∃ d : Int, d = 1 := ⟨_, rfl⟩
  have hd01 : d = 0 ∨ d = 1 := by omega
  have hd : inR d := ⟨by omega, by omega⟩
  obtain ⟨z, hz9⟩ : ∃ z, (xs (4 * c + 2)).toInt = z := ⟨_, rfl⟩
  have hzR : inR z := by rw [← hz9]; exact inR_of _
  rw [hz9] at hz
  obtain ⟨W, hW⟩ : ∃ W, W = wr6 (if lV w v then none else eI) w (st1 w (0, v.toNat, 0) 3 d) (bI (w (0, v.toNat, 0) 3 = 1)) := ⟨_, rfl⟩
  obtain ⟨k, hk⟩ : ∃ k, k = cd xI (if lV w v then none else eI) := ⟨_, rfl⟩
  have hWt : ∀ t i p j, 2 ≤ t → t ≠ 6 → W (t, i, p) j = w (t, i, p) j := by rw [hW]; exact wr6_t (fun _ t i p j ht => st1_k (by simp [show t ≠ 0 by omega]))
  have hGW := GR_w hI.2.1 hWt
  obtain ⟨hS, ⟨N5, D5, X5, hS5⟩, hM⟩ := id hGW
  have hM1 : ConW B.2.1 G yL_setCliff wsL_setCliff { frames := 9, cells := 1, slots := 6, locals := 8 + (5 + 11) + 124 } w [.ref (adr G (2, 0, 0)), vI v, vI d, .ref (adr G (6, 0, 0))] (some (vI k)) W 1 6 := by
    rw [hk, hW]
    exact c_L_setCliff (o := (if lV w v then none else eI)) (w' := (st1 w (0, v.toNat, 0) 3 d)) (v := (bI (w (0, v.toNat, 0) 3 = 1))) (rm := { frames := 8, cells := 1, slots := 6, locals := 124 }) (mc := 1) (ms := 6) hG (c_X3_setCliff hG hl9 hv hd01 hL) rfl rfl (fun _ _ => inR_bI) (by unfold bI; split <;> simp) (by (repeat' split) <;> simp)
  obtain ⟨M, hMd⟩ : ∃ M, M = (if isV W v then st1 (th0 W) (3, 0, 3) v.toNat (if d = 0 then 0 else 1) else thn W 1) := ⟨_, rfl⟩
  obtain ⟨aw, haw⟩ : ∃ aw, aw = (bI (isV W v ∧ W (3, 0, 3) v.toNat = 1)) := ⟨_, rfl⟩
  obtain ⟨s1, s2, s3⟩ : OKs c k M aw := by rw [hMd, haw]; exact st_setCliff hI hd01 hW hk
  have hM2 : Con B.2.1 G yX5_setCliff wsX5_setCliff ({ frames := 2, cells := 0, slots := 0, locals := 43 } : Room) W [.ref (adr G (3, 0, 0)), vI v, vI d] (some (vI aw)) M 0 0 := by
    rw [hMd, haw]
    exact c_X5_setCliff hG hv hd hM.1
  have hMt : Con B.2.1 G yX5_thrown wsX5_thrown ({ frames := 0, cells := 0, slots := 0, locals := 0 } : Room) M [.ref (adr G (3, 0, 0))] (some (vI k)) M 0 0 := by
    rw [← s1]
    exact c_X5_thrown hG
  have hkR : inR k := by rw [hk]; exact cd_R
  refine r_aload_n (k := 2) C dL_law_272 rfl ?_
  refine r_aload_n (k := 1) C dL_law_273 rfl ?_
  refine r_iload (k := 0) C dL_law_274 rfl ?_
  refine r_iconst C dL_law_276 ?_
  refine r_iadd C dL_law_277 ?_
  refine r_sld C hX hbl hbA (4 * c + 1) hv9 (by omega) (by omega) hL9 dL_law_278 ?_
  refine r_aload_n (k := 1) C dL_law_279 rfl ?_
  refine r_iload (k := 0) C dL_law_280 rfl ?_
  refine r_iconst C dL_law_282 ?_
  refine r_iadd C dL_law_283 ?_
  refine r_sld C hX hbl hbA (4 * c + 2) hz9 (by omega) (by omega) hL9 dL_law_284 ?_
  refine r_if_eq (tgt := 292) C dL_law_285 rfl hzR (fun h => absurd h hz) (fun _ => ?_)
  refine r_iconst C dL_law_288 ?_
  refine r_goto (tgt := 293) C dL_law_289 rfl ?_
  refine r_aload_n (k := 4) C dL_law_293 rfl ?_
  refine r_callSW (rest := []) C hE [.ref (adr G (2, 0, 0)), vI v, vI d, .ref (adr G (6, 0, 0))] 4 hM1 gL_law_L_setCliff rfl rfl rfl ⟨by decide, by decide, by decide +kernel⟩ (by decide) (by decide) ⟨by show ce + 1 ≤ 601024; omega, by show sl + 6 ≤ 7293034; omega⟩ rfl (by subst hd9; rfl) (Nat.le_of_ble_eq_true rfl) rfl dL_law_294 (fun hr1 => ?_)
  refine r_istore (lv' := LV5 G b ((4 * c : Nat) : Int) k) C dL_law_297 (by decide) rfl ?_
  refine r_aload_n (k := 4) C dL_law_299 rfl ?_
  refine r_aload_n (k := 2) C dL_law_300 rfl ?_
  refine r_iload (k := 1) C dL_law_301 rfl ?_
  refine r_iconst C dL_law_303 ?_
  refine r_iadd C dL_law_304 ?_
  refine r_sld C hX hbl hbA (4 * c + 1) hv9 (by omega) (by omega) hL9 dL_law_305 ?_
  refine r_aload_n (k := 2) C dL_law_306 rfl ?_
  refine r_iload (k := 1) C dL_law_307 rfl ?_
  refine r_iconst C dL_law_309 ?_
  refine r_iadd C dL_law_310 ?_
  refine r_sld C hX hbl hbA (4 * c + 2) hz9 (by omega) (by omega) hL9 dL_law_311 ?_
  refine r_if_eq (tgt := 319) C dL_law_312 rfl hzR (fun h => absurd h hz) (fun _ => ?_)
  refine r_iconst C dL_law_315 ?_
  refine r_goto (tgt := 320) C dL_law_316 rfl ?_
  refine r_callV (rest := []) (k0 := (3, 0, 0)) (ci := 5) (nk := 0) C [vI v, vI d] 2 hM2 gL_law_X5_setCliff rfl rfl rfl ⟨rfl, by decide, by decide, by decide +kernel⟩ (by decide) (by decide) ⟨by show ce + 1 + 0 ≤ 601024; omega, by show sl + 6 + 0 ≤ 7293034; omega⟩ ok3 rfl (by decide) rfl rfl (by subst hd9; rfl) (Nat.le_of_ble_eq_true rfl) rfl dL_law_320 (fun hr2 => ?_)
  refine r_istore (lv' := LV6 G b ((4 * c : Nat) : Int) k aw) C dL_law_323 (by decide) rfl ?_
  refine r_aload_n (k := 5) C dL_law_325 rfl ?_
  refine r_callV (rest := []) (k0 := (3, 0, 0)) (ci := 5) (nk := 0) C [] 0 hMt gL_law_X5_thrown rfl rfl rfl ⟨rfl, by decide, by decide, by decide +kernel⟩ (by decide) (by decide) ⟨by show ce + 1 + 0 + 0 ≤ 601024; omega, by show sl + 6 + 0 + 0 ≤ 7293034; omega⟩ ok3 rfl (by decide) rfl rfl rfl (Nat.le_of_ble_eq_true rfl) rfl dL_law_326 (fun _ => ?_)
  refine r_iload (k := 1) C dL_law_329 rfl ?_
  refine r_icmp_eq (tgt := 336) C dL_law_331 rfl hkR hkR (fun _ => ?_) (fun h => absurd rfl h)
  refine r_iload (k := 1) C dL_law_336 rfl ?_
  have fin : Wm B 9 G A Q M (ce + 1 + 0 + 0) (sl + 6 + 0 + 0) 360 (LV6 G b ((4 * c : Nat) : Int) k aw) [] := by
    refine r_goto (tgt := 1254) C dL_law_360 rfl ?_
    refine Wm.sub (lv' := LV G b ((4 * c : Nat) : Int)) [2, 3, 4, 5, 6] rfl ?_
    exact Wm.ge (by omega) (by omega) (K M s3 hr2)
  refine r_if_ne (tgt := 360) C dL_law_338 rfl hkR (fun _ => fin) (fun hk0 => ?_)
  have e6 := s2 hk0
  refine r_aload_n (k := 6) C dL_law_341 rfl ?_
  refine r_iconst C dL_law_342 ?_
  refine r_lald (k := (6, 0, 0)) (len := 1) C 0 ok6 rfl rfl (by decide) (by decide) dL_law_343 ?_
  refine r_iload (k := 0) C dL_law_344 rfl ?_
  have hx01 : aw = 0 ∨ aw = 1 := by rw [haw]; unfold bI; split <;> simp
  refine r_if_eq (tgt := 353) C dL_law_346 rfl (by rw [← e6]; exact hr2 _ _) (fun h0 => ?_) (fun h0 => ?_)
  · refine r_lconst (x := 0) C dL_law_353 rfl ?_
    refine r_lcmpE C (by rw [e6, h0]) dL_law_354 ?_
    exact r_if_eq (tgt := 360) C dL_law_355 rfl ⟨by decide, by decide⟩ (fun _ => fin) (fun h => absurd rfl h)
  · have h1 : aw = 1 := hx01.resolve_left h0
    refine r_lconst (x := 1) C dL_law_349 rfl ?_
    refine r_goto (tgt := 354) C dL_law_350 rfl ?_
    refine r_lcmpE C (by rw [e6, h1]) dL_law_354 ?_
    exact r_if_eq (tgt := 360) C dL_law_355 rfl ⟨by decide, by decide⟩ (fun _ => fin) (fun h => absurd rfl h)
theorem law_setAwake {B : Bx} {G : Gt} {A : Nat → Prop} {Q : State → Prop} {b L : Nat} {xs : Nat → Int32} (Z : Lw B G A b L xs) {c ce sl : Nat} {w : Mm} (hI : GI c w) (hc : c < 512) (hr : rng w) (hb9 : 4 * c + 4 ≤ L) (hce : ce + 1000 ≤ 601024) (hsl : sl + 14000 ≤ 7293034) (K : ∀ w', GI ((c : Int) + 1) w' → rng w' → Wm B 9 G A Q w' (ce + 1000) (sl + 14000) 1254 (LV G b ((4 * c : Nat) : Int)) []) : Wm B 9 G A Q w ce sl 363 (LV G b ((4 * c : Nat) : Int)) [] := by
  obtain ⟨C, hE, hl9, hX, hbl, hbA, hL9, h7, h71⟩ := Z
  have hG : Gok G := C.2.2.2.2.2.2.1
  have ok3 : okk G (3, 0, 0) := hG.2 _ (by decide) (by decide)
  have ok6 : okk G (6, 0, 0) := hG.2 _ (by decide) (by decide)
  have hL := hI.1.1
  obtain ⟨N1, D1, hL1⟩ := hI.1.2
  obtain ⟨v, hv9⟩ : ∃ v, (xs (4 * c + 1)).toInt = v := ⟨_, rfl⟩
  have hv : inR v := by rw [← hv9]; exact inR_of _
  obtain ⟨a, ha9⟩ : ∃ a, (xs (4 * c + 2)).toInt = a := ⟨_, rfl⟩
  have ha : inR a := by rw [← ha9]; exact inR_of _
  obtain ⟨b2, hb29⟩ : ∃ b2, (xs (4 * c + 3)).toInt = b2 := ⟨_, rfl⟩
  have hb2 : inR b2 := by rw [← hb29]; exact inR_of _
  obtain ⟨W, hW⟩ : ∃ W, W = wr6 (if lV w v then (if (0 ≤ a ∧ a ≤ 23) ∧ (1 ≤ b2 ∧ b2 ≤ 24) then none else eA) else eI) w (st1 (st1 w (0, v.toNat, 0) 4 a) (0, v.toNat, 0) 5 b2) (w (0, v.toNat, 0) 5) := ⟨_, rfl⟩
  obtain ⟨k, hk⟩ : ∃ k, k = cd xI (if lV w v then (if (0 ≤ a ∧ a ≤ 23) ∧ (1 ≤ b2 ∧ b2 ≤ 24) then none else eA) else eI) := ⟨_, rfl⟩
  have hWt : ∀ t i p j, 2 ≤ t → t ≠ 6 → W (t, i, p) j = w (t, i, p) j := by rw [hW]; exact wr6_t (fun _ t i p j ht => by rw [st1_k (by simp [show t ≠ 0 by omega]), st1_k (by simp [show t ≠ 0 by omega])])
  have hGW := GR_w hI.2.1 hWt
  obtain ⟨hS, ⟨N5, D5, X5, hS5⟩, hM⟩ := id hGW
  have hM1 : ConW B.2.1 G yL_setAwake wsL_setAwake { frames := 9, cells := 2, slots := 12, locals := 8 + (6 + 11) + 124 } w [.ref (adr G (2, 0, 0)), vI v, vI a, vI b2, .ref (adr G (6, 0, 0))] (some (vI k)) W 2 12 := by
    rw [hk, hW]
    exact c_L_setAwake (o := (if lV w v then (if (0 ≤ a ∧ a ≤ 23) ∧ (1 ≤ b2 ∧ b2 ≤ 24) then none else eA) else eI)) (w' := (st1 (st1 w (0, v.toNat, 0) 4 a) (0, v.toNat, 0) 5 b2)) (v := (w (0, v.toNat, 0) 5)) (rm := { frames := 8, cells := 2, slots := 12, locals := 124 }) (mc := 2) (ms := 12) hG (c_X3_setAwake hG hl9 hv ha hb2 hL) rfl rfl (fun _ _ => hr _ _) (by (repeat' split) <;> simp)
  obtain ⟨M, hMd⟩ : ∃ M, M = (if isV W v then (if (0 ≤ a ∧ a ≤ 23) ∧ (1 ≤ b2 ∧ b2 ≤ 24) then st1 (st1 (th0 W) (3, 0, 4) v.toNat a) (3, 0, 5) v.toNat b2 else thn W 2) else thn W 1) := ⟨_, rfl⟩
  obtain ⟨aw, haw⟩ : ∃ aw, aw = (if isV W v then (if (0 ≤ a ∧ a ≤ 23) ∧ (1 ≤ b2 ∧ b2 ≤ 24) then W (3, 0, 5) v.toNat else 0) else 0) := ⟨_, rfl⟩
  obtain ⟨s1, s2, s3⟩ : OKs c k M aw := by rw [hMd, haw]; exact st_setAwake hI hW hk
  have hM2 : Con B.2.1 G yX5_setAwake wsX5_setAwake ({ frames := 2, cells := 0, slots := 0, locals := 43 } : Room) W [.ref (adr G (3, 0, 0)), vI v, vI a, vI b2] (some (vI aw)) M 0 0 := by
    rw [hMd, haw]
    exact c_X5_setAwake hG hv ha hb2 hM.1
  have hMt : Con B.2.1 G yX5_thrown wsX5_thrown ({ frames := 0, cells := 0, slots := 0, locals := 0 } : Room) M [.ref (adr G (3, 0, 0))] (some (vI k)) M 0 0 := by
    rw [← s1]
    exact c_X5_thrown hG
  have hkR : inR k := by rw [hk]; exact cd_R
  refine r_aload_n (k := 2) C dL_law_363 rfl ?_
  refine r_aload_n (k := 1) C dL_law_364 rfl ?_
  refine r_iload (k := 0) C dL_law_365 rfl ?_
  refine r_iconst C dL_law_367 ?_
  refine r_iadd C dL_law_368 ?_
  refine r_sld C hX hbl hbA (4 * c + 1) hv9 (by omega) (by omega) hL9 dL_law_369 ?_
  refine r_aload_n (k := 1) C dL_law_370 rfl ?_
  refine r_iload (k := 0) C dL_law_371 rfl ?_
  refine r_iconst C dL_law_373 ?_
  refine r_iadd C dL_law_374 ?_
  refine r_sld C hX hbl hbA (4 * c + 2) ha9 (by omega) (by omega) hL9 dL_law_375 ?_
  refine r_aload_n (k := 1) C dL_law_376 rfl ?_
  refine r_iload (k := 0) C dL_law_377 rfl ?_
  refine r_iconst C dL_law_379 ?_
  refine r_iadd C dL_law_380 ?_
  refine r_sld C hX hbl hbA (4 * c + 3) hb29 (by omega) (by omega) hL9 dL_law_381 ?_
  refine r_aload_n (k := 4) C dL_law_382 rfl ?_
  refine r_callSW (rest := []) C hE [.ref (adr G (2, 0, 0)), vI v, vI a, vI b2, .ref (adr G (6, 0, 0))] 5 hM1 gL_law_L_setAwake rfl rfl rfl ⟨by decide, by decide, by decide +kernel⟩ (by decide) (by decide) ⟨by show ce + 2 ≤ 601024; omega, by show sl + 12 ≤ 7293034; omega⟩ rfl rfl (Nat.le_of_ble_eq_true rfl) rfl dL_law_383 (fun hr1 => ?_)
  refine r_istore (lv' := LV5 G b ((4 * c : Nat) : Int) k) C dL_law_386 (by decide) rfl ?_
  refine r_aload_n (k := 4) C dL_law_388 rfl ?_
  refine r_aload_n (k := 2) C dL_law_389 rfl ?_
  refine r_iload (k := 1) C dL_law_390 rfl ?_
  refine r_iconst C dL_law_392 ?_
  refine r_iadd C dL_law_393 ?_
  refine r_sld C hX hbl hbA (4 * c + 1) hv9 (by omega) (by omega) hL9 dL_law_394 ?_
  refine r_aload_n (k := 2) C dL_law_395 rfl ?_
  refine r_iload (k := 1) C dL_law_396 rfl ?_
  refine r_iconst C dL_law_398 ?_
  refine r_iadd C dL_law_399 ?_
  refine r_sld C hX hbl hbA (4 * c + 2) ha9 (by omega) (by omega) hL9 dL_law_400 ?_
  refine r_aload_n (k := 2) C dL_law_401 rfl ?_
  refine r_iload (k := 1) C dL_law_402 rfl ?_
  refine r_iconst C dL_law_404 ?_
  refine r_iadd C dL_law_405 ?_
  refine r_sld C hX hbl hbA (4 * c + 3) hb29 (by omega) (by omega) hL9 dL_law_406 ?_
  refine r_callV (rest := []) (k0 := (3, 0, 0)) (ci := 5) (nk := 0) C [vI v, vI a, vI b2] 3 hM2 gL_law_X5_setAwake rfl rfl rfl ⟨rfl, by decide, by decide, by decide +kernel⟩ (by decide) (by decide) ⟨by show ce + 2 + 0 ≤ 601024; omega, by show sl + 12 + 0 ≤ 7293034; omega⟩ ok3 rfl (by decide) rfl rfl rfl (Nat.le_of_ble_eq_true rfl) rfl dL_law_407 (fun hr2 => ?_)
  refine r_istore (lv' := LV6 G b ((4 * c : Nat) : Int) k aw) C dL_law_410 (by decide) rfl ?_
  refine r_aload_n (k := 5) C dL_law_412 rfl ?_
  refine r_callV (rest := []) (k0 := (3, 0, 0)) (ci := 5) (nk := 0) C [] 0 hMt gL_law_X5_thrown rfl rfl rfl ⟨rfl, by decide, by decide, by decide +kernel⟩ (by decide) (by decide) ⟨by show ce + 2 + 0 + 0 ≤ 601024; omega, by show sl + 12 + 0 + 0 ≤ 7293034; omega⟩ ok3 rfl (by decide) rfl rfl rfl (Nat.le_of_ble_eq_true rfl) rfl dL_law_413 (fun _ => ?_)
  refine r_iload (k := 1) C dL_law_416 rfl ?_
  refine r_icmp_eq (tgt := 423) C dL_law_418 rfl hkR hkR (fun _ => ?_) (fun h => absurd rfl h)
  refine r_iload (k := 1) C dL_law_423 rfl ?_
  have fin : Wm B 9 G A Q M (ce + 2 + 0 + 0) (sl + 12 + 0 + 0) 440 (LV6 G b ((4 * c : Nat) : Int) k aw) [] := by
    refine r_goto (tgt := 1254) C dL_law_440 rfl ?_
    refine Wm.sub (lv' := LV G b ((4 * c : Nat) : Int)) [2, 3, 4, 5, 6] rfl ?_
    exact Wm.ge (by omega) (by omega) (K M s3 hr2)
  refine r_if_ne (tgt := 440) C dL_law_425 rfl hkR (fun _ => fin) (fun hk0 => ?_)
  have e6 := s2 hk0
  refine r_aload_n (k := 6) C dL_law_428 rfl ?_
  refine r_iconst C dL_law_429 ?_
  refine r_lald (k := (6, 0, 0)) (len := 1) C 0 ok6 rfl rfl (by decide) (by decide) dL_law_430 ?_
  refine r_iload (k := 0) C dL_law_431 rfl ?_
  refine r_i2l C dL_law_433 (by rw [← e6]; exact hr2 _ _) ?_
  refine r_lcmpE C (by rw [e6]) dL_law_434 ?_
  exact r_if_eq (tgt := 440) C dL_law_435 rfl ⟨by decide, by decide⟩ (fun _ => fin) (fun h => absurd rfl h)
theorem law_phrase {B : Bx} {G : Gt} {A : Nat → Prop} {Q : State → Prop} {b L : Nat} {xs : Nat → Int32} (Z : Lw B G A b L xs) {c ce sl : Nat} {w : Mm} (hI : GI c w) (hc : c < 512) (hr : rng w) (hb9 : 4 * c + 4 ≤ L) (hce : ce + 1000 ≤ 601024) (hsl : sl + 14000 ≤ 7293034) (K : ∀ w', GI ((c : Int) + 1) w' → rng w' → Wm B 9 G A Q w' (ce + 1000) (sl + 14000) 1254 (LV G b ((4 * c : Nat) : Int)) []) : Wm B 9 G A Q w ce sl 443 (LV G b ((4 * c : Nat) : Int)) [] := by
  obtain ⟨C, hE, hl9, hX, hbl, hbA, hL9, h7, h71⟩ := Z
  have hG : Gok G := C.2.2.2.2.2.2.1
  have ok3 : okk G (3, 0, 0) := hG.2 _ (by decide) (by decide)
  have ok6 : okk G (6, 0, 0) := hG.2 _ (by decide) (by decide)
  have hL := hI.1.1
  obtain ⟨N1, D1, hL1⟩ := hI.1.2
  obtain ⟨n, hn9⟩ : ∃ n, (xs (4 * c + 1)).toInt = n := ⟨_, rfl⟩
  have hn : inR n := by rw [← hn9]; exact inR_of _
  obtain ⟨W, hW⟩ : ∃ W, W = wr6 (if 2 ≤ ctf 9 n 0 ∧ ctf 9 n 0 ≤ 8 then (if w (0, 8, 0) 4 < 12 ∧ ¬ s0hasP w 0 n then none else eS) else eA) w (s0addP w 0 n ((ctf 9 n 0 : Nat) : Int)) (w (0, 8, 0) 4) := ⟨_, rfl⟩
  obtain ⟨k, hk⟩ : ∃ k, k = cd xA (if 2 ≤ ctf 9 n 0 ∧ ctf 9 n 0 ≤ 8 then (if w (0, 8, 0) 4 < 12 ∧ ¬ s0hasP w 0 n then none else eS) else eA) := ⟨_, rfl⟩
  have hWt : ∀ t i p j, 2 ≤ t → t ≠ 6 → W (t, i, p) j = w (t, i, p) j := by rw [hW]; exact wr6_t (fun _ t i p j ht => by unfold s0addP; split <;> simp [st1, show t ≠ 0 by omega])
  have hGW := GR_w hI.2.1 hWt
  obtain ⟨hS, ⟨N5, D5, X5, hS5⟩, hM⟩ := id hGW
  have hM1 : ConW B.2.1 G yL_phrase wsL_phrase { frames := 7, cells := 1, slots := 6, locals := 8 + (3 + 11) + 82 } w [.ref (adr G (2, 0, 0)), vI n, .ref (adr G (6, 0, 0))] (some (vI k)) W 1 6 := by
    rw [hk, hW]
    exact c_L_phrase (o := (if 2 ≤ ctf 9 n 0 ∧ ctf 9 n 0 ≤ 8 then (if w (0, 8, 0) 4 < 12 ∧ ¬ s0hasP w 0 n then none else eS) else eA)) (w' := (s0addP w 0 n ((ctf 9 n 0 : Nat) : Int))) (v := (w (0, 8, 0) 4)) (rm := { frames := 6, cells := 1, slots := 6, locals := 82 }) (mc := 1) (ms := 6) hG (c_X3_phrase hG hl9 hn hL.2.1) rfl rfl (fun _ _ => hr _ _) (by (repeat' split) <;> simp)
  obtain ⟨M, hMd⟩ : ∃ M, M = (if (ph n (phk n (n.toNat + 1) 0)).2 = true ∧ (2 ≤ ((phk n (n.toNat + 1) 0 : Nat) : Int) ∧ ((phk n (n.toNat + 1) 0 : Nat) : Int) ≤ 8) then (if rdp W n (W (3, 0, 0) 2).toNat = true then thn W 2 else rphr W n (phk n (n.toNat + 1) 0)) else thn W 1) := ⟨_, rfl⟩
  obtain ⟨aw, haw⟩ : ∃ aw, aw = (if (ph n (phk n (n.toNat + 1) 0)).2 = true ∧ (2 ≤ ((phk n (n.toNat + 1) 0 : Nat) : Int) ∧ ((phk n (n.toNat + 1) 0 : Nat) : Int) ≤ 8) then (if rdp W n (W (3, 0, 0) 2).toNat = true then 0 else W (3, 0, 0) 2) else 0) := ⟨_, rfl⟩
  obtain ⟨s1, s2, s3⟩ : OKs c k M aw := by rw [hMd, haw]; exact st_phrase hI hW hk
  have hM2 : Con B.2.1 G yX5_phrase wsX5_phrase ({ frames := 1, cells := 0, slots := 0, locals := 22 } : Room) W [.ref (adr G (3, 0, 0)), vI n] (some (vI aw)) M 0 0 := by
    rw [hMd, haw]
    exact c_X5_phrase hG hn hM.2.1
  have hMt : Con B.2.1 G yX5_thrown wsX5_thrown ({ frames := 0, cells := 0, slots := 0, locals := 0 } : Room) M [.ref (adr G (3, 0, 0))] (some (vI k)) M 0 0 := by
    rw [← s1]
    exact c_X5_thrown hG
  have hkR : inR k := by rw [hk]; exact cd_R
  refine r_aload_n (k := 2) C dL_law_443 rfl ?_
  refine r_aload_n (k := 1) C dL_law_444 rfl ?_
  refine r_iload (k := 0) C dL_law_445 rfl ?_
  refine r_iconst C dL_law_447 ?_
  refine r_iadd C dL_law_448 ?_
  refine r_sld C hX hbl hbA (4 * c + 1) hn9 (by omega) (by omega) hL9 dL_law_449 ?_
  refine r_aload_n (k := 4) C dL_law_450 rfl ?_
  refine r_callSW (rest := []) C hE [.ref (adr G (2, 0, 0)), vI n, .ref (adr G (6, 0, 0))] 3 hM1 gL_law_L_phrase rfl rfl rfl ⟨by decide, by decide, by decide +kernel⟩ (by decide) (by decide) ⟨by show ce + 1 ≤ 601024; omega, by show sl + 6 ≤ 7293034; omega⟩ rfl rfl (Nat.le_of_ble_eq_true rfl) rfl dL_law_451 (fun hr1 => ?_)
  refine r_istore (lv' := LV5 G b ((4 * c : Nat) : Int) k) C dL_law_454 (by decide) rfl ?_
  refine r_aload_n (k := 4) C dL_law_456 rfl ?_
  refine r_aload_n (k := 2) C dL_law_457 rfl ?_
  refine r_iload (k := 1) C dL_law_458 rfl ?_
  refine r_iconst C dL_law_460 ?_
  refine r_iadd C dL_law_461 ?_
  refine r_sld C hX hbl hbA (4 * c + 1) hn9 (by omega) (by omega) hL9 dL_law_462 ?_
  refine r_callV (rest := []) (k0 := (3, 0, 0)) (ci := 5) (nk := 0) C [vI n] 1 hM2 gL_law_X5_phrase rfl rfl rfl ⟨rfl, by decide, by decide, by decide +kernel⟩ (by decide) (by decide) ⟨by show ce + 1 + 0 ≤ 601024; omega, by show sl + 6 + 0 ≤ 7293034; omega⟩ ok3 rfl (by decide) rfl rfl rfl (Nat.le_of_ble_eq_true rfl) rfl dL_law_463 (fun hr2 => ?_)
  refine r_istore (lv' := LV6 G b ((4 * c : Nat) : Int) k aw) C dL_law_466 (by decide) rfl ?_
  refine r_aload_n (k := 5) C dL_law_468 rfl ?_
  refine r_callV (rest := []) (k0 := (3, 0, 0)) (ci := 5) (nk := 0) C [] 0 hMt gL_law_X5_thrown rfl rfl rfl ⟨rfl, by decide, by decide, by decide +kernel⟩ (by decide) (by decide) ⟨by show ce + 1 + 0 + 0 ≤ 601024; omega, by show sl + 6 + 0 + 0 ≤ 7293034; omega⟩ ok3 rfl (by decide) rfl rfl rfl (Nat.le_of_ble_eq_true rfl) rfl dL_law_469 (fun _ => ?_)
  refine r_iload (k := 1) C dL_law_472 rfl ?_
  refine r_icmp_eq (tgt := 479) C dL_law_474 rfl hkR hkR (fun _ => ?_) (fun h => absurd rfl h)
  refine r_iload (k := 1) C dL_law_479 rfl ?_
  have fin : Wm B 9 G A Q M (ce + 1 + 0 + 0) (sl + 6 + 0 + 0) 496 (LV6 G b ((4 * c : Nat) : Int) k aw) [] := by
    refine r_goto (tgt := 1254) C dL_law_496 rfl ?_
    refine Wm.sub (lv' := LV G b ((4 * c : Nat) : Int)) [2, 3, 4, 5, 6] rfl ?_
    exact Wm.ge (by omega) (by omega) (K M s3 hr2)
  refine r_if_ne (tgt := 496) C dL_law_481 rfl hkR (fun _ => fin) (fun hk0 => ?_)
  have e6 := s2 hk0
  refine r_aload_n (k := 6) C dL_law_484 rfl ?_
  refine r_iconst C dL_law_485 ?_
  refine r_lald (k := (6, 0, 0)) (len := 1) C 0 ok6 rfl rfl (by decide) (by decide) dL_law_486 ?_
  refine r_iload (k := 0) C dL_law_487 rfl ?_
  refine r_i2l C dL_law_489 (by rw [← e6]; exact hr2 _ _) ?_
  refine r_lcmpE C (by rw [e6]) dL_law_490 ?_
  exact r_if_eq (tgt := 496) C dL_law_491 rfl ⟨by decide, by decide⟩ (fun _ => fin) (fun h => absurd rfl h)
theorem law_tell {B : Bx} {G : Gt} {A : Nat → Prop} {Q : State → Prop} {b L : Nat} {xs : Nat → Int32} (Z : Lw B G A b L xs) {c ce sl : Nat} {w : Mm} (hI : GI c w) (hc : c < 512) (hr : rng w) (hb9 : 4 * c + 4 ≤ L) (hce : ce + 1000 ≤ 601024) (hsl : sl + 14000 ≤ 7293034) (K : ∀ w', GI ((c : Int) + 1) w' → rng w' → Wm B 9 G A Q w' (ce + 1000) (sl + 14000) 1254 (LV G b ((4 * c : Nat) : Int)) []) : Wm B 9 G A Q w ce sl 499 (LV G b ((4 * c : Nat) : Int)) [] := by
  obtain ⟨C, hE, hl9, hX, hbl, hbA, hL9, h7, h71⟩ := Z
  have hG : Gok G := C.2.2.2.2.2.2.1
  have ok3 : okk G (3, 0, 0) := hG.2 _ (by decide) (by decide)
  have ok6 : okk G (6, 0, 0) := hG.2 _ (by decide) (by decide)
  have hL := hI.1.1
  obtain ⟨N1, D1, hL1⟩ := hI.1.2
  obtain ⟨v, hv9⟩ : ∃ v, (xs (4 * c + 1)).toInt = v := ⟨_, rfl⟩
  have hv : inR v := by rw [← hv9]; exact inR_of _
  obtain ⟨p, hp9⟩ : ∃ p, (xs (4 * c + 2)).toInt = p := ⟨_, rfl⟩
  have hp : inR p := by rw [← hp9]; exact inR_of _
  obtain ⟨W, hW⟩ : ∃ W, W = wr6 (if lV w v ∧ lP w p then (if w (0, v.toNat, 0) 9 < 5 then none else eS) else eI) w (s2take w 0 v.toNat p (w (0, 8, 0) 5)) (s2take w 0 v.toNat p (w (0, 8, 0) 5) (0, v.toNat, 0) 9) := ⟨_, rfl⟩
  obtain ⟨k, hk⟩ : ∃ k, k = cd xI (if lV w v ∧ lP w p then (if w (0, v.toNat, 0) 9 < 5 then none else eS) else eI) := ⟨_, rfl⟩
  have hWt : ∀ t i p j, 2 ≤ t → t ≠ 6 → W (t, i, p) j = w (t, i, p) j := by rw [hW]; exact wr6_t (fun _ t i q j ht => s2take_loc _ j (fun z => absurd z.1 (by show t ≠ 0; omega)))
  have hGW := GR_w hI.2.1 hWt
  obtain ⟨hS, ⟨N5, D5, X5, hS5⟩, hM⟩ := id hGW
  have hM1 : ConW B.2.1 G yL_tell wsL_tell { frames := 9, cells := 3, slots := 18, locals := 8 + (4 + 11) + 124 } w [.ref (adr G (2, 0, 0)), vI v, vI p, .ref (adr G (6, 0, 0))] (some (vI k)) W 3 18 := by
    rw [hk, hW]
    exact c_L_tell (o := (if lV w v ∧ lP w p then (if w (0, v.toNat, 0) 9 < 5 then none else eS) else eI)) (w' := (s2take w 0 v.toNat p (w (0, 8, 0) 5))) (v := (s2take w 0 v.toNat p (w (0, 8, 0) 5) (0, v.toNat, 0) 9)) (rm := { frames := 8, cells := 3, slots := 18, locals := 124 }) (mc := 3) (ms := 18) hG (c_X3_tell hG hl9 hv hp hL) rfl rfl (fun _ h => h _ _) (by (repeat' split) <;> simp)
  obtain ⟨M, hMd⟩ : ∃ M, M = (if isV W v ∧ isP W p then (if W (4, 0, 4) v.toNat = 5 then thn W 2 else rput (rlrn (th0 W) 4 v p) 4 v p) else thn W 1) := ⟨_, rfl⟩
  obtain ⟨aw, haw⟩ : ∃ aw, aw = (if isV W v ∧ isP W p then (if W (4, 0, 4) v.toNat = 5 then 0 else W (4, 0, 4) v.toNat + 1) else 0) := ⟨_, rfl⟩
  obtain ⟨s1, s2, s3⟩ : OKs c k M aw := by rw [hMd, haw]; exact st_tell hI hW hk
  have hM2 : Con B.2.1 G yX5_tell wsX5_tell ({ frames := 2, cells := 0, slots := 0, locals := 43 } : Room) W [.ref (adr G (3, 0, 0)), vI v, vI p] (some (vI aw)) M 0 0 := by
    rw [hMd, haw]
    exact c_X5_tell hG hv hp hM.1 hM.2.1 hS.2.2.2.2.2.1
  have hMt : Con B.2.1 G yX5_thrown wsX5_thrown ({ frames := 0, cells := 0, slots := 0, locals := 0 } : Room) M [.ref (adr G (3, 0, 0))] (some (vI k)) M 0 0 := by
    rw [← s1]
    exact c_X5_thrown hG
  have hkR : inR k := by rw [hk]; exact cd_R
  refine r_aload_n (k := 2) C dL_law_499 rfl ?_
  refine r_aload_n (k := 1) C dL_law_500 rfl ?_
  refine r_iload (k := 0) C dL_law_501 rfl ?_
  refine r_iconst C dL_law_503 ?_
  refine r_iadd C dL_law_504 ?_
  refine r_sld C hX hbl hbA (4 * c + 1) hv9 (by omega) (by omega) hL9 dL_law_505 ?_
  refine r_aload_n (k := 1) C dL_law_506 rfl ?_
  refine r_iload (k := 0) C dL_law_507 rfl ?_
  refine r_iconst C dL_law_509 ?_
  refine r_iadd C dL_law_510 ?_
  refine r_sld C hX hbl hbA (4 * c + 2) hp9 (by omega) (by omega) hL9 dL_law_511 ?_
  refine r_aload_n (k := 4) C dL_law_512 rfl ?_
  refine r_callSW (rest := []) C hE [.ref (adr G (2, 0, 0)), vI v, vI p, .ref (adr G (6, 0, 0))] 4 hM1 gL_law_L_tell rfl rfl rfl ⟨by decide, by decide, by decide +kernel⟩ (by decide) (by decide) ⟨by show ce + 3 ≤ 601024; omega, by show sl + 18 ≤ 7293034; omega⟩ rfl rfl (Nat.le_of_ble_eq_true rfl) rfl dL_law_513 (fun hr1 => ?_)
  refine r_istore (lv' := LV5 G b ((4 * c : Nat) : Int) k) C dL_law_516 (by decide) rfl ?_
  refine r_aload_n (k := 4) C dL_law_518 rfl ?_
  refine r_aload_n (k := 2) C dL_law_519 rfl ?_
  refine r_iload (k := 1) C dL_law_520 rfl ?_
  refine r_iconst C dL_law_522 ?_
  refine r_iadd C dL_law_523 ?_
  refine r_sld C hX hbl hbA (4 * c + 1) hv9 (by omega) (by omega) hL9 dL_law_524 ?_
  refine r_aload_n (k := 2) C dL_law_525 rfl ?_
  refine r_iload (k := 1) C dL_law_526 rfl ?_
  refine r_iconst C dL_law_528 ?_
  refine r_iadd C dL_law_529 ?_
  refine r_sld C hX hbl hbA (4 * c + 2) hp9 (by omega) (by omega) hL9 dL_law_530 ?_
  refine r_callV (rest := []) (k0 := (3, 0, 0)) (ci := 5) (nk := 0) C [vI v, vI p] 2 hM2 gL_law_X5_tell rfl rfl rfl ⟨rfl, by decide, by decide, by decide +kernel⟩ (by decide) (by decide) ⟨by show ce + 3 + 0 ≤ 601024; omega, by show sl + 18 + 0 ≤ 7293034; omega⟩ ok3 rfl (by decide) rfl rfl rfl (Nat.le_of_ble_eq_true rfl) rfl dL_law_531 (fun hr2 => ?_)
  refine r_istore (lv' := LV6 G b ((4 * c : Nat) : Int) k aw) C dL_law_534 (by decide) rfl ?_
  refine r_aload_n (k := 5) C dL_law_536 rfl ?_
  refine r_callV (rest := []) (k0 := (3, 0, 0)) (ci := 5) (nk := 0) C [] 0 hMt gL_law_X5_thrown rfl rfl rfl ⟨rfl, by decide, by decide, by decide +kernel⟩ (by decide) (by decide) ⟨by show ce + 3 + 0 + 0 ≤ 601024; omega, by show sl + 18 + 0 + 0 ≤ 7293034; omega⟩ ok3 rfl (by decide) rfl rfl rfl (Nat.le_of_ble_eq_true rfl) rfl dL_law_537 (fun _ => ?_)
  refine r_iload (k := 1) C dL_law_540 rfl ?_
  refine r_icmp_eq (tgt := 547) C dL_law_542 rfl hkR hkR (fun _ => ?_) (fun h => absurd rfl h)
  refine r_iload (k := 1) C dL_law_547 rfl ?_
  have fin : Wm B 9 G A Q M (ce + 3 + 0 + 0) (sl + 18 + 0 + 0) 564 (LV6 G b ((4 * c : Nat) : Int) k aw) [] := by
    refine r_goto (tgt := 1254) C dL_law_564 rfl ?_
    refine Wm.sub (lv' := LV G b ((4 * c : Nat) : Int)) [2, 3, 4, 5, 6] rfl ?_
    exact Wm.ge (by omega) (by omega) (K M s3 hr2)
  refine r_if_ne (tgt := 564) C dL_law_549 rfl hkR (fun _ => fin) (fun hk0 => ?_)
  have e6 := s2 hk0
  refine r_aload_n (k := 6) C dL_law_552 rfl ?_
  refine r_iconst C dL_law_553 ?_
  refine r_lald (k := (6, 0, 0)) (len := 1) C 0 ok6 rfl rfl (by decide) (by decide) dL_law_554 ?_
  refine r_iload (k := 0) C dL_law_555 rfl ?_
  refine r_i2l C dL_law_557 (by rw [← e6]; exact hr2 _ _) ?_
  refine r_lcmpE C (by rw [e6]) dL_law_558 ?_
  exact r_if_eq (tgt := 564) C dL_law_559 rfl ⟨by decide, by decide⟩ (fun _ => fin) (fun h => absurd rfl h)
theorem law_village {B : Bx} {G : Gt} {A : Nat → Prop} {Q : State → Prop} {b L : Nat} {xs : Nat → Int32} (Z : Lw B G A b L xs) {c ce sl : Nat} {w : Mm} (hI : GI c w) (hc : c < 512) (hr : rng w) (hb9 : 4 * c + 4 ≤ L) (hce : ce + 1000 ≤ 601024) (hsl : sl + 14000 ≤ 7293034) (K : ∀ w', GI ((c : Int) + 1) w' → rng w' → Wm B 9 G A Q w' (ce + 1000) (sl + 14000) 1254 (LV G b ((4 * c : Nat) : Int)) []) : Wm B 9 G A Q w ce sl 567 (LV G b ((4 * c : Nat) : Int)) [] := by
  obtain ⟨C, hE, hl9, hX, hbl, hbA, hL9, h7, h71⟩ := Z
  have hG : Gok G := C.2.2.2.2.2.2.1
  have ok3 : okk G (3, 0, 0) := hG.2 _ (by decide) (by decide)
  have ok6 : okk G (6, 0, 0) := hG.2 _ (by decide) (by decide)
  have hL := hI.1.1
  obtain ⟨N1, D1, hL1⟩ := hI.1.2
  obtain ⟨v, hv9⟩ : ∃ v, (xs (4 * c + 1)).toInt = v := ⟨_, rfl⟩
  have hv : inR v := by rw [← hv9]; exact inR_of _
  obtain ⟨a, ha9⟩ : ∃ a, (xs (4 * c + 2)).toInt = a := ⟨_, rfl⟩
  have ha : inR a := by rw [← ha9]; exact inR_of _
  obtain ⟨W, hW⟩ : ∃ W, W = wr6 (if lV w v then (if 0 ≤ a ∧ a ≤ 9 then none else eI) else eI) w w (s2fig w 0 v.toNat (w (0, 8, 0) 5) a.toNat) := ⟨_, rfl⟩
  obtain ⟨k, hk⟩ : ∃ k, k = cd xI (if lV w v then (if 0 ≤ a ∧ a ≤ 9 then none else eI) else eI) := ⟨_, rfl⟩
  have hWt : ∀ t i p j, 2 ≤ t → t ≠ 6 → W (t, i, p) j = w (t, i, p) j := by rw [hW]; exact wr6_t (fun _ _ _ _ _ _ => rfl)
  have hGW := GR_w hI.2.1 hWt
  obtain ⟨hS, ⟨N5, D5, X5, hS5⟩, hM⟩ := id hGW
  have hM1 : ConW B.2.1 G yL_village wsL_village { frames := 9, cells := 2, slots := 12, locals := 8 + (4 + 11) + 124 } w [.ref (adr G (2, 0, 0)), vI v, vI a, .ref (adr G (6, 0, 0))] (some (vI k)) W 2 12 := by
    rw [hk, hW]
    exact c_L_village (o := (if lV w v then (if 0 ≤ a ∧ a ≤ 9 then none else eI) else eI)) (w' := w) (v := (s2fig w 0 v.toNat (w (0, 8, 0) 5) a.toNat)) (rm := { frames := 8, cells := 2, slots := 12, locals := 124 }) (mc := 2) (ms := 12) hG (c_X3_village hG hl9 hv ha hL (by omega)) rfl rfl (fun _ _ => s2fig_R hr) (by (repeat' split) <;> simp)
  obtain ⟨M, hMd⟩ : ∃ M, M = (if isV W v ∧ (0 ≤ a ∧ a ≤ 9) then th0 W else thn W 1) := ⟨_, rfl⟩
  obtain ⟨aw, haw⟩ : ∃ aw, aw = (if isV W v ∧ (0 ≤ a ∧ a ≤ 9) then rvtold (th0 W) v a.toNat else 0) := ⟨_, rfl⟩
  obtain ⟨s1, s2, s3⟩ : OKs c k M aw := by rw [hMd, haw]; exact st_village hI hW hk
  have hM2 : Con B.2.1 G yX5_village wsX5_village ({ frames := 2, cells := 1, slots := 10, locals := 45 } : Room) W [.ref (adr G (3, 0, 0)), vI v, vI a] (some (vI aw)) M 1 10 := by
    rw [hMd, haw]
    exact c_X5_village hG hv ha hM.1 hM.2.1 hM.2.2.2.2.1 ⟨hS.1.1, Int.le_trans hS.1.2 (by omega)⟩ h7
  have hMt : Con B.2.1 G yX5_thrown wsX5_thrown ({ frames := 0, cells := 0, slots := 0, locals := 0 } : Room) M [.ref (adr G (3, 0, 0))] (some (vI k)) M 0 0 := by
    rw [← s1]
    exact c_X5_thrown hG
  have hkR : inR k := by rw [hk]; exact cd_R
  refine r_aload_n (k := 2) C dL_law_567 rfl ?_
  refine r_aload_n (k := 1) C dL_law_568 rfl ?_
  refine r_iload (k := 0) C dL_law_569 rfl ?_
  refine r_iconst C dL_law_571 ?_
  refine r_iadd C dL_law_572 ?_
  refine r_sld C hX hbl hbA (4 * c + 1) hv9 (by omega) (by omega) hL9 dL_law_573 ?_
  refine r_aload_n (k := 1) C dL_law_574 rfl ?_
  refine r_iload (k := 0) C dL_law_575 rfl ?_
  refine r_iconst C dL_law_577 ?_
  refine r_iadd C dL_law_578 ?_
  refine r_sld C hX hbl hbA (4 * c + 2) ha9 (by omega) (by omega) hL9 dL_law_579 ?_
  refine r_aload_n (k := 4) C dL_law_580 rfl ?_
  refine r_callSW (rest := []) C hE [.ref (adr G (2, 0, 0)), vI v, vI a, .ref (adr G (6, 0, 0))] 4 hM1 gL_law_L_village rfl rfl rfl ⟨by decide, by decide, by decide +kernel⟩ (by decide) (by decide) ⟨by show ce + 2 ≤ 601024; omega, by show sl + 12 ≤ 7293034; omega⟩ rfl rfl (Nat.le_of_ble_eq_true rfl) rfl dL_law_581 (fun hr1 => ?_)
  refine r_istore (lv' := LV5 G b ((4 * c : Nat) : Int) k) C dL_law_584 (by decide) rfl ?_
  refine r_aload_n (k := 4) C dL_law_586 rfl ?_
  refine r_aload_n (k := 2) C dL_law_587 rfl ?_
  refine r_iload (k := 1) C dL_law_588 rfl ?_
  refine r_iconst C dL_law_590 ?_
  refine r_iadd C dL_law_591 ?_
  refine r_sld C hX hbl hbA (4 * c + 1) hv9 (by omega) (by omega) hL9 dL_law_592 ?_
  refine r_aload_n (k := 2) C dL_law_593 rfl ?_
  refine r_iload (k := 1) C dL_law_594 rfl ?_
  refine r_iconst C dL_law_596 ?_
  refine r_iadd C dL_law_597 ?_
  refine r_sld C hX hbl hbA (4 * c + 2) ha9 (by omega) (by omega) hL9 dL_law_598 ?_
  refine r_callV (rest := []) (k0 := (3, 0, 0)) (ci := 5) (nk := 0) C [vI v, vI a] 2 hM2 gL_law_X5_village rfl rfl rfl ⟨rfl, by decide, by decide, by decide +kernel⟩ (by decide) (by decide) ⟨by show ce + 2 + 1 ≤ 601024; omega, by show sl + 12 + 10 ≤ 7293034; omega⟩ ok3 rfl (by decide) rfl rfl rfl (Nat.le_of_ble_eq_true rfl) rfl dL_law_599 (fun hr2 => ?_)
  refine r_istore (lv' := LV6 G b ((4 * c : Nat) : Int) k aw) C dL_law_602 (by decide) rfl ?_
  refine r_aload_n (k := 5) C dL_law_604 rfl ?_
  refine r_callV (rest := []) (k0 := (3, 0, 0)) (ci := 5) (nk := 0) C [] 0 hMt gL_law_X5_thrown rfl rfl rfl ⟨rfl, by decide, by decide, by decide +kernel⟩ (by decide) (by decide) ⟨by show ce + 2 + 1 + 0 ≤ 601024; omega, by show sl + 12 + 10 + 0 ≤ 7293034; omega⟩ ok3 rfl (by decide) rfl rfl rfl (Nat.le_of_ble_eq_true rfl) rfl dL_law_605 (fun _ => ?_)
  refine r_iload (k := 1) C dL_law_608 rfl ?_
  refine r_icmp_eq (tgt := 615) C dL_law_610 rfl hkR hkR (fun _ => ?_) (fun h => absurd rfl h)
  refine r_iload (k := 1) C dL_law_615 rfl ?_
  have fin : Wm B 9 G A Q M (ce + 2 + 1 + 0) (sl + 12 + 10 + 0) 632 (LV6 G b ((4 * c : Nat) : Int) k aw) [] := by
    refine r_goto (tgt := 1254) C dL_law_632 rfl ?_
    refine Wm.sub (lv' := LV G b ((4 * c : Nat) : Int)) [2, 3, 4, 5, 6] rfl ?_
    exact Wm.ge (by omega) (by omega) (K M s3 hr2)
  refine r_if_ne (tgt := 632) C dL_law_617 rfl hkR (fun _ => fin) (fun hk0 => ?_)
  have e6 := s2 hk0
  refine r_aload_n (k := 6) C dL_law_620 rfl ?_
  refine r_iconst C dL_law_621 ?_
  refine r_lald (k := (6, 0, 0)) (len := 1) C 0 ok6 rfl rfl (by decide) (by decide) dL_law_622 ?_
  refine r_iload (k := 0) C dL_law_623 rfl ?_
  refine r_i2l C dL_law_625 (by rw [← e6]; exact hr2 _ _) ?_
  refine r_lcmpE C (by rw [e6]) dL_law_626 ?_
  exact r_if_eq (tgt := 632) C dL_law_627 rfl ⟨by decide, by decide⟩ (fun _ => fin) (fun h => absurd rfl h)
theorem law_queue {B : Bx} {G : Gt} {A : Nat → Prop} {Q : State → Prop} {b L : Nat} {xs : Nat → Int32} (Z : Lw B G A b L xs) {c ce sl : Nat} {w : Mm} (hI : GI c w) (hc : c < 512) (hr : rng w) (hb9 : 4 * c + 4 ≤ L) (hce : ce + 1000 ≤ 601024) (hsl : sl + 14000 ≤ 7293034) (K : ∀ w', GI ((c : Int) + 1) w' → rng w' → Wm B 9 G A Q w' (ce + 1000) (sl + 14000) 1254 (LV G b ((4 * c : Nat) : Int)) []) : Wm B 9 G A Q w ce sl 635 (LV G b ((4 * c : Nat) : Int)) [] := by
  obtain ⟨C, hE, hl9, hX, hbl, hbA, hL9, h7, h71⟩ := Z
  have hG : Gok G := C.2.2.2.2.2.2.1
  have ok3 : okk G (3, 0, 0) := hG.2 _ (by decide) (by decide)
  have ok6 : okk G (6, 0, 0) := hG.2 _ (by decide) (by decide)
  have hL := hI.1.1
  obtain ⟨N1, D1, hL1⟩ := hI.1.2
  obtain ⟨v, hv9⟩ : ∃ v, (xs (4 * c + 1)).toInt = v := ⟨_, rfl⟩
  have hv : inR v := by rw [← hv9]; exact inR_of _
  obtain ⟨a, ha9⟩ : ∃ a, (xs (4 * c + 2)).toInt = a := ⟨_, rfl⟩
  have ha : inR a := by rw [← ha9]; exact inR_of _
  obtain ⟨W, hW⟩ : ∃ W, W = wr6 (if lV w v then (if 0 ≤ a ∧ a < w (0, v.toNat, 0) 9 then none else eI) else eI) w w (w (0, v.toNat, 1) a.toNat) := ⟨_, rfl⟩
  obtain ⟨k, hk⟩ : ∃ k, k = cd xI (if lV w v then (if 0 ≤ a ∧ a < w (0, v.toNat, 0) 9 then none else eI) else eI) := ⟨_, rfl⟩
  have hWt : ∀ t i p j, 2 ≤ t → t ≠ 6 → W (t, i, p) j = w (t, i, p) j := by rw [hW]; exact wr6_t (fun _ _ _ _ _ _ => rfl)
  have hGW := GR_w hI.2.1 hWt
  obtain ⟨hS, ⟨N5, D5, X5, hS5⟩, hM⟩ := id hGW
  have hM1 : ConW B.2.1 G yL_queue wsL_queue { frames := 9, cells := 2, slots := 12, locals := 8 + (4 + 11) + 124 } w [.ref (adr G (2, 0, 0)), vI v, vI a, .ref (adr G (6, 0, 0))] (some (vI k)) W 2 12 := by
    rw [hk, hW]
    exact c_L_queue (o := (if lV w v then (if 0 ≤ a ∧ a < w (0, v.toNat, 0) 9 then none else eI) else eI)) (w' := w) (v := (w (0, v.toNat, 1) a.toNat)) (rm := { frames := 8, cells := 2, slots := 12, locals := 124 }) (mc := 2) (ms := 12) hG (c_X3_queue hG hl9 hv ha hL) rfl rfl (fun _ _ => hr _ _) (by (repeat' split) <;> simp)
  obtain ⟨M, hMd⟩ : ∃ M, M = (if isV W v ∧ (0 ≤ a ∧ a ≤ W (4, 0, 4) v.toNat - 1) then th0 W else thn W 1) := ⟨_, rfl⟩
  obtain ⟨aw, haw⟩ : ∃ aw, aw = (if isV W v ∧ (0 ≤ a ∧ a ≤ W (4, 0, 4) v.toNat - 1) then W (4, 0, 5) (5 * v + a).toNat else 0) := ⟨_, rfl⟩
  obtain ⟨s1, s2, s3⟩ : OKs c k M aw := by rw [hMd, haw]; exact st_queue hI hW hk
  have hM2 : Con B.2.1 G yX5_queue wsX5_queue ({ frames := 2, cells := 0, slots := 0, locals := 43 } : Room) W [.ref (adr G (3, 0, 0)), vI v, vI a] (some (vI aw)) M 0 0 := by
    rw [hMd, haw]
    exact c_X5_queue hG hv ha hM.1 hS.2.2.2.2.2.1
  have hMt : Con B.2.1 G yX5_thrown wsX5_thrown ({ frames := 0, cells := 0, slots := 0, locals := 0 } : Room) M [.ref (adr G (3, 0, 0))] (some (vI k)) M 0 0 := by
    rw [← s1]
    exact c_X5_thrown hG
  have hkR : inR k := by rw [hk]; exact cd_R
  refine r_aload_n (k := 2) C dL_law_635 rfl ?_
  refine r_aload_n (k := 1) C dL_law_636 rfl ?_
  refine r_iload (k := 0) C dL_law_637 rfl ?_
  refine r_iconst C dL_law_639 ?_
  refine r_iadd C dL_law_640 ?_
  refine r_sld C hX hbl hbA (4 * c + 1) hv9 (by omega) (by omega) hL9 dL_law_641 ?_
  refine r_aload_n (k := 1) C dL_law_642 rfl ?_
  refine r_iload (k := 0) C dL_law_643 rfl ?_
  refine r_iconst C dL_law_645 ?_
  refine r_iadd C dL_law_646 ?_
  refine r_sld C hX hbl hbA (4 * c + 2) ha9 (by omega) (by omega) hL9 dL_law_647 ?_
  refine r_aload_n (k := 4) C dL_law_648 rfl ?_
  refine r_callSW (rest := []) C hE [.ref (adr G (2, 0, 0)), vI v, vI a, .ref (adr G (6, 0, 0))] 4 hM1 gL_law_L_queue rfl rfl rfl ⟨by decide, by decide, by decide +kernel⟩ (by decide) (by decide) ⟨by show ce + 2 ≤ 601024; omega, by show sl + 12 ≤ 7293034; omega⟩ rfl rfl (Nat.le_of_ble_eq_true rfl) rfl dL_law_649 (fun hr1 => ?_)
  refine r_istore (lv' := LV5 G b ((4 * c : Nat) : Int) k) C dL_law_652 (by decide) rfl ?_
  refine r_aload_n (k := 4) C dL_law_654 rfl ?_
  refine r_aload_n (k := 2) C dL_law_655 rfl ?_
  refine r_iload (k := 1) C dL_law_656 rfl ?_
  refine r_iconst C dL_law_658 ?_
  refine r_iadd C dL_law_659 ?_
  refine r_sld C hX hbl hbA (4 * c + 1) hv9 (by omega) (by omega) hL9 dL_law_660 ?_
  refine r_aload_n (k := 2) C dL_law_661 rfl ?_
  refine r_iload (k := 1) C dL_law_662 rfl ?_
  refine r_iconst C dL_law_664 ?_
  refine r_iadd C dL_law_665 ?_
  refine r_sld C hX hbl hbA (4 * c + 2) ha9 (by omega) (by omega) hL9 dL_law_666 ?_
  refine r_callV (rest := []) (k0 := (3, 0, 0)) (ci := 5) (nk := 0) C [vI v, vI a] 2 hM2 gL_law_X5_queue rfl rfl rfl ⟨rfl, by decide, by decide, by decide +kernel⟩ (by decide) (by decide) ⟨by show ce + 2 + 0 ≤ 601024; omega, by show sl + 12 + 0 ≤ 7293034; omega⟩ ok3 rfl (by decide) rfl rfl rfl (Nat.le_of_ble_eq_true rfl) rfl dL_law_667 (fun hr2 => ?_)
  refine r_istore (lv' := LV6 G b ((4 * c : Nat) : Int) k aw) C dL_law_670 (by decide) rfl ?_
  refine r_aload_n (k := 5) C dL_law_672 rfl ?_
  refine r_callV (rest := []) (k0 := (3, 0, 0)) (ci := 5) (nk := 0) C [] 0 hMt gL_law_X5_thrown rfl rfl rfl ⟨rfl, by decide, by decide, by decide +kernel⟩ (by decide) (by decide) ⟨by show ce + 2 + 0 + 0 ≤ 601024; omega, by show sl + 12 + 0 + 0 ≤ 7293034; omega⟩ ok3 rfl (by decide) rfl rfl rfl (Nat.le_of_ble_eq_true rfl) rfl dL_law_673 (fun _ => ?_)
  refine r_iload (k := 1) C dL_law_676 rfl ?_
  refine r_icmp_eq (tgt := 683) C dL_law_678 rfl hkR hkR (fun _ => ?_) (fun h => absurd rfl h)
  refine r_iload (k := 1) C dL_law_683 rfl ?_
  have fin : Wm B 9 G A Q M (ce + 2 + 0 + 0) (sl + 12 + 0 + 0) 700 (LV6 G b ((4 * c : Nat) : Int) k aw) [] := by
    refine r_goto (tgt := 1254) C dL_law_700 rfl ?_
    refine Wm.sub (lv' := LV G b ((4 * c : Nat) : Int)) [2, 3, 4, 5, 6] rfl ?_
    exact Wm.ge (by omega) (by omega) (K M s3 hr2)
  refine r_if_ne (tgt := 700) C dL_law_685 rfl hkR (fun _ => fin) (fun hk0 => ?_)
  have e6 := s2 hk0
  refine r_aload_n (k := 6) C dL_law_688 rfl ?_
  refine r_iconst C dL_law_689 ?_
  refine r_lald (k := (6, 0, 0)) (len := 1) C 0 ok6 rfl rfl (by decide) (by decide) dL_law_690 ?_
  refine r_iload (k := 0) C dL_law_691 rfl ?_
  refine r_i2l C dL_law_693 (by rw [← e6]; exact hr2 _ _) ?_
  refine r_lcmpE C (by rw [e6]) dL_law_694 ?_
  exact r_if_eq (tgt := 700) C dL_law_695 rfl ⟨by decide, by decide⟩ (fun _ => fin) (fun h => absurd rfl h)
theorem law_knows {B : Bx} {G : Gt} {A : Nat → Prop} {Q : State → Prop} {b L : Nat} {xs : Nat → Int32} (Z : Lw B G A b L xs) {c ce sl : Nat} {w : Mm} (hI : GI c w) (hc : c < 512) (hr : rng w) (hb9 : 4 * c + 4 ≤ L) (hce : ce + 1000 ≤ 601024) (hsl : sl + 14000 ≤ 7293034) (K : ∀ w', GI ((c : Int) + 1) w' → rng w' → Wm B 9 G A Q w' (ce + 1000) (sl + 14000) 1254 (LV G b ((4 * c : Nat) : Int)) []) : Wm B 9 G A Q w ce sl 703 (LV G b ((4 * c : Nat) : Int)) [] := by
  obtain ⟨C, hE, hl9, hX, hbl, hbA, hL9, h7, h71⟩ := Z
  have hG : Gok G := C.2.2.2.2.2.2.1
  have ok3 : okk G (3, 0, 0) := hG.2 _ (by decide) (by decide)
  have ok6 : okk G (6, 0, 0) := hG.2 _ (by decide) (by decide)
  have hL := hI.1.1
  obtain ⟨N1, D1, hL1⟩ := hI.1.2
  obtain ⟨v, hv9⟩ : ∃ v, (xs (4 * c + 1)).toInt = v := ⟨_, rfl⟩
  have hv : inR v := by rw [← hv9]; exact inR_of _
  obtain ⟨p, hp9⟩ : ∃ p, (xs (4 * c + 2)).toInt = p := ⟨_, rfl⟩
  have hp : inR p := by rw [← hp9]; exact inR_of _
  obtain ⟨W, hW⟩ : ∃ W, W = wr6 (if lV w v ∧ lP w p then none else eI) w w (w (0, v.toNat, 2) p.toNat) := ⟨_, rfl⟩
  obtain ⟨k, hk⟩ : ∃ k, k = cd xI (if lV w v ∧ lP w p then none else eI) := ⟨_, rfl⟩
  have hWt : ∀ t i p j, 2 ≤ t → t ≠ 6 → W (t, i, p) j = w (t, i, p) j := by rw [hW]; exact wr6_t (fun _ _ _ _ _ _ => rfl)
  have hGW := GR_w hI.2.1 hWt
  obtain ⟨hS, ⟨N5, D5, X5, hS5⟩, hM⟩ := id hGW
  have hM1 : ConW B.2.1 G yL_knows wsL_knows { frames := 9, cells := 2, slots := 12, locals := 8 + (4 + 11) + 124 } w [.ref (adr G (2, 0, 0)), vI v, vI p, .ref (adr G (6, 0, 0))] (some (vI k)) W 2 12 := by
    rw [hk, hW]
    exact c_L_knows (o := (if lV w v ∧ lP w p then none else eI)) (w' := w) (v := (w (0, v.toNat, 2) p.toNat)) (rm := { frames := 8, cells := 2, slots := 12, locals := 124 }) (mc := 2) (ms := 12) hG (c_X3_knows hG hl9 hv hp hL) rfl rfl (fun _ _ => hr _ _) (by (repeat' split) <;> simp)
  obtain ⟨M, hMd⟩ : ∃ M, M = (if isV W v ∧ isP W p then th0 W else thn W 1) := ⟨_, rfl⟩
  obtain ⟨aw, haw⟩ : ∃ aw, aw = (if isV W v ∧ isP W p then W (4, 0, 6) (12 * v + p).toNat else 0) := ⟨_, rfl⟩
  obtain ⟨s1, s2, s3⟩ : OKs c k M aw := by rw [hMd, haw]; exact st_knows hI hW hk
  have hM2 : Con B.2.1 G yX5_knows wsX5_knows ({ frames := 2, cells := 0, slots := 0, locals := 43 } : Room) W [.ref (adr G (3, 0, 0)), vI v, vI p] (some (vI aw)) M 0 0 := by
    rw [hMd, haw]
    exact c_X5_knows hG hv hp hM.1 hM.2.1
  have hMt : Con B.2.1 G yX5_thrown wsX5_thrown ({ frames := 0, cells := 0, slots := 0, locals := 0 } : Room) M [.ref (adr G (3, 0, 0))] (some (vI k)) M 0 0 := by
    rw [← s1]
    exact c_X5_thrown hG
  have hkR : inR k := by rw [hk]; exact cd_R
  refine r_aload_n (k := 2) C dL_law_703 rfl ?_
  refine r_aload_n (k := 1) C dL_law_704 rfl ?_
  refine r_iload (k := 0) C dL_law_705 rfl ?_
  refine r_iconst C dL_law_707 ?_
  refine r_iadd C dL_law_708 ?_
  refine r_sld C hX hbl hbA (4 * c + 1) hv9 (by omega) (by omega) hL9 dL_law_709 ?_
  refine r_aload_n (k := 1) C dL_law_710 rfl ?_
  refine r_iload (k := 0) C dL_law_711 rfl ?_
  refine r_iconst C dL_law_713 ?_
  refine r_iadd C dL_law_714 ?_
  refine r_sld C hX hbl hbA (4 * c + 2) hp9 (by omega) (by omega) hL9 dL_law_715 ?_
  refine r_aload_n (k := 4) C dL_law_716 rfl ?_
  refine r_callSW (rest := []) C hE [.ref (adr G (2, 0, 0)), vI v, vI p, .ref (adr G (6, 0, 0))] 4 hM1 gL_law_L_knows rfl rfl rfl ⟨by decide, by decide, by decide +kernel⟩ (by decide) (by decide) ⟨by show ce + 2 ≤ 601024; omega, by show sl + 12 ≤ 7293034; omega⟩ rfl rfl (Nat.le_of_ble_eq_true rfl) rfl dL_law_717 (fun hr1 => ?_)
  refine r_istore (lv' := LV5 G b ((4 * c : Nat) : Int) k) C dL_law_720 (by decide) rfl ?_
  refine r_aload_n (k := 4) C dL_law_722 rfl ?_
  refine r_aload_n (k := 2) C dL_law_723 rfl ?_
  refine r_iload (k := 1) C dL_law_724 rfl ?_
  refine r_iconst C dL_law_726 ?_
  refine r_iadd C dL_law_727 ?_
  refine r_sld C hX hbl hbA (4 * c + 1) hv9 (by omega) (by omega) hL9 dL_law_728 ?_
  refine r_aload_n (k := 2) C dL_law_729 rfl ?_
  refine r_iload (k := 1) C dL_law_730 rfl ?_
  refine r_iconst C dL_law_732 ?_
  refine r_iadd C dL_law_733 ?_
  refine r_sld C hX hbl hbA (4 * c + 2) hp9 (by omega) (by omega) hL9 dL_law_734 ?_
  refine r_callV (rest := []) (k0 := (3, 0, 0)) (ci := 5) (nk := 0) C [vI v, vI p] 2 hM2 gL_law_X5_knows rfl rfl rfl ⟨rfl, by decide, by decide, by decide +kernel⟩ (by decide) (by decide) ⟨by show ce + 2 + 0 ≤ 601024; omega, by show sl + 12 + 0 ≤ 7293034; omega⟩ ok3 rfl (by decide) rfl rfl rfl (Nat.le_of_ble_eq_true rfl) rfl dL_law_735 (fun hr2 => ?_)
  refine r_istore (lv' := LV6 G b ((4 * c : Nat) : Int) k aw) C dL_law_738 (by decide) rfl ?_
  refine r_aload_n (k := 5) C dL_law_740 rfl ?_
  refine r_callV (rest := []) (k0 := (3, 0, 0)) (ci := 5) (nk := 0) C [] 0 hMt gL_law_X5_thrown rfl rfl rfl ⟨rfl, by decide, by decide, by decide +kernel⟩ (by decide) (by decide) ⟨by show ce + 2 + 0 + 0 ≤ 601024; omega, by show sl + 12 + 0 + 0 ≤ 7293034; omega⟩ ok3 rfl (by decide) rfl rfl rfl (Nat.le_of_ble_eq_true rfl) rfl dL_law_741 (fun _ => ?_)
  refine r_iload (k := 1) C dL_law_744 rfl ?_
  refine r_icmp_eq (tgt := 751) C dL_law_746 rfl hkR hkR (fun _ => ?_) (fun h => absurd rfl h)
  refine r_iload (k := 1) C dL_law_751 rfl ?_
  have fin : Wm B 9 G A Q M (ce + 2 + 0 + 0) (sl + 12 + 0 + 0) 768 (LV6 G b ((4 * c : Nat) : Int) k aw) [] := by
    refine r_goto (tgt := 1254) C dL_law_768 rfl ?_
    refine Wm.sub (lv' := LV G b ((4 * c : Nat) : Int)) [2, 3, 4, 5, 6] rfl ?_
    exact Wm.ge (by omega) (by omega) (K M s3 hr2)
  refine r_if_ne (tgt := 768) C dL_law_753 rfl hkR (fun _ => fin) (fun hk0 => ?_)
  have e6 := s2 hk0
  refine r_aload_n (k := 6) C dL_law_756 rfl ?_
  refine r_iconst C dL_law_757 ?_
  refine r_lald (k := (6, 0, 0)) (len := 1) C 0 ok6 rfl rfl (by decide) (by decide) dL_law_758 ?_
  refine r_iload (k := 0) C dL_law_759 rfl ?_
  refine r_i2l C dL_law_761 (by rw [← e6]; exact hr2 _ _) ?_
  refine r_lcmpE C (by rw [e6]) dL_law_762 ?_
  exact r_if_eq (tgt := 768) C dL_law_763 rfl ⟨by decide, by decide⟩ (fun _ => fin) (fun h => absurd rfl h)
theorem law_sounds {B : Bx} {G : Gt} {A : Nat → Prop} {Q : State → Prop} {b L : Nat} {xs : Nat → Int32} (Z : Lw B G A b L xs) {c ce sl : Nat} {w : Mm} (hI : GI c w) (hc : c < 512) (hr : rng w) (hb9 : 4 * c + 4 ≤ L) (hce : ce + 1000 ≤ 601024) (hsl : sl + 14000 ≤ 7293034) (K : ∀ w', GI ((c : Int) + 1) w' → rng w' → Wm B 9 G A Q w' (ce + 1000) (sl + 14000) 1254 (LV G b ((4 * c : Nat) : Int)) []) : Wm B 9 G A Q w ce sl 771 (LV G b ((4 * c : Nat) : Int)) [] := by
  obtain ⟨C, hE, hl9, hX, hbl, hbA, hL9, h7, h71⟩ := Z
  have hG : Gok G := C.2.2.2.2.2.2.1
  have ok3 : okk G (3, 0, 0) := hG.2 _ (by decide) (by decide)
  have ok6 : okk G (6, 0, 0) := hG.2 _ (by decide) (by decide)
  have hL := hI.1.1
  obtain ⟨N1, D1, hL1⟩ := hI.1.2
  obtain ⟨v, hv9⟩ : ∃ v, (xs (4 * c + 1)).toInt = v := ⟨_, rfl⟩
  have hv : inR v := by rw [← hv9]; exact inR_of _
  obtain ⟨W, hW⟩ : ∃ W, W = wr6 (if lV w v then none else eI) w w (((s1last w 0 v.toNat (w (0, 8, 0) 5) (w (0, v.toNat, 3) 4).toNat : Nat) : Int)) := ⟨_, rfl⟩
  obtain ⟨k, hk⟩ : ∃ k, k = cd xI (if lV w v then none else eI) := ⟨_, rfl⟩
  have hWt : ∀ t i p j, 2 ≤ t → t ≠ 6 → W (t, i, p) j = w (t, i, p) j := by rw [hW]; exact wr6_t (fun _ _ _ _ _ _ => rfl)
  have hGW := GR_w hI.2.1 hWt
  obtain ⟨hS, ⟨N5, D5, X5, hS5⟩, hM⟩ := id hGW
  have hM1 : ConW B.2.1 G yL_sounds wsL_sounds { frames := 9, cells := 1, slots := 6, locals := 8 + (2 + 11) + 124 } w [.ref (adr G (2, 0, 0)), vI v, .ref (adr G (6, 0, 0))] (some (vI k)) W 1 6 := by
    rw [hk, hW]
    exact c_L_sounds (o := (if lV w v then none else eI)) (w' := w) (v := (((s1last w 0 v.toNat (w (0, 8, 0) 5) (w (0, v.toNat, 3) 4).toNat : Nat) : Int))) (rm := { frames := 8, cells := 1, slots := 6, locals := 124 }) (mc := 1) (ms := 6) hG (c_X3_sounds hG hl9 hv hL) rfl rfl (fun _ _ => by have h1 := s1last_le w 0 v.toNat (w (0, 8, 0) 5) (w (0, v.toNat, 3) 4).toNat; have h2 := hr (0, v.toNat, 3) 4; exact ⟨by omega, by have := h2.2; omega⟩) (by (repeat' split) <;> simp)
  obtain ⟨M, hMd⟩ : ∃ M, M = (if isV W v then th0 W else thn W 1) := ⟨_, rfl⟩
  obtain ⟨aw, haw⟩ : ∃ aw, aw = (if isV W v then ((rlast (th0 W) 4 v (W (4, 0, 0) 2).toNat : Nat) : Int) else 0) := ⟨_, rfl⟩
  obtain ⟨s1, s2, s3⟩ : OKs c k M aw := by rw [hMd, haw]; exact st_sounds hI hW hk
  have hM2 : Con B.2.1 G yX5_sounds wsX5_sounds ({ frames := 2, cells := 0, slots := 0, locals := 43 } : Room) W [.ref (adr G (3, 0, 0)), vI v] (some (vI aw)) M 0 0 := by
    rw [hMd, haw]
    exact c_X5_sounds hG hv hM.1 hS.2.2.1
  have hMt : Con B.2.1 G yX5_thrown wsX5_thrown ({ frames := 0, cells := 0, slots := 0, locals := 0 } : Room) M [.ref (adr G (3, 0, 0))] (some (vI k)) M 0 0 := by
    rw [← s1]
    exact c_X5_thrown hG
  have hkR : inR k := by rw [hk]; exact cd_R
  refine r_aload_n (k := 2) C dL_law_771 rfl ?_
  refine r_aload_n (k := 1) C dL_law_772 rfl ?_
  refine r_iload (k := 0) C dL_law_773 rfl ?_
  refine r_iconst C dL_law_775 ?_
  refine r_iadd C dL_law_776 ?_
  refine r_sld C hX hbl hbA (4 * c + 1) hv9 (by omega) (by omega) hL9 dL_law_777 ?_
  refine r_aload_n (k := 4) C dL_law_778 rfl ?_
  refine r_callSW (rest := []) C hE [.ref (adr G (2, 0, 0)), vI v, .ref (adr G (6, 0, 0))] 3 hM1 gL_law_L_sounds rfl rfl rfl ⟨by decide, by decide, by decide +kernel⟩ (by decide) (by decide) ⟨by show ce + 1 ≤ 601024; omega, by show sl + 6 ≤ 7293034; omega⟩ rfl rfl (Nat.le_of_ble_eq_true rfl) rfl dL_law_779 (fun hr1 => ?_)
  refine r_istore (lv' := LV5 G b ((4 * c : Nat) : Int) k) C dL_law_782 (by decide) rfl ?_
  refine r_aload_n (k := 4) C dL_law_784 rfl ?_
  refine r_aload_n (k := 2) C dL_law_785 rfl ?_
  refine r_iload (k := 1) C dL_law_786 rfl ?_
  refine r_iconst C dL_law_788 ?_
  refine r_iadd C dL_law_789 ?_
  refine r_sld C hX hbl hbA (4 * c + 1) hv9 (by omega) (by omega) hL9 dL_law_790 ?_
  refine r_callV (rest := []) (k0 := (3, 0, 0)) (ci := 5) (nk := 0) C [vI v] 1 hM2 gL_law_X5_sounds rfl rfl rfl ⟨rfl, by decide, by decide, by decide +kernel⟩ (by decide) (by decide) ⟨by show ce + 1 + 0 ≤ 601024; omega, by show sl + 6 + 0 ≤ 7293034; omega⟩ ok3 rfl (by decide) rfl rfl rfl (Nat.le_of_ble_eq_true rfl) rfl dL_law_791 (fun hr2 => ?_)
  refine r_istore (lv' := LV6 G b ((4 * c : Nat) : Int) k aw) C dL_law_794 (by decide) rfl ?_
  refine r_aload_n (k := 5) C dL_law_796 rfl ?_
  refine r_callV (rest := []) (k0 := (3, 0, 0)) (ci := 5) (nk := 0) C [] 0 hMt gL_law_X5_thrown rfl rfl rfl ⟨rfl, by decide, by decide, by decide +kernel⟩ (by decide) (by decide) ⟨by show ce + 1 + 0 + 0 ≤ 601024; omega, by show sl + 6 + 0 + 0 ≤ 7293034; omega⟩ ok3 rfl (by decide) rfl rfl rfl (Nat.le_of_ble_eq_true rfl) rfl dL_law_797 (fun _ => ?_)
  refine r_iload (k := 1) C dL_law_800 rfl ?_
  refine r_icmp_eq (tgt := 807) C dL_law_802 rfl hkR hkR (fun _ => ?_) (fun h => absurd rfl h)
  refine r_iload (k := 1) C dL_law_807 rfl ?_
  have fin : Wm B 9 G A Q M (ce + 1 + 0 + 0) (sl + 6 + 0 + 0) 824 (LV6 G b ((4 * c : Nat) : Int) k aw) [] := by
    refine r_goto (tgt := 1254) C dL_law_824 rfl ?_
    refine Wm.sub (lv' := LV G b ((4 * c : Nat) : Int)) [2, 3, 4, 5, 6] rfl ?_
    exact Wm.ge (by omega) (by omega) (K M s3 hr2)
  refine r_if_ne (tgt := 824) C dL_law_809 rfl hkR (fun _ => fin) (fun hk0 => ?_)
  have e6 := s2 hk0
  refine r_aload_n (k := 6) C dL_law_812 rfl ?_
  refine r_iconst C dL_law_813 ?_
  refine r_lald (k := (6, 0, 0)) (len := 1) C 0 ok6 rfl rfl (by decide) (by decide) dL_law_814 ?_
  refine r_iload (k := 0) C dL_law_815 rfl ?_
  refine r_i2l C dL_law_817 (by rw [← e6]; exact hr2 _ _) ?_
  refine r_lcmpE C (by rw [e6]) dL_law_818 ?_
  exact r_if_eq (tgt := 824) C dL_law_819 rfl ⟨by decide, by decide⟩ (fun _ => fin) (fun h => absurd rfl h)
theorem law_count {B : Bx} {G : Gt} {A : Nat → Prop} {Q : State → Prop} {b L : Nat} {xs : Nat → Int32} (Z : Lw B G A b L xs) {c ce sl : Nat} {w : Mm} (hI : GI c w) (hc : c < 512) (hr : rng w) (hb9 : 4 * c + 4 ≤ L) (hce : ce + 1000 ≤ 601024) (hsl : sl + 14000 ≤ 7293034) (K : ∀ w', GI ((c : Int) + 1) w' → rng w' → Wm B 9 G A Q w' (ce + 1000) (sl + 14000) 1254 (LV G b ((4 * c : Nat) : Int)) []) : Wm B 9 G A Q w ce sl 827 (LV G b ((4 * c : Nat) : Int)) [] := by
  obtain ⟨C, hE, hl9, hX, hbl, hbA, hL9, h7, h71⟩ := Z
  have hG : Gok G := C.2.2.2.2.2.2.1
  have ok3 : okk G (3, 0, 0) := hG.2 _ (by decide) (by decide)
  have ok6 : okk G (6, 0, 0) := hG.2 _ (by decide) (by decide)
  have hL := hI.1.1
  obtain ⟨N1, D1, hL1⟩ := hI.1.2
  obtain ⟨a, ha9⟩ : ∃ a, (xs (4 * c + 1)).toInt = a := ⟨_, rfl⟩
  have ha : inR a := by rw [← ha9]; exact inR_of _
  obtain ⟨W, hW⟩ : ∃ W, W = wr6 (if 0 ≤ a ∧ a ≤ 7 then none else eI) w w (s0fig w 0 a.toNat) := ⟨_, rfl⟩
  obtain ⟨k, hk⟩ : ∃ k, k = cd xI (if 0 ≤ a ∧ a ≤ 7 then none else eI) := ⟨_, rfl⟩
  have hWt : ∀ t i p j, 2 ≤ t → t ≠ 6 → W (t, i, p) j = w (t, i, p) j := by rw [hW]; exact wr6_t (fun _ _ _ _ _ _ => rfl)
  have hGW := GR_w hI.2.1 hWt
  obtain ⟨hS, ⟨N5, D5, X5, hS5⟩, hM⟩ := id hGW
  have hM1 : ConW B.2.1 G yL_count wsL_count { frames := 7, cells := 1, slots := 6, locals := 8 + (2 + 11) + 86 } w [.ref (adr G (2, 0, 0)), vI a, .ref (adr G (6, 0, 0))] (some (vI k)) W 1 6 := by
    rw [hk, hW]
    exact c_L_count (o := (if 0 ≤ a ∧ a ≤ 7 then none else eI)) (w' := w) (v := (s0fig w 0 a.toNat)) (rm := { frames := 6, cells := 1, slots := 6, locals := 86 }) (mc := 1) (ms := 6) hG (c_X3_count hG hl9 ha hL.1) rfl rfl (fun _ _ => s0fig_R hL (by omega) (by omega) (fun u _ => by show 22400 * (c : Int) ≤ 100000000; omega)) (by (repeat' split) <;> simp)
  obtain ⟨M, hMd⟩ : ∃ M, M = (if 0 ≤ a ∧ a ≤ 7 then th0 W else thn W 1) := ⟨_, rfl⟩
  obtain ⟨aw, haw⟩ : ∃ aw, aw = (if 0 ≤ a ∧ a ≤ 7 then rcnt (th0 W) a.toNat else 0) := ⟨_, rfl⟩
  obtain ⟨s1, s2, s3⟩ : OKs c k M aw := by rw [hMd, haw]; exact st_count hI hW hk
  have hM2 : Con B.2.1 G yX5_count wsX5_count ({ frames := 3, cells := 1, slots := 8, locals := 69 } : Room) W [.ref (adr G (3, 0, 0)), vI a] (some (vI aw)) M 1 8 := by
    rw [hMd, haw]
    exact c_X5_count hG ha hM.1 hM.2.1 (GR_R ⟨by omega, by omega⟩ hGW).1 (GR_R ⟨by omega, by omega⟩ hGW).2 h71
  have hMt : Con B.2.1 G yX5_thrown wsX5_thrown ({ frames := 0, cells := 0, slots := 0, locals := 0 } : Room) M [.ref (adr G (3, 0, 0))] (some (vI k)) M 0 0 := by
    rw [← s1]
    exact c_X5_thrown hG
  have hkR : inR k := by rw [hk]; exact cd_R
  refine r_aload_n (k := 2) C dL_law_827 rfl ?_
  refine r_aload_n (k := 1) C dL_law_828 rfl ?_
  refine r_iload (k := 0) C dL_law_829 rfl ?_
  refine r_iconst C dL_law_831 ?_
  refine r_iadd C dL_law_832 ?_
  refine r_sld C hX hbl hbA (4 * c + 1) ha9 (by omega) (by omega) hL9 dL_law_833 ?_
  refine r_aload_n (k := 4) C dL_law_834 rfl ?_
  refine r_callSW (rest := []) C hE [.ref (adr G (2, 0, 0)), vI a, .ref (adr G (6, 0, 0))] 3 hM1 gL_law_L_count rfl rfl rfl ⟨by decide, by decide, by decide +kernel⟩ (by decide) (by decide) ⟨by show ce + 1 ≤ 601024; omega, by show sl + 6 ≤ 7293034; omega⟩ rfl rfl (Nat.le_of_ble_eq_true rfl) rfl dL_law_835 (fun hr1 => ?_)
  refine r_istore (lv' := LV5 G b ((4 * c : Nat) : Int) k) C dL_law_838 (by decide) rfl ?_
  refine r_aload_n (k := 4) C dL_law_840 rfl ?_
  refine r_aload_n (k := 2) C dL_law_841 rfl ?_
  refine r_iload (k := 1) C dL_law_842 rfl ?_
  refine r_iconst C dL_law_844 ?_
  refine r_iadd C dL_law_845 ?_
  refine r_sld C hX hbl hbA (4 * c + 1) ha9 (by omega) (by omega) hL9 dL_law_846 ?_
  refine r_callV (rest := []) (k0 := (3, 0, 0)) (ci := 5) (nk := 0) C [vI a] 1 hM2 gL_law_X5_count rfl rfl rfl ⟨rfl, by decide, by decide, by decide +kernel⟩ (by decide) (by decide) ⟨by show ce + 1 + 1 ≤ 601024; omega, by show sl + 6 + 8 ≤ 7293034; omega⟩ ok3 rfl (by decide) rfl rfl rfl (Nat.le_of_ble_eq_true rfl) rfl dL_law_847 (fun hr2 => ?_)
  refine r_istore (lv' := LV6 G b ((4 * c : Nat) : Int) k aw) C dL_law_850 (by decide) rfl ?_
  refine r_aload_n (k := 5) C dL_law_852 rfl ?_
  refine r_callV (rest := []) (k0 := (3, 0, 0)) (ci := 5) (nk := 0) C [] 0 hMt gL_law_X5_thrown rfl rfl rfl ⟨rfl, by decide, by decide, by decide +kernel⟩ (by decide) (by decide) ⟨by show ce + 1 + 1 + 0 ≤ 601024; omega, by show sl + 6 + 8 + 0 ≤ 7293034; omega⟩ ok3 rfl (by decide) rfl rfl rfl (Nat.le_of_ble_eq_true rfl) rfl dL_law_853 (fun _ => ?_)
  refine r_iload (k := 1) C dL_law_856 rfl ?_
  refine r_icmp_eq (tgt := 863) C dL_law_858 rfl hkR hkR (fun _ => ?_) (fun h => absurd rfl h)
  refine r_iload (k := 1) C dL_law_863 rfl ?_
  have fin : Wm B 9 G A Q M (ce + 1 + 1 + 0) (sl + 6 + 8 + 0) 880 (LV6 G b ((4 * c : Nat) : Int) k aw) [] := by
    refine r_goto (tgt := 1254) C dL_law_880 rfl ?_
    refine Wm.sub (lv' := LV G b ((4 * c : Nat) : Int)) [2, 3, 4, 5, 6] rfl ?_
    exact Wm.ge (by omega) (by omega) (K M s3 hr2)
  refine r_if_ne (tgt := 880) C dL_law_865 rfl hkR (fun _ => fin) (fun hk0 => ?_)
  have e6 := s2 hk0
  refine r_aload_n (k := 6) C dL_law_868 rfl ?_
  refine r_iconst C dL_law_869 ?_
  refine r_lald (k := (6, 0, 0)) (len := 1) C 0 ok6 rfl rfl (by decide) (by decide) dL_law_870 ?_
  refine r_iload (k := 0) C dL_law_871 rfl ?_
  refine r_i2l C dL_law_873 (by rw [← e6]; exact hr2 _ _) ?_
  refine r_lcmpE C (by rw [e6]) dL_law_874 ?_
  exact r_if_eq (tgt := 880) C dL_law_875 rfl ⟨by decide, by decide⟩ (fun _ => fin) (fun h => absurd rfl h)
theorem law_way {B : Bx} {G : Gt} {A : Nat → Prop} {Q : State → Prop} {b L : Nat} {xs : Nat → Int32} (Z : Lw B G A b L xs) {c ce sl : Nat} {w : Mm} (hI : GI c w) (hc : c < 512) (hr : rng w) (hb9 : 4 * c + 4 ≤ L) (hce : ce + 1000 ≤ 601024) (hsl : sl + 14000 ≤ 7293034) (K : ∀ w', GI ((c : Int) + 1) w' → rng w' → Wm B 9 G A Q w' (ce + 1000) (sl + 14000) 1254 (LV G b ((4 * c : Nat) : Int)) []) : Wm B 9 G A Q w ce sl 883 (LV G b ((4 * c : Nat) : Int)) [] := by
  obtain ⟨C, hE, hl9, hX, hbl, hbA, hL9, h7, h71⟩ := Z
  have hG : Gok G := C.2.2.2.2.2.2.1
  have ok3 : okk G (3, 0, 0) := hG.2 _ (by decide) (by decide)
  have ok6 : okk G (6, 0, 0) := hG.2 _ (by decide) (by decide)
  have hL := hI.1.1
  obtain ⟨N1, D1, hL1⟩ := hI.1.2
  obtain ⟨v, hv9⟩ : ∃ v, (xs (4 * c + 1)).toInt = v := ⟨_, rfl⟩
  have hv : inR v := by rw [← hv9]; exact inR_of _
  obtain ⟨u, hu9⟩ : ∃ u, (xs (4 * c + 2)).toInt = u := ⟨_, rfl⟩
  have hu : inR u := by rw [← hu9]; exact inR_of _
  obtain ⟨W, hW⟩ : ∃ W, W = wr6 (if lV w v ∧ lV w u then none else eI) w w (wfd (lwm w v.toNat) u.toNat 8 0) := ⟨_, rfl⟩
  obtain ⟨k, hk⟩ : ∃ k, k = cd xI (if lV w v ∧ lV w u then none else eI) := ⟨_, rfl⟩
  have hWt : ∀ t i p j, 2 ≤ t → t ≠ 6 → W (t, i, p) j = w (t, i, p) j := by rw [hW]; exact wr6_t (fun _ _ _ _ _ _ => rfl)
  have hGW := GR_w hI.2.1 hWt
  obtain ⟨hS, ⟨N5, D5, X5, hS5⟩, hM⟩ := id hGW
  have hM1 : ConW B.2.1 G yL_way wsL_way { frames := 8, cells := 2, slots := 12, locals := 8 + (5 + 11) + 103 } w [.ref (adr G (2, 0, 0)), vI v, vI u, .ref (adr G (6, 0, 0))] (some (vI k)) W 2 12 := by
    rw [hk, hW]
    exact c_L_way (o := (if lV w v ∧ lV w u then none else eI)) (w' := w) (v := (wfd (lwm w v.toNat) u.toNat 8 0)) (rm := { frames := 7, cells := 2, slots := 12, locals := 103 }) (mc := 2) (ms := 12) hG (c_X3_way hG hl9 hv hu hL) rfl rfl (fun _ _ => inR_sm (by have := wfd_b (M := lwm w v.toNat) (to := u.toNat) 8 0; omega)) (by (repeat' split) <;> simp)
  obtain ⟨M, hMd⟩ : ∃ M, M = (if isV W v ∧ isV W u then th0 W else thn W 1) := ⟨_, rfl⟩
  obtain ⟨aw, haw⟩ : ∃ aw, aw = (if isV W v ∧ isV W u then wfd (rwm (st1 W (3, 0, 0) 0 0) (W (3, 0, 0) 1).toNat v.toNat) u.toNat (W (3, 0, 0) 1).toNat 0 else 0) := ⟨_, rfl⟩
  obtain ⟨s1, s2, s3⟩ : OKs c k M aw := by rw [hMd, haw]; exact st_way hI hW hk
  have hM2 : Con B.2.1 G yX5_way wsX5_way ({ frames := 3, cells := 0, slots := 0, locals := 65 } : Room) W [.ref (adr G (3, 0, 0)), vI v, vI u] (some (vI aw)) M 0 0 := by
    rw [hMd, haw]
    exact c_X5_way hG hv hu hM.1 hS hM
  have hMt : Con B.2.1 G yX5_thrown wsX5_thrown ({ frames := 0, cells := 0, slots := 0, locals := 0 } : Room) M [.ref (adr G (3, 0, 0))] (some (vI k)) M 0 0 := by
    rw [← s1]
    exact c_X5_thrown hG
  have hkR : inR k := by rw [hk]; exact cd_R
  refine r_aload_n (k := 2) C dL_law_883 rfl ?_
  refine r_aload_n (k := 1) C dL_law_884 rfl ?_
  refine r_iload (k := 0) C dL_law_885 rfl ?_
  refine r_iconst C dL_law_887 ?_
  refine r_iadd C dL_law_888 ?_
  refine r_sld C hX hbl hbA (4 * c + 1) hv9 (by omega) (by omega) hL9 dL_law_889 ?_
  refine r_aload_n (k := 1) C dL_law_890 rfl ?_
  refine r_iload (k := 0) C dL_law_891 rfl ?_
  refine r_iconst C dL_law_893 ?_
  refine r_iadd C dL_law_894 ?_
  refine r_sld C hX hbl hbA (4 * c + 2) hu9 (by omega) (by omega) hL9 dL_law_895 ?_
  refine r_aload_n (k := 4) C dL_law_896 rfl ?_
  refine r_callSW (rest := []) C hE [.ref (adr G (2, 0, 0)), vI v, vI u, .ref (adr G (6, 0, 0))] 4 hM1 gL_law_L_way rfl rfl rfl ⟨by decide, by decide, by decide +kernel⟩ (by decide) (by decide) ⟨by show ce + 2 ≤ 601024; omega, by show sl + 12 ≤ 7293034; omega⟩ rfl rfl (Nat.le_of_ble_eq_true rfl) rfl dL_law_897 (fun hr1 => ?_)
  refine r_istore (lv' := LV5 G b ((4 * c : Nat) : Int) k) C dL_law_900 (by decide) rfl ?_
  refine r_aload_n (k := 4) C dL_law_902 rfl ?_
  refine r_aload_n (k := 2) C dL_law_903 rfl ?_
  refine r_iload (k := 1) C dL_law_904 rfl ?_
  refine r_iconst C dL_law_906 ?_
  refine r_iadd C dL_law_907 ?_
  refine r_sld C hX hbl hbA (4 * c + 1) hv9 (by omega) (by omega) hL9 dL_law_908 ?_
  refine r_aload_n (k := 2) C dL_law_909 rfl ?_
  refine r_iload (k := 1) C dL_law_910 rfl ?_
  refine r_iconst C dL_law_912 ?_
  refine r_iadd C dL_law_913 ?_
  refine r_sld C hX hbl hbA (4 * c + 2) hu9 (by omega) (by omega) hL9 dL_law_914 ?_
  refine r_callV (rest := []) (k0 := (3, 0, 0)) (ci := 5) (nk := 0) C [vI v, vI u] 2 hM2 gL_law_X5_way rfl rfl rfl ⟨rfl, by decide, by decide, by decide +kernel⟩ (by decide) (by decide) ⟨by show ce + 2 + 0 ≤ 601024; omega, by show sl + 12 + 0 ≤ 7293034; omega⟩ ok3 rfl (by decide) rfl rfl rfl (Nat.le_of_ble_eq_true rfl) rfl dL_law_915 (fun hr2 => ?_)
  refine r_istore (lv' := LV6 G b ((4 * c : Nat) : Int) k aw) C dL_law_918 (by decide) rfl ?_
  refine r_aload_n (k := 5) C dL_law_920 rfl ?_
  refine r_callV (rest := []) (k0 := (3, 0, 0)) (ci := 5) (nk := 0) C [] 0 hMt gL_law_X5_thrown rfl rfl rfl ⟨rfl, by decide, by decide, by decide +kernel⟩ (by decide) (by decide) ⟨by show ce + 2 + 0 + 0 ≤ 601024; omega, by show sl + 12 + 0 + 0 ≤ 7293034; omega⟩ ok3 rfl (by decide) rfl rfl rfl (Nat.le_of_ble_eq_true rfl) rfl dL_law_921 (fun _ => ?_)
  refine r_iload (k := 1) C dL_law_924 rfl ?_
  refine r_icmp_eq (tgt := 931) C dL_law_926 rfl hkR hkR (fun _ => ?_) (fun h => absurd rfl h)
  refine r_iload (k := 1) C dL_law_931 rfl ?_
  have fin : Wm B 9 G A Q M (ce + 2 + 0 + 0) (sl + 12 + 0 + 0) 948 (LV6 G b ((4 * c : Nat) : Int) k aw) [] := by
    refine r_goto (tgt := 1254) C dL_law_948 rfl ?_
    refine Wm.sub (lv' := LV G b ((4 * c : Nat) : Int)) [2, 3, 4, 5, 6] rfl ?_
    exact Wm.ge (by omega) (by omega) (K M s3 hr2)
  refine r_if_ne (tgt := 948) C dL_law_933 rfl hkR (fun _ => fin) (fun hk0 => ?_)
  have e6 := s2 hk0
  refine r_aload_n (k := 6) C dL_law_936 rfl ?_
  refine r_iconst C dL_law_937 ?_
  refine r_lald (k := (6, 0, 0)) (len := 1) C 0 ok6 rfl rfl (by decide) (by decide) dL_law_938 ?_
  refine r_iload (k := 0) C dL_law_939 rfl ?_
  refine r_i2l C dL_law_941 (by rw [← e6]; exact hr2 _ _) ?_
  refine r_lcmpE C (by rw [e6]) dL_law_942 ?_
  exact r_if_eq (tgt := 948) C dL_law_943 rfl ⟨by decide, by decide⟩ (fun _ => fin) (fun h => absurd rfl h)
theorem law_pass {B : Bx} {G : Gt} {A : Nat → Prop} {Q : State → Prop} {b L : Nat} {xs : Nat → Int32} (Z : Lw B G A b L xs) {c ce sl : Nat} {w : Mm} (hI : GI c w) (hc : c < 512) (hr : rng w) (hb9 : 4 * c + 4 ≤ L) (hce : ce + 1000 ≤ 601024) (hsl : sl + 14000 ≤ 7293034) (K : ∀ w', GI ((c : Int) + 1) w' → rng w' → Wm B 9 G A Q w' (ce + 1000) (sl + 14000) 1254 (LV G b ((4 * c : Nat) : Int)) []) : Wm B 9 G A Q w ce sl 951 (LV G b ((4 * c : Nat) : Int)) [] := by
  obtain ⟨C, hE, hl9, hX, hbl, hbA, hL9, h7, h71⟩ := Z
  have hG : Gok G := C.2.2.2.2.2.2.1
  have ok3 : okk G (3, 0, 0) := hG.2 _ (by decide) (by decide)
  have ok6 : okk G (6, 0, 0) := hG.2 _ (by decide) (by decide)
  have hL := hI.1.1
  obtain ⟨N1, D1, hL1⟩ := hI.1.2
  obtain ⟨n, hn9⟩ : ∃ n, (xs (4 * c + 1)).toInt = n := ⟨_, rfl⟩
  have hn : inR n := by rw [← hn9]; exact inR_of _
  obtain ⟨W, hW⟩ : ∃ W, W = wr6 (if 1 ≤ n ∧ n ≤ 200 then none else eA) w (s0go 0 n.toNat w).1 (s0go 0 n.toNat w).2 := ⟨_, rfl⟩
  obtain ⟨k, hk⟩ : ∃ k, k = cd xA (if 1 ≤ n ∧ n ≤ 200 then none else eA) := ⟨_, rfl⟩
  have hWt : ∀ t i p j, 2 ≤ t → t ≠ 6 → W (t, i, p) j = w (t, i, p) j := by rw [hW]; exact wr6_t (fun _ t i q j ht => s0go_sl _ _ j (by show t ≠ 0; omega))
  have hGW := GR_w hI.2.1 hWt
  obtain ⟨hS, ⟨N5, D5, X5, hS5⟩, hM⟩ := id hGW
  have hM1 : ConW B.2.1 G yL_pass wsL_pass { frames := 7, cells := 1, slots := 6, locals := 8 + (2 + 11) + 120 } w [.ref (adr G (2, 0, 0)), vI n, .ref (adr G (6, 0, 0))] (some (vI k)) W 1 6 := by
    rw [hk, hW]
    exact c_L_pass (o := (if 1 ≤ n ∧ n ≤ 200 then none else eA)) (w' := (s0go 0 n.toNat w).1) (v := (s0go 0 n.toNat w).2) (rm := { frames := 6, cells := 1, slots := 6, locals := 120 }) (mc := 1) (ms := 6) hG (c_X3_pass hG hl9 hn hL ⟨by omega, by omega, fun u _ => by show 22400 * (c : Int) ≤ 800000000; omega⟩) rfl rfl (fun ho _ => pass_b hI (of_ite ho)) (by (repeat' split) <;> simp)
  obtain ⟨M, hMd⟩ : ∃ M, M = (if 1 ≤ n ∧ n ≤ 200 then rgo (th0 W) 4 n.toNat else thn W 1) := ⟨_, rfl⟩
  obtain ⟨aw, haw⟩ : ∃ aw, aw = (if 1 ≤ n ∧ n ≤ 200 then ((rgl (th0 W) 4 n.toNat : Nat) : Int) else 0) := ⟨_, rfl⟩
  obtain ⟨s1, s2, s3⟩ : OKs c k M aw := by rw [hMd, haw]; exact st_pass hI hW hk
  have hM2 : Con B.2.1 G yX5_pass wsX5_pass ({ frames := 5, cells := 0, slots := 0, locals := 112 } : Room) W [.ref (adr G (3, 0, 0)), vI n] (some (vI aw)) M 0 0 := by
    rw [hMd, haw]
    exact c_X5_pass hG hn hS hM ⟨by omega, by omega, by omega⟩ (fun i _ => hs_pass hI hWt i)
  have hMt : Con B.2.1 G yX5_thrown wsX5_thrown ({ frames := 0, cells := 0, slots := 0, locals := 0 } : Room) M [.ref (adr G (3, 0, 0))] (some (vI k)) M 0 0 := by
    rw [← s1]
    exact c_X5_thrown hG
  have hkR : inR k := by rw [hk]; exact cd_R
  refine r_aload_n (k := 2) C dL_law_951 rfl ?_
  refine r_aload_n (k := 1) C dL_law_952 rfl ?_
  refine r_iload (k := 0) C dL_law_953 rfl ?_
  refine r_iconst C dL_law_955 ?_
  refine r_iadd C dL_law_956 ?_
  refine r_sld C hX hbl hbA (4 * c + 1) hn9 (by omega) (by omega) hL9 dL_law_957 ?_
  refine r_aload_n (k := 4) C dL_law_958 rfl ?_
  refine r_callSW (rest := []) C hE [.ref (adr G (2, 0, 0)), vI n, .ref (adr G (6, 0, 0))] 3 hM1 gL_law_L_pass rfl rfl rfl ⟨by decide, by decide, by decide +kernel⟩ (by decide) (by decide) ⟨by show ce + 1 ≤ 601024; omega, by show sl + 6 ≤ 7293034; omega⟩ rfl rfl (Nat.le_of_ble_eq_true rfl) rfl dL_law_959 (fun hr1 => ?_)
  refine r_istore (lv' := LV5 G b ((4 * c : Nat) : Int) k) C dL_law_962 (by decide) rfl ?_
  refine r_aload_n (k := 4) C dL_law_964 rfl ?_
  refine r_aload_n (k := 2) C dL_law_965 rfl ?_
  refine r_iload (k := 1) C dL_law_966 rfl ?_
  refine r_iconst C dL_law_968 ?_
  refine r_iadd C dL_law_969 ?_
  refine r_sld C hX hbl hbA (4 * c + 1) hn9 (by omega) (by omega) hL9 dL_law_970 ?_
  refine r_callV (rest := []) (k0 := (3, 0, 0)) (ci := 5) (nk := 0) C [vI n] 1 hM2 gL_law_X5_pass rfl rfl rfl ⟨rfl, by decide, by decide, by decide +kernel⟩ (by decide) (by decide) ⟨by show ce + 1 + 0 ≤ 601024; omega, by show sl + 6 + 0 ≤ 7293034; omega⟩ ok3 rfl (by decide) rfl rfl rfl (Nat.le_of_ble_eq_true rfl) rfl dL_law_971 (fun hr2 => ?_)
  refine r_istore (lv' := LV6 G b ((4 * c : Nat) : Int) k aw) C dL_law_974 (by decide) rfl ?_
  refine r_aload_n (k := 5) C dL_law_976 rfl ?_
  refine r_callV (rest := []) (k0 := (3, 0, 0)) (ci := 5) (nk := 0) C [] 0 hMt gL_law_X5_thrown rfl rfl rfl ⟨rfl, by decide, by decide, by decide +kernel⟩ (by decide) (by decide) ⟨by show ce + 1 + 0 + 0 ≤ 601024; omega, by show sl + 6 + 0 + 0 ≤ 7293034; omega⟩ ok3 rfl (by decide) rfl rfl rfl (Nat.le_of_ble_eq_true rfl) rfl dL_law_977 (fun _ => ?_)
  refine r_iload (k := 1) C dL_law_980 rfl ?_
  refine r_icmp_eq (tgt := 987) C dL_law_982 rfl hkR hkR (fun _ => ?_) (fun h => absurd rfl h)
  refine r_iload (k := 1) C dL_law_987 rfl ?_
  have fin : Wm B 9 G A Q M (ce + 1 + 0 + 0) (sl + 6 + 0 + 0) 1004 (LV6 G b ((4 * c : Nat) : Int) k aw) [] := by
    refine r_goto (tgt := 1254) C dL_law_1004 rfl ?_
    refine Wm.sub (lv' := LV G b ((4 * c : Nat) : Int)) [2, 3, 4, 5, 6] rfl ?_
    exact Wm.ge (by omega) (by omega) (K M s3 hr2)
  refine r_if_ne (tgt := 1004) C dL_law_989 rfl hkR (fun _ => fin) (fun hk0 => ?_)
  have e6 := s2 hk0
  refine r_aload_n (k := 6) C dL_law_992 rfl ?_
  refine r_iconst C dL_law_993 ?_
  refine r_lald (k := (6, 0, 0)) (len := 1) C 0 ok6 rfl rfl (by decide) (by decide) dL_law_994 ?_
  refine r_iload (k := 0) C dL_law_995 rfl ?_
  refine r_i2l C dL_law_997 (by rw [← e6]; exact hr2 _ _) ?_
  refine r_lcmpE C (by rw [e6]) dL_law_998 ?_
  exact r_if_eq (tgt := 1004) C dL_law_999 rfl ⟨by decide, by decide⟩ (fun _ => fin) (fun h => absurd rfl h)
theorem law_reaches {B : Bx} {G : Gt} {A : Nat → Prop} {Q : State → Prop} {b L : Nat} {xs : Nat → Int32} (Z : Lw B G A b L xs) {c ce sl : Nat} {w : Mm} (hI : GI c w) (hc : c < 512) (hr : rng w) (hb9 : 4 * c + 4 ≤ L) (hce : ce + 1000 ≤ 601024) (hsl : sl + 14000 ≤ 7293034) (K : ∀ w', GI ((c : Int) + 1) w' → rng w' → Wm B 9 G A Q w' (ce + 1000) (sl + 14000) 1254 (LV G b ((4 * c : Nat) : Int)) []) : Wm B 9 G A Q w ce sl 1007 (LV G b ((4 * c : Nat) : Int)) [] := by
  obtain ⟨C, hE, hl9, hX, hbl, hbA, hL9, h7, h71⟩ := Z
  have hG : Gok G := C.2.2.2.2.2.2.1
  have ok3 : okk G (3, 0, 0) := hG.2 _ (by decide) (by decide)
  have ok6 : okk G (6, 0, 0) := hG.2 _ (by decide) (by decide)
  have hL := hI.1.1
  obtain ⟨N1, D1, hL1⟩ := hI.1.2
  obtain ⟨v, hv9⟩ : ∃ v, (xs (4 * c + 1)).toInt = v := ⟨_, rfl⟩
  have hv : inR v := by rw [← hv9]; exact inR_of _
  obtain ⟨p, hp9⟩ : ∃ p, (xs (4 * c + 2)).toInt = p := ⟨_, rfl⟩
  have hp : inR p := by rw [← hp9]; exact inR_of _
  obtain ⟨W, hW⟩ : ∃ W, W = wr6 (if lV w v ∧ lP w p then none else eI) w (lgo (s0cp w 1 0) (lst (s0cp w 1 0) v.toNat p 201 0)) (if lst (s0cp w 1 0) v.toNat p 201 0 ≤ 200 then ((lst (s0cp w 1 0) v.toNat p 201 0 : Nat) : Int) else -1) := ⟨_, rfl⟩
  obtain ⟨k, hk⟩ : ∃ k, k = cd xI (if lV w v ∧ lP w p then none else eI) := ⟨_, rfl⟩
  have hWt : ∀ t i p j, 2 ≤ t → t ≠ 6 → W (t, i, p) j = w (t, i, p) j := by rw [hW]; exact wr6_t (fun _ t i q j ht => (s0cp_sl.tr (lgo_LI (LI_cp (by decide) hL hL1) _).2) _ j (by show t ≠ 1; omega))
  have hGW := GR_w hI.2.1 hWt
  obtain ⟨hS, ⟨N5, D5, X5, hS5⟩, hM⟩ := id hGW
  have hM1 : ConW B.2.1 G yL_reaches wsL_reaches { frames := 8, cells := 2, slots := 12, locals := 8 + (5 + 11) + 120 } w [.ref (adr G (2, 0, 0)), vI v, vI p, .ref (adr G (6, 0, 0))] (some (vI k)) W 2 12 := by
    rw [hk, hW]
    exact c_L_reaches (o := (if lV w v ∧ lP w p then none else eI)) (w' := (lgo (s0cp w 1 0) (lst (s0cp w 1 0) v.toNat p 201 0))) (v := (if lst (s0cp w 1 0) v.toNat p 201 0 ≤ 200 then ((lst (s0cp w 1 0) v.toNat p 201 0 : Nat) : Int) else -1)) (rm := { frames := 7, cells := 2, slots := 12, locals := 120 }) (mc := 2) (ms := 12) hG (c_X3_reaches hG hl9 hv hp hL hL1 ⟨by omega, by omega, by omega, fun u _ => by show 22400 * (c : Int) ≤ 300000 * ((c : Int) + 1); omega⟩) rfl rfl (fun _ _ => inR_sm (by split <;> omega)) (by (repeat' split) <;> simp)
  obtain ⟨M, hMd⟩ : ∃ M, M = (if isV W v ∧ isP W p then rgo (wAh W) 5 (rst (wAh W) (12 * v + p).toNat 201 0) else thn W 1) := ⟨_, rfl⟩
  obtain ⟨aw, haw⟩ : ∃ aw, aw = (if isV W v ∧ isP W p then (if rst (wAh W) (12 * v + p).toNat 201 0 ≤ 200 then ((rst (wAh W) (12 * v + p).toNat 201 0 : Nat) : Int) else -1) else 0) := ⟨_, rfl⟩
  obtain ⟨s1, s2, s3⟩ : OKs c k M aw := by rw [hMd, haw]; exact st_reaches hI hW hk
  have hM2 : Con B.2.1 G yX5_reaches wsX5_reaches ({ frames := 5, cells := 0, slots := 0, locals := 112 } : Room) W [.ref (adr G (3, 0, 0)), vI v, vI p] (some (vI aw)) M 0 0 := by
    rw [hMd, haw]
    exact c_X5_reaches hG hv hp hM.1 hM.2.1 hS hS5 hM ⟨by omega, by omega, by omega⟩ (fun i _ => hs_reach hI hWt i)
  have hMt : Con B.2.1 G yX5_thrown wsX5_thrown ({ frames := 0, cells := 0, slots := 0, locals := 0 } : Room) M [.ref (adr G (3, 0, 0))] (some (vI k)) M 0 0 := by
    rw [← s1]
    exact c_X5_thrown hG
  have hkR : inR k := by rw [hk]; exact cd_R
  refine r_aload_n (k := 2) C dL_law_1007 rfl ?_
  refine r_aload_n (k := 1) C dL_law_1008 rfl ?_
  refine r_iload (k := 0) C dL_law_1009 rfl ?_
  refine r_iconst C dL_law_1011 ?_
  refine r_iadd C dL_law_1012 ?_
  refine r_sld C hX hbl hbA (4 * c + 1) hv9 (by omega) (by omega) hL9 dL_law_1013 ?_
  refine r_aload_n (k := 1) C dL_law_1014 rfl ?_
  refine r_iload (k := 0) C dL_law_1015 rfl ?_
  refine r_iconst C dL_law_1017 ?_
  refine r_iadd C dL_law_1018 ?_
  refine r_sld C hX hbl hbA (4 * c + 2) hp9 (by omega) (by omega) hL9 dL_law_1019 ?_
  refine r_aload_n (k := 4) C dL_law_1020 rfl ?_
  refine r_callSW (rest := []) C hE [.ref (adr G (2, 0, 0)), vI v, vI p, .ref (adr G (6, 0, 0))] 4 hM1 gL_law_L_reaches rfl rfl rfl ⟨by decide, by decide, by decide +kernel⟩ (by decide) (by decide) ⟨by show ce + 2 ≤ 601024; omega, by show sl + 12 ≤ 7293034; omega⟩ rfl rfl (Nat.le_of_ble_eq_true rfl) rfl dL_law_1021 (fun hr1 => ?_)
  refine r_istore (lv' := LV5 G b ((4 * c : Nat) : Int) k) C dL_law_1024 (by decide) rfl ?_
  refine r_aload_n (k := 4) C dL_law_1026 rfl ?_
  refine r_aload_n (k := 2) C dL_law_1027 rfl ?_
  refine r_iload (k := 1) C dL_law_1028 rfl ?_
  refine r_iconst C dL_law_1030 ?_
  refine r_iadd C dL_law_1031 ?_
  refine r_sld C hX hbl hbA (4 * c + 1) hv9 (by omega) (by omega) hL9 dL_law_1032 ?_
  refine r_aload_n (k := 2) C dL_law_1033 rfl ?_
  refine r_iload (k := 1) C dL_law_1034 rfl ?_
  refine r_iconst C dL_law_1036 ?_
  refine r_iadd C dL_law_1037 ?_
  refine r_sld C hX hbl hbA (4 * c + 2) hp9 (by omega) (by omega) hL9 dL_law_1038 ?_
  refine r_callV (rest := []) (k0 := (3, 0, 0)) (ci := 5) (nk := 0) C [vI v, vI p] 2 hM2 gL_law_X5_reaches rfl rfl rfl ⟨rfl, by decide, by decide, by decide +kernel⟩ (by decide) (by decide) ⟨by show ce + 2 + 0 ≤ 601024; omega, by show sl + 12 + 0 ≤ 7293034; omega⟩ ok3 rfl (by decide) rfl rfl rfl (Nat.le_of_ble_eq_true rfl) rfl dL_law_1039 (fun hr2 => ?_)
  refine r_istore (lv' := LV6 G b ((4 * c : Nat) : Int) k aw) C dL_law_1042 (by decide) rfl ?_
  refine r_aload_n (k := 5) C dL_law_1044 rfl ?_
  refine r_callV (rest := []) (k0 := (3, 0, 0)) (ci := 5) (nk := 0) C [] 0 hMt gL_law_X5_thrown rfl rfl rfl ⟨rfl, by decide, by decide, by decide +kernel⟩ (by decide) (by decide) ⟨by show ce + 2 + 0 + 0 ≤ 601024; omega, by show sl + 12 + 0 + 0 ≤ 7293034; omega⟩ ok3 rfl (by decide) rfl rfl rfl (Nat.le_of_ble_eq_true rfl) rfl dL_law_1045 (fun _ => ?_)
  refine r_iload (k := 1) C dL_law_1048 rfl ?_
  refine r_icmp_eq (tgt := 1055) C dL_law_1050 rfl hkR hkR (fun _ => ?_) (fun h => absurd rfl h)
  refine r_iload (k := 1) C dL_law_1055 rfl ?_
  have fin : Wm B 9 G A Q M (ce + 2 + 0 + 0) (sl + 12 + 0 + 0) 1072 (LV6 G b ((4 * c : Nat) : Int) k aw) [] := by
    refine r_goto (tgt := 1254) C dL_law_1072 rfl ?_
    refine Wm.sub (lv' := LV G b ((4 * c : Nat) : Int)) [2, 3, 4, 5, 6] rfl ?_
    exact Wm.ge (by omega) (by omega) (K M s3 hr2)
  refine r_if_ne (tgt := 1072) C dL_law_1057 rfl hkR (fun _ => fin) (fun hk0 => ?_)
  have e6 := s2 hk0
  refine r_aload_n (k := 6) C dL_law_1060 rfl ?_
  refine r_iconst C dL_law_1061 ?_
  refine r_lald (k := (6, 0, 0)) (len := 1) C 0 ok6 rfl rfl (by decide) (by decide) dL_law_1062 ?_
  refine r_iload (k := 0) C dL_law_1063 rfl ?_
  refine r_i2l C dL_law_1065 (by rw [← e6]; exact hr2 _ _) ?_
  refine r_lcmpE C (by rw [e6]) dL_law_1066 ?_
  exact r_if_eq (tgt := 1072) C dL_law_1067 rfl ⟨by decide, by decide⟩ (fun _ => fin) (fun h => absurd rfl h)
theorem law_best {B : Bx} {G : Gt} {A : Nat → Prop} {Q : State → Prop} {b L : Nat} {xs : Nat → Int32} (Z : Lw B G A b L xs) {c ce sl : Nat} {w : Mm} (hI : GI c w) (hc : c < 512) (hr : rng w) (hb9 : 4 * c + 4 ≤ L) (hce : ce + 1000 ≤ 601024) (hsl : sl + 14000 ≤ 7293034) (K : ∀ w', GI ((c : Int) + 1) w' → rng w' → Wm B 9 G A Q w' (ce + 1000) (sl + 14000) 1254 (LV G b ((4 * c : Nat) : Int)) []) : Wm B 9 G A Q w ce sl 1075 (LV G b ((4 * c : Nat) : Int)) [] := by
  obtain ⟨C, hE, hl9, hX, hbl, hbA, hL9, h7, h71⟩ := Z
  have hG : Gok G := C.2.2.2.2.2.2.1
  have ok3 : okk G (3, 0, 0) := hG.2 _ (by decide) (by decide)
  have ok6 : okk G (6, 0, 0) := hG.2 _ (by decide) (by decide)
  have hL := hI.1.1
  obtain ⟨N1, D1, hL1⟩ := hI.1.2
  obtain ⟨v, hv9⟩ : ∃ v, (xs (4 * c + 1)).toInt = v := ⟨_, rfl⟩
  have hv : inR v := by rw [← hv9]; exact inR_of _
  obtain ⟨p, hp9⟩ : ∃ p, (xs (4 * c + 2)).toInt = p := ⟨_, rfl⟩
  have hp : inR p := by rw [← hp9]; exact inR_of _
  obtain ⟨W, hW⟩ : ∃ W, W = wr6 (if lV w v ∧ lP w p then none else eI) w (lbs (s0go 1 80 (s0cp w 1 0)).1 (s0kno (s0go 1 80 (s0cp w 1 0)).1 1 p) v.toNat p 24).1 (lbs (s0go 1 80 (s0cp w 1 0)).1 (s0kno (s0go 1 80 (s0cp w 1 0)).1 1 p) v.toNat p 24).2.1 := ⟨_, rfl⟩
  obtain ⟨k, hk⟩ : ∃ k, k = cd xI (if lV w v ∧ lP w p then none else eI) := ⟨_, rfl⟩
  have hWt : ∀ t i p j, 2 ≤ t → t ≠ 6 → W (t, i, p) j = w (t, i, p) j := by rw [hW]; exact wr6_t (fun ho t i q j ht => by have t2 := hI.R (W := w) (fun _ _ _ _ _ _ => rfl); exact (best_end (r := th0 w) (Nat.le_refl 24) hI t2.2.2.1 t2.1 (of_ite ho).1 (of_ite ho).2).2.2.2.1 _ j (by show t ≠ 1; omega))
  have hGW := GR_w hI.2.1 hWt
  obtain ⟨hS, ⟨N5, D5, X5, hS5⟩, hM⟩ := id hGW
  have hM1 : ConW B.2.1 G yL_best wsL_best { frames := 8, cells := 2, slots := 12, locals := 8 + (7 + 11) + 144 } w [.ref (adr G (2, 0, 0)), vI v, vI p, .ref (adr G (6, 0, 0))] (some (vI k)) W 2 12 := by
    rw [hk, hW]
    exact c_L_best (o := (if lV w v ∧ lP w p then none else eI)) (w' := (lbs (s0go 1 80 (s0cp w 1 0)).1 (s0kno (s0go 1 80 (s0cp w 1 0)).1 1 p) v.toNat p 24).1) (v := (lbs (s0go 1 80 (s0cp w 1 0)).1 (s0kno (s0go 1 80 (s0cp w 1 0)).1 1 p) v.toNat p 24).2.1) (rm := { frames := 7, cells := 2, slots := 12, locals := 144 }) (mc := 2) (ms := 12) hG (c_X3_best hG hl9 hv hp hL hL1 ⟨by omega, by omega, by omega, fun u _ => by show 22400 * (c : Int) ≤ 300000 * ((c : Int) + 1); omega⟩) rfl rfl (fun _ _ => inR_sm (by have := lbs_b (W := (s0go 1 80 (s0cp w 1 0)).1) (m0 := s0kno (s0go 1 80 (s0cp w 1 0)).1 1 p) (p := p) (v := v.toNat) 24; omega)) (by (repeat' split) <;> simp)
  obtain ⟨M, hMd⟩ : ∃ M, M = (if isV W v ∧ isP W p then (rbs (th0 W) v p (24 + 1)).1 else thn W 1) := ⟨_, rfl⟩
  obtain ⟨aw, haw⟩ : ∃ aw, aw = (if isV W v ∧ isP W p then (rbs (th0 W) v p (24 + 1)).2.1 else 0) := ⟨_, rfl⟩
  obtain ⟨s1, s2, s3⟩ : OKs c k M aw := by rw [hMd, haw]; exact st_best (Nat.le_refl 24) hI hW hk
  have hM2 : Con B.2.1 G yX5_best wsX5_best ({ frames := 5, cells := 0, slots := 0, locals := 112 } : Room) W [.ref (adr G (3, 0, 0)), vI v, vI p] (some (vI aw)) M 0 0 := by
    rw [hMd, haw]
    exact c_X5_best hG hv hp hM.1 hM.2.1 hS hS5 hM ⟨by omega, by omega, by omega⟩ (fun c1 c2 i j hi hj => hs_best hI hWt c1 c2 i j hi hj)
  have hMt : Con B.2.1 G yX5_thrown wsX5_thrown ({ frames := 0, cells := 0, slots := 0, locals := 0 } : Room) M [.ref (adr G (3, 0, 0))] (some (vI k)) M 0 0 := by
    rw [← s1]
    exact c_X5_thrown hG
  have hkR : inR k := by rw [hk]; exact cd_R
  refine r_aload_n (k := 2) C dL_law_1075 rfl ?_
  refine r_aload_n (k := 1) C dL_law_1076 rfl ?_
  refine r_iload (k := 0) C dL_law_1077 rfl ?_
  refine r_iconst C dL_law_1079 ?_
  refine r_iadd C dL_law_1080 ?_
  refine r_sld C hX hbl hbA (4 * c + 1) hv9 (by omega) (by omega) hL9 dL_law_1081 ?_
  refine r_aload_n (k := 1) C dL_law_1082 rfl ?_
  refine r_iload (k := 0) C dL_law_1083 rfl ?_
  refine r_iconst C dL_law_1085 ?_
  refine r_iadd C dL_law_1086 ?_
  refine r_sld C hX hbl hbA (4 * c + 2) hp9 (by omega) (by omega) hL9 dL_law_1087 ?_
  refine r_aload_n (k := 4) C dL_law_1088 rfl ?_
  refine r_callSW (rest := []) C hE [.ref (adr G (2, 0, 0)), vI v, vI p, .ref (adr G (6, 0, 0))] 4 hM1 gL_law_L_best rfl rfl rfl ⟨by decide, by decide, by decide +kernel⟩ (by decide) (by decide) ⟨by show ce + 2 ≤ 601024; omega, by show sl + 12 ≤ 7293034; omega⟩ rfl rfl (Nat.le_of_ble_eq_true rfl) rfl dL_law_1089 (fun hr1 => ?_)
  refine r_istore (lv' := LV5 G b ((4 * c : Nat) : Int) k) C dL_law_1092 (by decide) rfl ?_
  refine r_aload_n (k := 4) C dL_law_1094 rfl ?_
  refine r_aload_n (k := 2) C dL_law_1095 rfl ?_
  refine r_iload (k := 1) C dL_law_1096 rfl ?_
  refine r_iconst C dL_law_1098 ?_
  refine r_iadd C dL_law_1099 ?_
  refine r_sld C hX hbl hbA (4 * c + 1) hv9 (by omega) (by omega) hL9 dL_law_1100 ?_
  refine r_aload_n (k := 2) C dL_law_1101 rfl ?_
  refine r_iload (k := 1) C dL_law_1102 rfl ?_
  refine r_iconst C dL_law_1104 ?_
  refine r_iadd C dL_law_1105 ?_
  refine r_sld C hX hbl hbA (4 * c + 2) hp9 (by omega) (by omega) hL9 dL_law_1106 ?_
  refine r_callV (rest := []) (k0 := (3, 0, 0)) (ci := 5) (nk := 0) C [vI v, vI p] 2 hM2 gL_law_X5_best rfl rfl rfl ⟨rfl, by decide, by decide, by decide +kernel⟩ (by decide) (by decide) ⟨by show ce + 2 + 0 ≤ 601024; omega, by show sl + 12 + 0 ≤ 7293034; omega⟩ ok3 rfl (by decide) rfl rfl rfl (Nat.le_of_ble_eq_true rfl) rfl dL_law_1107 (fun hr2 => ?_)
  refine r_istore (lv' := LV6 G b ((4 * c : Nat) : Int) k aw) C dL_law_1110 (by decide) rfl ?_
  refine r_aload_n (k := 5) C dL_law_1112 rfl ?_
  refine r_callV (rest := []) (k0 := (3, 0, 0)) (ci := 5) (nk := 0) C [] 0 hMt gL_law_X5_thrown rfl rfl rfl ⟨rfl, by decide, by decide, by decide +kernel⟩ (by decide) (by decide) ⟨by show ce + 2 + 0 + 0 ≤ 601024; omega, by show sl + 12 + 0 + 0 ≤ 7293034; omega⟩ ok3 rfl (by decide) rfl rfl rfl (Nat.le_of_ble_eq_true rfl) rfl dL_law_1113 (fun _ => ?_)
  refine r_iload (k := 1) C dL_law_1116 rfl ?_
  refine r_icmp_eq (tgt := 1123) C dL_law_1118 rfl hkR hkR (fun _ => ?_) (fun h => absurd rfl h)
  refine r_iload (k := 1) C dL_law_1123 rfl ?_
  have fin : Wm B 9 G A Q M (ce + 2 + 0 + 0) (sl + 12 + 0 + 0) 1140 (LV6 G b ((4 * c : Nat) : Int) k aw) [] := by
    refine r_goto (tgt := 1254) C dL_law_1140 rfl ?_
    refine Wm.sub (lv' := LV G b ((4 * c : Nat) : Int)) [2, 3, 4, 5, 6] rfl ?_
    exact Wm.ge (by omega) (by omega) (K M s3 hr2)
  refine r_if_ne (tgt := 1140) C dL_law_1125 rfl hkR (fun _ => fin) (fun hk0 => ?_)
  have e6 := s2 hk0
  refine r_aload_n (k := 6) C dL_law_1128 rfl ?_
  refine r_iconst C dL_law_1129 ?_
  refine r_lald (k := (6, 0, 0)) (len := 1) C 0 ok6 rfl rfl (by decide) (by decide) dL_law_1130 ?_
  refine r_iload (k := 0) C dL_law_1131 rfl ?_
  refine r_i2l C dL_law_1133 (by rw [← e6]; exact hr2 _ _) ?_
  refine r_lcmpE C (by rw [e6]) dL_law_1134 ?_
  exact r_if_eq (tgt := 1140) C dL_law_1135 rfl ⟨by decide, by decide⟩ (fun _ => fin) (fun h => absurd rfl h)
theorem law_larger {B : Bx} {G : Gt} {A : Nat → Prop} {Q : State → Prop} {b L : Nat} {xs : Nat → Int32} (Z : Lw B G A b L xs) {c ce sl : Nat} {w : Mm} (hI : GI c w) (hc : c < 512) (hr : rng w) (hb9 : 4 * c + 4 ≤ L) (hce : ce + 1000 ≤ 601024) (hsl : sl + 14000 ≤ 7293034) (K : ∀ w', GI ((c : Int) + 1) w' → rng w' → Wm B 9 G A Q w' (ce + 1000) (sl + 14000) 1254 (LV G b ((4 * c : Nat) : Int)) []) : Wm B 9 G A Q w ce sl 1143 (LV G b ((4 * c : Nat) : Int)) [] := by
  obtain ⟨C, hE, hl9, hX, hbl, hbA, hL9, h7, h71⟩ := Z
  have hG : Gok G := C.2.2.2.2.2.2.1
  have ok3 : okk G (3, 0, 0) := hG.2 _ (by decide) (by decide)
  have ok6 : okk G (6, 0, 0) := hG.2 _ (by decide) (by decide)
  have hL := hI.1.1
  obtain ⟨N1, D1, hL1⟩ := hI.1.2
  obtain ⟨n, hn9⟩ : ∃ n, (xs (4 * c + 1)).toInt = n := ⟨_, rfl⟩
  have hn : inR n := by rw [← hn9]; exact inR_of _
  obtain ⟨W, hW⟩ : ∃ W, W = wr6 (if 1 ≤ n ∧ n ≤ 100 then none else eA) w (llg (s0go 1 n.toNat (s0cp w 1 0)).1 (s0prs (s0go 1 n.toNat (s0cp w 1 0)).1 1) n.toNat (w (0, 8, 0) 1).toNat).1 (llg (s0go 1 n.toNat (s0cp w 1 0)).1 (s0prs (s0go 1 n.toNat (s0cp w 1 0)).1 1) n.toNat (w (0, 8, 0) 1).toNat).2.1 := ⟨_, rfl⟩
  obtain ⟨k, hk⟩ : ∃ k, k = cd xA (if 1 ≤ n ∧ n ≤ 100 then none else eA) := ⟨_, rfl⟩
  have hWt : ∀ t i p j, 2 ≤ t → t ≠ 6 → W (t, i, p) j = w (t, i, p) j := by rw [hW]; exact wr6_t (fun ho t i q j ht => larger_sl hI (of_ite ho) _ j (by show t ≠ 1; omega))
  have hGW := GR_w hI.2.1 hWt
  obtain ⟨hS, ⟨N5, D5, X5, hS5⟩, hM⟩ := id hGW
  have hM1 : ConW B.2.1 G yL_larger wsL_larger { frames := 7, cells := 1, slots := 6, locals := 8 + (6 + 11) + 142 } w [.ref (adr G (2, 0, 0)), vI n, .ref (adr G (6, 0, 0))] (some (vI k)) W 1 6 := by
    rw [hk, hW]
    exact c_L_larger (o := (if 1 ≤ n ∧ n ≤ 100 then none else eA)) (w' := (llg (s0go 1 n.toNat (s0cp w 1 0)).1 (s0prs (s0go 1 n.toNat (s0cp w 1 0)).1 1) n.toNat (w (0, 8, 0) 1).toNat).1) (v := (llg (s0go 1 n.toNat (s0cp w 1 0)).1 (s0prs (s0go 1 n.toNat (s0cp w 1 0)).1 1) n.toNat (w (0, 8, 0) 1).toNat).2.1) (rm := { frames := 6, cells := 1, slots := 6, locals := 142 }) (mc := 1) (ms := 6) hG (c_X3_larger hG hl9 hn hL hL1 ⟨by omega, by omega, by omega, fun u _ => by show 22400 * (c : Int) ≤ 300000 * ((c : Int) + 1); omega⟩) rfl rfl (fun _ _ => inR_sm (by have := llg_b (W := (s0go 1 n.toNat (s0cp w 1 0)).1) (m0 := s0prs (s0go 1 n.toNat (s0cp w 1 0)).1 1) (n := n.toNat) (w (0, 8, 0) 1).toNat; have := hL.1; omega)) (by (repeat' split) <;> simp)
  obtain ⟨M, hMd⟩ : ∃ M, M = (if 1 ≤ n ∧ n ≤ 100 then (rlg (th0 W) n.toNat (W (3, 0, 0) 1 + 1).toNat).1 else thn W 1) := ⟨_, rfl⟩
  obtain ⟨aw, haw⟩ : ∃ aw, aw = (if 1 ≤ n ∧ n ≤ 100 then (rlg (th0 W) n.toNat (W (3, 0, 0) 1 + 1).toNat).2.1 else 0) := ⟨_, rfl⟩
  obtain ⟨s1, s2, s3⟩ : OKs c k M aw := by rw [hMd, haw]; exact st_larger hI hW hk
  have hM2 : Con B.2.1 G yX5_larger wsX5_larger ({ frames := 5, cells := 0, slots := 0, locals := 112 } : Room) W [.ref (adr G (3, 0, 0)), vI n] (some (vI aw)) M 0 0 := by
    rw [hMd, haw]
    exact c_X5_larger hG hn hM.1 hS hS5 hM ⟨by omega, by omega, by omega⟩ (fun i j hi hj hd => hs_larger hI hWt i j hi hj hd)
  have hMt : Con B.2.1 G yX5_thrown wsX5_thrown ({ frames := 0, cells := 0, slots := 0, locals := 0 } : Room) M [.ref (adr G (3, 0, 0))] (some (vI k)) M 0 0 := by
    rw [← s1]
    exact c_X5_thrown hG
  have hkR : inR k := by rw [hk]; exact cd_R
  refine r_aload_n (k := 2) C dL_law_1143 rfl ?_
  refine r_aload_n (k := 1) C dL_law_1144 rfl ?_
  refine r_iload (k := 0) C dL_law_1145 rfl ?_
  refine r_iconst C dL_law_1147 ?_
  refine r_iadd C dL_law_1148 ?_
  refine r_sld C hX hbl hbA (4 * c + 1) hn9 (by omega) (by omega) hL9 dL_law_1149 ?_
  refine r_aload_n (k := 4) C dL_law_1150 rfl ?_
  refine r_callSW (rest := []) C hE [.ref (adr G (2, 0, 0)), vI n, .ref (adr G (6, 0, 0))] 3 hM1 gL_law_L_larger rfl rfl rfl ⟨by decide, by decide, by decide +kernel⟩ (by decide) (by decide) ⟨by show ce + 1 ≤ 601024; omega, by show sl + 6 ≤ 7293034; omega⟩ rfl rfl (Nat.le_of_ble_eq_true rfl) rfl dL_law_1151 (fun hr1 => ?_)
  refine r_istore (lv' := LV5 G b ((4 * c : Nat) : Int) k) C dL_law_1154 (by decide) rfl ?_
  refine r_aload_n (k := 4) C dL_law_1156 rfl ?_
  refine r_aload_n (k := 2) C dL_law_1157 rfl ?_
  refine r_iload (k := 1) C dL_law_1158 rfl ?_
  refine r_iconst C dL_law_1160 ?_
  refine r_iadd C dL_law_1161 ?_
  refine r_sld C hX hbl hbA (4 * c + 1) hn9 (by omega) (by omega) hL9 dL_law_1162 ?_
  refine r_callV (rest := []) (k0 := (3, 0, 0)) (ci := 5) (nk := 0) C [vI n] 1 hM2 gL_law_X5_larger rfl rfl rfl ⟨rfl, by decide, by decide, by decide +kernel⟩ (by decide) (by decide) ⟨by show ce + 1 + 0 ≤ 601024; omega, by show sl + 6 + 0 ≤ 7293034; omega⟩ ok3 rfl (by decide) rfl rfl rfl (Nat.le_of_ble_eq_true rfl) rfl dL_law_1163 (fun hr2 => ?_)
  refine r_istore (lv' := LV6 G b ((4 * c : Nat) : Int) k aw) C dL_law_1166 (by decide) rfl ?_
  refine r_aload_n (k := 5) C dL_law_1168 rfl ?_
  refine r_callV (rest := []) (k0 := (3, 0, 0)) (ci := 5) (nk := 0) C [] 0 hMt gL_law_X5_thrown rfl rfl rfl ⟨rfl, by decide, by decide, by decide +kernel⟩ (by decide) (by decide) ⟨by show ce + 1 + 0 + 0 ≤ 601024; omega, by show sl + 6 + 0 + 0 ≤ 7293034; omega⟩ ok3 rfl (by decide) rfl rfl rfl (Nat.le_of_ble_eq_true rfl) rfl dL_law_1169 (fun _ => ?_)
  refine r_iload (k := 1) C dL_law_1172 rfl ?_
  refine r_icmp_eq (tgt := 1179) C dL_law_1174 rfl hkR hkR (fun _ => ?_) (fun h => absurd rfl h)
  refine r_iload (k := 1) C dL_law_1179 rfl ?_
  have fin : Wm B 9 G A Q M (ce + 1 + 0 + 0) (sl + 6 + 0 + 0) 1196 (LV6 G b ((4 * c : Nat) : Int) k aw) [] := by
    refine r_goto (tgt := 1254) C dL_law_1196 rfl ?_
    refine Wm.sub (lv' := LV G b ((4 * c : Nat) : Int)) [2, 3, 4, 5, 6] rfl ?_
    exact Wm.ge (by omega) (by omega) (K M s3 hr2)
  refine r_if_ne (tgt := 1196) C dL_law_1181 rfl hkR (fun _ => fin) (fun hk0 => ?_)
  have e6 := s2 hk0
  refine r_aload_n (k := 6) C dL_law_1184 rfl ?_
  refine r_iconst C dL_law_1185 ?_
  refine r_lald (k := (6, 0, 0)) (len := 1) C 0 ok6 rfl rfl (by decide) (by decide) dL_law_1186 ?_
  refine r_iload (k := 0) C dL_law_1187 rfl ?_
  refine r_i2l C dL_law_1189 (by rw [← e6]; exact hr2 _ _) ?_
  refine r_lcmpE C (by rw [e6]) dL_law_1190 ?_
  exact r_if_eq (tgt := 1196) C dL_law_1191 rfl ⟨by decide, by decide⟩ (fun _ => fin) (fun h => absurd rfl h)
