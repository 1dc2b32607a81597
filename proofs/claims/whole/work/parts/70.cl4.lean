theorem vD_nd {A : Nat → Prop} {X : va_W} : va_D A X ↔ (X.map Prod.fst).Nodup ∧ ∀ q ∈ X, A q.1 := by
  constructor
  · intro h
    refine ⟨?_, fun q hq => ?_⟩
    · unfold List.Nodup
      rw [List.pairwise_iff_getElem]
      intro i j hi hj hij he
      simp only [List.length_map] at hi hj
      simp only [List.getElem_map] at he
      have := h.1 i j X[i] X[j] (List.getElem?_eq_getElem hi) (List.getElem?_eq_getElem hj) he
      omega
    · obtain ⟨i, hi⟩ := List.getElem?_of_mem hq
      exact h.2 i q hi
  · intro h
    refine ⟨fun i j p q hi hj he => ?_, fun i q hq => h.2 q (List.mem_of_getElem? hq)⟩
    have h1 := h.1
    unfold List.Nodup at h1
    rw [List.pairwise_iff_getElem] at h1
    obtain ⟨li, ei⟩ := List.getElem?_eq_some_iff.mp hi
    obtain ⟨lj, ej⟩ := List.getElem?_eq_some_iff.mp hj
    rcases Nat.lt_trichotomy i j with h2 | h2 | h2
    · refine absurd ?_ (h1 i j (by simpa using li) (by simpa using lj) h2)
      rw [List.getElem_map, List.getElem_map, ei, ej]
      exact he
    · exact h2
    · refine absurd ?_ (h1 j i (by simpa using lj) (by simpa using li) h2)
      rw [List.getElem_map, List.getElem_map, ei, ej]
      exact he.symm
theorem vD_perm {A : Nat → Prop} {X Y : va_W} (h : X.Perm Y) (hX : va_D A X) : va_D A Y := by
  rw [vD_nd] at hX ⊢
  exact ⟨(h.map Prod.fst).nodup_iff.mp hX.1, fun q hq => hX.2 q (h.mem_iff.mpr hq)⟩
theorem vP_perm {D : va_G} {cl : List vw_C} {X Y : va_W} {H : Heap} (h : X.Perm Y) (hX : va_P D cl X H) : va_P D cl Y H := by
  rw [vP_mem] at hX ⊢
  exact fun q hq => hX q (h.mem_iff.mpr hq)
theorem WL.perm {B : Bx} {nL : Nat} {G : Gt} {A : Nat → Prop} {Q : State → Prop} {X Y : va_W} {cells slots pc : Nat} {lv : List (Nat × Value)} {st : List Value} (h : X.Perm Y) (kk : WL B nL G A Q Y cells slots pc lv st) : WL B nL G A Q X cells slots pc lv st := fun H locs ls hP hD hS hl => kk H locs ls (vP_perm h hP) (vD_perm h hD) hS hl
theorem pm_swap (X1 X2 X3 : va_W) : (X2 ++ (X1 ++ X3)).Perm (X1 ++ (X2 ++ X3)) := by
  rw [← List.append_assoc, ← List.append_assoc]
  exact List.perm_append_comm.append_right X3
theorem l_getN {B : Bx} {nL : Nat} {G : Gt} {A : Nat → Prop} {cc : ByteArray} {own nm : String} {Ts : List Cond} {Rm : Room} {Q : State → Prop} {X : va_W} {cells slots pc : Nat} {lv : List (Nat × Value)} {st : List Value} (C : CL B nL G A cc own nm Ts Rm) {Cn host : String} {T : u_T} {N ci index a : Nat} (hin : ∀ w ∈ u_ws Cn T N, w ∈ Ts) (q0 : Nat) {fs : List Value} (he : X[q0]? = some (a, .inr (ci, fs))) (hc : vwCl[ci]? = some (Cn, T, N)) (k : Nat) (hk : k < N) (hlink : (own, index, Cn, (T k).2.1, (T k).2.2.1, host) ∈ nwF) (hcn : (T k).1 = Cn) {v : Value} (hv : fs[k]? = some v) (hd : decode cc pc = .ok (.getfield index, 3))
    (kk : WL B nL G A Q X cells slots (pc + 3) lv (v :: st)) : WL B nL G A Q X cells slots pc lv (.ref a :: st) := by
  obtain ⟨p, l, e, R, s, m, args, below, meth, c⟩ := B
  obtain ⟨hx, hb, hml, hown, hts, hK, hO, hA2, hlk, hret, hR, hnm⟩ := C
  intro H locs ls hP hD hS hl
  exact va_getN hx hb hts hin hown hK.1 hP q0 he hc k hk (va_Nw.use rfl (hK.2.1 _ hlink)) (fun x h => by rw [hcn] at h; exact h) hv hd (kk H locs ls hP hD hS hl)
/-- a new village's cells; the first n villages' -/
def VC (G : Gt) (a : Nat → Nat) (g : Nat → Int32) : va_W := [(a 2, .inl (G.2.1.1, 12, .inl g)), (a 7, .inl (G.2.1.1, 112, .inl (fun _ => 0))), (a 6, .inl (G.2.1.1, 112, .inl (fun _ => 0))), (a 5, .inl (G.2.1.1, 112, .inl (fun _ => 0))), (a 4, .inl (G.2.1.1, 112, .inl (fun _ => 0))), (a 3, .inr (1, [.ref (a 4), .ref (a 5), .ref (a 6), .ref (a 7), vI 0])), (a 1, .inl (G.2.1.1, 5, .inl (fun _ => 0))), (a 0, .inr (2, [vI 0, vI 0, vI 1, vI 0, vI 0, vI 24, vI (-1), vI 0, .ref (a 1), vI 0, .ref (a 2), .ref (a 3), vI 0]))]
def va8 (q a1 a2 a3 b1 b2 b3 b4 : Nat) : Nat → Nat := fun p => match p with | 0 => q | 1 => a1 | 2 => a2 | 3 => a3 | 4 => b1 | 5 => b2 | 6 => b3 | _ => b4
theorem PX2_VC {G : Gt} {q0 : Nat} {X : va_W} (h : PX2_init G q0 X) : ∃ a g, a 0 = q0 ∧ X = VC G a g ∧ ∀ j, j < 12 → g j = Int32.ofInt (-1) := by
  obtain ⟨a1, a2, a3, b1, b2, b3, b4, g, rfl, hg⟩ := h
  exact ⟨va8 q0 a1 a2 a3 b1 b2 b3 b4, g, rfl, rfl, hg⟩
def VCs (G : Gt) (V : Nat → Nat → Nat) (K : Nat → Nat → Int32) : Nat → va_W
  | 0 => []
  | n + 1 => VC G (V n) (K n) ++ VCs G V K n
theorem VCs_congr {G : Gt} {V V' : Nat → Nat → Nat} {K K' : Nat → Nat → Int32} {n : Nat} (h1 : ∀ j, j < n → V j = V' j) (h2 : ∀ j, j < n → K j = K' j) : VCs G V K n = VCs G V' K' n := by
  induction n with
  | zero => rfl
  | succ n ih =>
    unfold VCs
    rw [h1 n (by omega), h2 n (by omega), ih (fun j hj => h1 j (by omega)) (fun j hj => h2 j (by omega))]
/-- a new land's cells -/
def LC4 (G : Gt) (a : Nat → Nat) (f : Nat → Option Nat) : va_W := [(a 2, .inl (G.2.1.1, 12, .inl (fun _ => 0))), (a 1, .inl (G.2.1.1, 12, .inl (fun _ => 0))), (a 3, .inl (G.2.1.2.1, 8, .inr (.inr (.inr (.inr f))))), (a 0, .inr (0, [.ref (a 3), vI 0, .ref (a 1), .ref (a 2), vI 0, vI 0, vI 0]))]
def LC (G : Gt) (V : Nat → Nat → Nat) (K : Nat → Nat → Int32) (f : Nat → Option Nat) : va_W := LC4 G (V 8) f ++ VCs G V K 8
def LOk (V : Nat → Nat → Nat) (K : Nat → Nat → Int32) (f : Nat → Option Nat) : Prop := (∀ j, j < 8 → f j = some (V j 0)) ∧ ∀ j, j < 8 → ∀ p, p < 12 → K j p = Int32.ofInt (-1)
def PX0_init (G : Gt) (q0 : Nat) : va_W → Prop := fun X => ∃ V K f, V 8 0 = q0 ∧ LOk V K f ∧ X = LC G V K f
theorem c_X0_init (l : Launch) (G : Gt) (q0 : Nat) : ConL l G yX0_init wsX0_init { frames := 3, cells := 67, slots := 3896, locals := 90 } q0 (.inr (0, [.null, vI 0, .null, .null, vI 0, vI 0, vI 0])) [.ref q0] (PX0_init G q0) 67 3896 := by
  refine ConL.head (cc := cX0_init) (nL := 2) (by decide) rfl (Nat.le_of_ble_eq_true rfl) ?_
  intro B A hBl C hA
  have hinX0 : ∀ w ∈ u_ws RX0 TX0 7, w ∈ wsX0_init := by decide +kernel
  have hinX2 : ∀ w ∈ u_ws RX2 TX2 13, w ∈ wsX0_init := by decide +kernel
  have L : ∀ (m i : Nat) (V : Nat → Nat → Nat) (K : Nat → Nat → Int32) (f : Nat → Option Nat), i + m = 8 → V 8 0 = q0 → (∀ j, j < i → f j = some (V j 0)) → (∀ j, j < i → ∀ p, p < 12 → K j p = Int32.ofInt (-1)) → WL B 2 G A (Ze B G A (PX0_init G q0) 67 3896) (LC4 G (V 8) f ++ VCs G V K i) (3 + 8 * i) (32 + 483 * i) 31 [(1, vI (i : Int)), (0, .ref q0)] [] := by
    intro m
    induction m with
    | zero =>
      intro i V K f h1 h0 h2 h3
      obtain rfl : i = 8 := by omega
      refine l_iload (k := 0) C dX0_init_31 rfl ?_
      refine l_bipush C dX0_init_32 rfl ?_
      refine l_icmp_ge C dX0_init_34 rfl ⟨by decide, by decide⟩ ⟨by decide, by decide⟩ (fun _ => ?_) (fun h => absurd h (by decide))
      exact l_ret C dX0_init_56 ⟨V, K, f, h0, ⟨h2, h3⟩, rfl⟩ rfl rfl
    | succ m ih =>
      intro i V K f h1 h0 h2 h3
      refine l_iload (k := 0) C dX0_init_31 rfl ?_
      refine l_bipush C dX0_init_32 rfl ?_
      refine l_icmp_ge C dX0_init_34 rfl ⟨by omega, by omega⟩ ⟨by decide, by decide⟩ (fun h => by omega) (fun _ => ?_)
      refine l_aload (k := 1) C dX0_init_37 rfl ?_
      rw [← h0]
      refine l_get C hinX0 3 (fs := [.ref (V 8 3), vI 0, .ref (V 8 1), .ref (V 8 2), vI 0, vI 0, vI 0]) rfl rfl 0 (by decide) (by decide +kernel) rfl rfl dX0_init_38 ?_
      refine l_iload (k := 0) C dX0_init_41 rfl ?_
      refine l_new (ci := 2) C hinX2 tyX2_ok (by decide +kernel) (by decide +kernel) (by decide +kernel) rfl [vI 0, vI 0, vI 0, vI 0, vI 0, vI 0, vI 0, vI 0, .null, vI 0, .null, .null, vI 0] (by decide) (by show _ ≤ 67; omega) (by show _ ≤ 3896; omega) dX0_init_42 fun q => ?_
      refine l_dup C dX0_init_45 rfl ?_
      refine l_call C (rest := [.ref q, vI (i : Int), .ref (V 8 3)]) [] 0 (c_X2_init B.2.1 G q) gX0_init_X2_init rfl rfl rfl (by decide +kernel) (by decide +kernel) (by decide +kernel) rfl ⟨by decide, by decide, by decide +kernel⟩ (by decide) (by decide) ⟨by show _ ≤ 67; omega, by show _ ≤ 3896; omega⟩ rfl rfl (by simp [Value.category]) dX0_init_46 (fun Y hY => ?_)
      obtain ⟨a, g, rfl, rfl, hg⟩ := PX2_VC hY
      refine WL.perm (Y := LC4 G (V 8) f ++ (VC G a g ++ VCs G V K i)) (pm_swap (LC4 G (V 8) f) (VC G a g) (VCs G V K i)) ?_
      refine l_astq (q0 := 2) (qk := 11) (X' := LC4 G (V 8) (fun j => if j = i then some (a 0) else f j) ++ (VC G a g ++ VCs G V K i)) C i rfl rfl rfl (by omega) (by omega) dX0_init_49 rfl ?_
      refine l_iinc (k := 0) C dX0_init_50 rfl (by decide) rfl ?_
      refine l_goto (tgt := 31) C dX0_init_53 rfl ?_
      obtain ⟨V', hV8, hVi, hVj⟩ : ∃ V' : Nat → Nat → Nat, V' 8 = V 8 ∧ V' i = a ∧ ∀ j, j < i → V' j = V j := ⟨fun j => if j = i then a else V j, if_neg (by omega), if_pos rfl, fun j hj => if_neg (by omega)⟩
      obtain ⟨K', hKi, hKj⟩ : ∃ K' : Nat → Nat → Int32, K' i = g ∧ ∀ j, j < i → K' j = K j := ⟨fun j => if j = i then g else K j, if_pos rfl, fun j hj => if_neg (by omega)⟩
      obtain ⟨f', hf', hfi, hfj⟩ : ∃ f' : Nat → Option Nat, (fun j => if j = i then some (a 0) else f j) = f' ∧ f' i = some (a 0) ∧ ∀ j, j < i → f' j = f j := ⟨_, rfl, if_pos rfl, fun j hj => if_neg (by omega)⟩
      have hI := ih (i + 1) V' K' f' (by omega) (by rw [hV8]; exact h0) (fun j hj => ?_) (fun j hj p hp => ?_)
      · have e1 : VCs G V' K' (i + 1) = VC G a g ++ VCs G V K i := by
          show VC G (V' i) (K' i) ++ VCs G V' K' i = _
          rw [hVi, hKi, VCs_congr hVj hKj]
        have c1 : 3 + 8 * i + 1 + 7 = 3 + 8 * (i + 1) := by omega
        have c2 : 32 + 483 * i + 13 + 470 = 32 + 483 * (i + 1) := by omega
        rw [e1, hV8, ← h0, ← hf'] at hI
        rw [c1, c2]
        exact hI
      · by_cases hji : j = i
        · rw [hji, hVi, hfi]
        · rw [hVj j (by omega), hfj j (by omega)]
          exact h2 j (by omega)
      · by_cases hji : j = i
        · rw [hji, hKi]
          exact hg p hp
        · rw [hKj j (by omega)]
          exact h3 j (by omega) p hp
  refine l_aload (k := 0) C dX0_init_0 rfl ?_
  refine l_objInit C (by decide +kernel) (by decide +kernel) (by decide +kernel) dX0_init_1 (by decide) (by decide) rfl ?_
  refine l_aload (k := 0) C dX0_init_4 rfl ?_
  refine l_bipush C dX0_init_5 rfl ?_
  refine l_newq C 8 rfl (by decide) (by decide +kernel) (by decide) (by decide) dX0_init_7 fun a1 => ?_
  refine l_put (X' := [(a1, .inl (G.2.1.2.1, 8, .inr (.inr (.inr (.inr (fun _ => none)))))), (q0, .inr (0, [.ref a1, vI 0, .null, .null, vI 0, vI 0, vI 0]))]) C hinX0 tyX0_ok nmX0 1 rfl rfl 0 (by decide) (by decide +kernel) rfl (Or.inr ⟨rfl, rfl⟩) (tyX0_ok 0 (by decide)) rfl rfl (Nat.le_of_ble_eq_true rfl) dX0_init_10 rfl ?_
  refine l_aload (k := 0) C dX0_init_13 rfl ?_
  refine l_bipush C dX0_init_14 rfl ?_
  refine l_newa C 12 rfl (by decide) (by decide +kernel) (by decide) (by decide) dX0_init_16 fun a2 => ?_
  refine l_put (X' := [(a2, .inl (G.2.1.1, 12, .inl (fun _ => 0))), (a1, .inl (G.2.1.2.1, 8, .inr (.inr (.inr (.inr (fun _ => none)))))), (q0, .inr (0, [.ref a1, vI 0, .ref a2, .null, vI 0, vI 0, vI 0]))]) C hinX0 tyX0_ok nmX0 2 rfl rfl 2 (by decide) (by decide +kernel) rfl (Or.inr ⟨rfl, rfl⟩) (tyX0_ok 2 (by decide)) rfl rfl (Nat.le_of_ble_eq_true rfl) dX0_init_18 rfl ?_
  refine l_aload (k := 0) C dX0_init_21 rfl ?_
  refine l_bipush C dX0_init_22 rfl ?_
  refine l_newa C 12 rfl (by decide) (by decide +kernel) (by decide) (by decide) dX0_init_24 fun a3 => ?_
  refine l_put (X' := [(a3, .inl (G.2.1.1, 12, .inl (fun _ => 0))), (a2, .inl (G.2.1.1, 12, .inl (fun _ => 0))), (a1, .inl (G.2.1.2.1, 8, .inr (.inr (.inr (.inr (fun _ => none)))))), (q0, .inr (0, [.ref a1, vI 0, .ref a2, .ref a3, vI 0, vI 0, vI 0]))]) C hinX0 tyX0_ok nmX0 3 rfl rfl 3 (by decide) (by decide +kernel) rfl (Or.inr ⟨rfl, rfl⟩) (tyX0_ok 3 (by decide)) rfl rfl (Nat.le_of_ble_eq_true rfl) dX0_init_26 rfl ?_
  refine l_iconst C dX0_init_29 ?_
  refine l_istore C dX0_init_30 rfl (by decide) rfl ?_
  exact L 8 0 (fun _ p => match p with | 0 => q0 | 1 => a2 | 2 => a3 | _ => a1) (fun _ _ => 0) (fun _ => none) (by decide) rfl (fun j hj => by omega) (fun j hj => by omega)
def PX3_init (G : Gt) (q0 : Nat) : va_W → Prop := fun X => ∃ V K f V1 K1 f1, LOk V K f ∧ LOk V1 K1 f1 ∧ X = (q0, .inr (3, [.ref (V 8 0), .ref (V1 8 0)])) :: (LC G V1 K1 f1 ++ LC G V K f)
theorem c_X3_init (l : Launch) (G : Gt) (q0 : Nat) : ConL l G yX3_init wsX3_init { frames := 4, cells := 136, slots := 7806, locals := 120 } q0 (.inr (3, [.null, .null])) [.ref q0] (PX3_init G q0) 136 7806 := by
  refine ConL.head (cc := cX3_init) (nL := 1) (by decide) rfl (Nat.le_of_ble_eq_true rfl) ?_
  intro B A hBl C hA
  have hinX3 : ∀ w ∈ u_ws RX3 TX3 2, w ∈ wsX3_init := by decide +kernel
  have hinX0 : ∀ w ∈ u_ws RX0 TX0 7, w ∈ wsX3_init := by decide +kernel
  refine l_aload (k := 0) C dX3_init_0 rfl ?_
  refine l_objInit C (by decide +kernel) (by decide +kernel) (by decide +kernel) dX3_init_1 (by decide) (by decide) rfl ?_
  refine l_aload (k := 0) C dX3_init_4 rfl ?_
  refine l_new (ci := 0) C hinX0 tyX0_ok (by decide +kernel) (by decide +kernel) (by decide +kernel) rfl [.null, vI 0, .null, .null, vI 0, vI 0, vI 0] (by decide) (by decide) (by decide) dX3_init_5 fun a1 => ?_
  refine l_dup C dX3_init_8 rfl ?_
  refine l_call C (rest := [.ref a1, .ref q0]) [] 0 (c_X0_init B.2.1 G a1) gX3_init_X0_init rfl rfl rfl (by decide +kernel) (by decide +kernel) (by decide +kernel) rfl ⟨by decide, by decide, by decide +kernel⟩ (by decide) (by decide) ⟨by decide, by decide⟩ rfl rfl (Nat.le_of_ble_eq_true rfl) dX3_init_9 (fun Y hY => ?_)
  obtain ⟨V, K, f, rfl, hL, rfl⟩ := hY
  refine WL.perm (Y := (q0, .inr (3, [.null, .null])) :: LC G V K f) (List.perm_append_comm (l₁ := LC G V K f) (l₂ := [(q0, .inr (3, [.null, .null]))])) ?_
  refine l_put (X' := (q0, .inr (3, [.ref (V 8 0), .null])) :: LC G V K f) C hinX3 tyX3_ok nmX3 0 (fs := [.null, .null]) rfl rfl 0 (by decide) (by decide +kernel) rfl (Or.inr ⟨rfl, rfl⟩) (tyX3_ok 0 (by decide)) rfl rfl (Nat.le_of_ble_eq_true rfl) dX3_init_12 rfl ?_
  refine l_aload (k := 0) C dX3_init_15 rfl ?_
  refine l_new (ci := 0) C hinX0 tyX0_ok (by decide +kernel) (by decide +kernel) (by decide +kernel) rfl [.null, vI 0, .null, .null, vI 0, vI 0, vI 0] (by decide) (by decide) (by decide) dX3_init_16 fun a2 => ?_
  refine l_dup C dX3_init_19 rfl ?_
  refine l_call C (rest := [.ref a2, .ref q0]) [] 0 (c_X0_init B.2.1 G a2) gX3_init_X0_init rfl rfl rfl (by decide +kernel) (by decide +kernel) (by decide +kernel) rfl ⟨by decide, by decide, by decide +kernel⟩ (by decide) (by decide) ⟨by decide, by decide⟩ rfl rfl (Nat.le_of_ble_eq_true rfl) dX3_init_20 (fun Y hY => ?_)
  obtain ⟨V1, K1, f1, rfl, hL1, rfl⟩ := hY
  refine WL.perm (Y := (q0, .inr (3, [.ref (V 8 0), .null])) :: (LC G V1 K1 f1 ++ LC G V K f)) (pm_swap [(q0, .inr (3, [.ref (V 8 0), .null]))] (LC G V1 K1 f1) (LC G V K f)) ?_
  refine l_put (X' := (q0, .inr (3, [.ref (V 8 0), .ref (V1 8 0)])) :: (LC G V1 K1 f1 ++ LC G V K f)) C hinX3 tyX3_ok nmX3 0 (fs := [.ref (V 8 0), .null]) rfl rfl 1 (by decide) (by decide +kernel) rfl (Or.inr ⟨rfl, rfl⟩) (tyX3_ok 1 (by decide)) rfl rfl (Nat.le_of_ble_eq_true rfl) dX3_init_23 rfl ?_
  exact l_ret C dX3_init_26 ⟨V, K, f, V1, K1, f1, hL, hL1, rfl⟩ rfl rfl
