/-! a row of numbers that is made and dropped within a method -/
def zro (w : Mm) (κ : Ky) : Mm := fun k j => if k = κ then 0 else w k j
theorem zro_off {w : Mm} {κ k : Ky} (h : k ≠ κ) : zro w κ k = w k := by
  funext j
  simp [zro, h]
theorem zro_j {w : Mm} {κ k : Ky} {j : Nat} (h : k ≠ κ) : zro w κ k j = w k j := by rw [zro_off h]
theorem zro_rng {w : Mm} {κ : Ky} (h : rng w) : rng (zro w κ) := by
  intro k j
  unfold zro
  split
  · exact inR_0
  · exact h k j
def Tmp (G G' : Gt) (κ : Ky) : Prop := (∀ k, k ≠ κ → adr G' k = adr G k) ∧ G'.1 = G.1 ∧ G'.2.1 = G.2.1 ∧ (∀ k, okk G k → okk G' k) ∧ (¬ okk G κ) ∧ κ.1 = 7
theorem kd_7 {k : Ky} (h : k.1 = 7) : (kd k).1 = 6 ∨ (kd k).1 = 9 := by
  unfold kd
  rw [h]
  simp only [show ¬ (7 ≤ 1) by decide, if_false]
  split
  · split <;> first | exact Or.inl rfl | exact Or.inr rfl
  · exact Or.inr rfl
theorem flds_ad {ad ad' : Ky → Nat} {w : Mm} {k : Ky} (ci : Nat) (h : k.1 ≠ 7) (had : ∀ k' : Ky, k'.1 ≠ 7 → ad' k' = ad k') : flds ad' w k ci = flds ad w k ci := by
  unfold flds
  split
  · rw [had (k.1, 8, 3) h, had (k.1, 8, 1) h, had (k.1, 8, 2) h]
  · rw [had (k.1, k.2.1, 4) h, had (k.1, k.2.1, 5) h, had (k.1, k.2.1, 6) h, had (k.1, k.2.1, 7) h]
  · rw [had (k.1, k.2.1, 1) h, had (k.1, k.2.1, 2) h, had (k.1, k.2.1, 3) h]
  · rw [had (0, 8, 0) (by decide), had (1, 8, 0) (by decide)]
  · rw [had (k.1, 0, 1) h, had (k.1, 0, 2) h, had (k.1, 0, 3) h, had (k.1, 0, 4) h, had (k.1, 0, 5) h, had (k.1, 0, 6) h, had (k.1, 0, 7) h, had (k.1, 0, 8) h, had (k.1, 0, 9) h, had (k.1, 0, 10) h, had (k.1, 0, 11) h, had (k.1, 0, 12) h, had (3, 0, 0) (by decide)]
  · rw [had (3, 0, 1) (by decide), had (3, 0, 2) (by decide), had (3, 0, 3) (by decide), had (3, 0, 4) (by decide), had (3, 0, 5) (by decide), had (3, 0, 6) (by decide), had (3, 0, 7) (by decide), had (4, 0, 0) (by decide), had (5, 0, 0) (by decide)]
  · rfl
theorem ent_ad {c3 : ClassId × ClassId × ClassId} {ad ad' : Ky → Nat} {w w' : Mm} {k : Ky} (hw : w' k = w k) (had : ∀ k' : Ky, k'.1 ≠ 7 → ad' k' = ad k') : ent c3 ad' w' k = ent c3 ad w k := by
  rw [ent_eq hw]
  by_cases h7 : k.1 = 7
  · have h := kd_7 h7
    unfold ent
    rcases hk : kd k with ⟨ci, n⟩
    rw [hk] at h
    rcases h with h | h <;> dsimp only at h <;> subst h <;> rfl
  · unfold ent
    split
    · rfl
    · have e : (fun j => some (ad' (k.1, j, 0))) = fun j => some (ad (k.1, j, 0)) := funext fun j => congrArg some (had (k.1, j, 0) h7)
      rw [e]
    · rfl
    · rw [flds_ad _ h7 had]
section ROWST
variable {B : Bx} {nL : Nat} {G : Gt} {A : Nat → Prop} {cc : ByteArray} {own : String} {Ts : List Cond} {ret : Option FieldType} {Rm : Room} {Q : State → Prop} {w : Mm} {cells slots pc : Nat} {lv : List (Nat × Value)} {st : List Value}
theorem r_newtmp (C : Cx B nL G A cc own Ts ret Rm) {κ : Ky} {n : Nat} {z : Int} (lvf : Gt → List (Nat × Value)) (hr : rng w) (hκ : ¬ okk G κ) (h7 : κ.1 = 7) (hkd : kd κ = (6, n)) (hz : z = (n : Int)) (hn0 : n < 100) (harr : Cond.arrayClass .int ∈ Ts) (hc : cells + 1 ≤ Rm.cells) (hs : slots + n ≤ Rm.slots) (hlv : ∀ G', (∀ k, k ≠ κ → adr G' k = adr G k) → lv = lvf G') (hd : decode cc pc = .ok (.newarray .int, 2))
    (kk : ∀ G', Tmp G G' κ → Gok G' → okk G' κ → Cx B nL G' A cc own Ts ret Rm → rng (zro w κ) → Wm B nL G' A Q (zro w κ) (cells + 1) (slots + n) (pc + 2) (lvf G') [.ref (adr G' κ)]) : Wm B nL G A Q w cells slots pc lv [vI z] := by
  obtain ⟨p, l, e, R, s, m, args, below, meth, c⟩ := B
  obtain ⟨hx, hb, hml, hown, hts, ⟨hK, hNF, hNM, hNS⟩, hG, hA1, hA2, hlk, hret, hR, hZ⟩ := C
  intro H locs ls hP hS hl
  dsimp only at hR
  subst hR
  subst hz
  have hcl : (Int32.ofInt (n : Int)).toNatClampNeg = n := by rw [oi_nat, nI_clamp (by omega)]
  refine va_newaK (atype := .int) hx hb (hts _ harr) rfl hd rfl (by rw [oi_nat]; exact nI_pos (by omega)) hcl (by show n * 4 ≤ _; omega) hc hs rfl fun H1 cA e1 z1 o1 hAr hNm => ?_
  have hcA : cA = G.2.1.1 := by
    have h2 : s.vm.findClass ("[" ++ FieldType.int.toString) = some G.2.1.1 := (hK.2 0 _ rfl).2
    have h3 : s.vm.findClass ("[" ++ FieldType.int.toString) = some cA := hNm
    rw [h2] at h3
    exact (Option.some.inj h3).symm
  subst hcA
  have hlt : ∀ k, okk G k → adr G k < H.size := fun k hk => (hP.2 k hk).lt
  have hT : Tmp G (G.1, G.2.1, fun k => okk G k ∨ k = κ, fun k => if k = κ then H.size else adr G k) κ := ⟨fun k hk => if_neg hk, rfl, rfl, fun k hk => Or.inl hk, hκ, h7⟩
  have hne : ∀ k, okk G k → k ≠ κ := fun k hk q => hκ (q ▸ hk)
  have hG' : Gok (G.1, G.2.1, fun k => okk G k ∨ k = κ, fun k => if k = κ then H.size else adr G k) := by
    refine ⟨fun k k' hk hk' he => ?_, fun k h1 h2 => Or.inl (hG.2 k h1 h2)⟩
    rcases hk with hk | hk <;> rcases hk' with hk' | hk'
    · rw [hT.1 k (hne k hk), hT.1 k' (hne k' hk')] at he
      exact hG.1 k k' hk hk' he
    · subst hk'
      rw [hT.1 k (hne k hk)] at he
      have h9 : adr (G.1, G.2.1, fun k => okk G k ∨ k = k', fun k => if k = k' then H.size else adr G k) k' = H.size := if_pos rfl
      rw [h9] at he
      have := hlt k hk
      omega
    · subst hk
      rw [hT.1 k' (hne k' hk')] at he
      have h9 : adr (G.1, G.2.1, fun k' => okk G k' ∨ k' = k, fun k' => if k' = k then H.size else adr G k') k = H.size := if_pos rfl
      rw [h9] at he
      have := hlt k' hk'
      omega
    · rw [hk, hk']
  have hP' : Pic (G.1, G.2.1, fun k => okk G k ∨ k = κ, fun k => if k = κ then H.size else adr G k) (zro w κ) H1 := by
    refine ⟨zro_rng hP.1, fun k hk => ?_⟩
    by_cases hkk : k = κ
    · subst hkk
      rw [ent_row hkd]
      show H1[if k = k then H.size else _]? = some (vp_cell _ _)
      rw [if_pos rfl, e1, vp_cell_i]
      show some (arrV _ _ _) = some (arrV _ _ _)
      congr 2
      funext j
      simp [zro, defaultValue]
      rfl
    · have hk2 : okk G k := by
        rcases hk with h | h
        · exact h
        · exact absurd h hkk
      rw [hT.1 k hkk]
      have he := ent_ad (c3 := G.2.1) (ad := adr G) (ad' := adr (G.1, G.2.1, fun k => okk G k ∨ k = κ, fun k => if k = κ then H.size else adr G k)) (zro_off (w := w) hkk) (fun k' h' => hT.1 k' (fun q => h' (q ▸ h7)))
      show va_at G.1 vwCl (adr G k, ent G.2.1 _ _ k) H1
      rw [he]
      exact (hP.2 k hk2).kept (o1 _ (hlt k hk2))
  rw [hlv _ hT.1] at hl
  have hw := kk _ hT hG' (Or.inr rfl) ⟨hx, hb, hml, hown, hts, ⟨hK, hNF, hNM, hNS⟩, hG', fun k hk => by
    by_cases hkk : k = κ
    · subst hkk
      show A (if k = k then H.size else _)
      rw [if_pos rfl]
      exact hA2 _ hS.1
    · rw [hT.1 k hkk]
      rcases hk with h | h
      · exact hA1 k h
      · exact absurd h hkk, hA2, hlk, hret, rfl, hZ⟩ (zro_rng hP.1) H1 locs ls hP' ⟨Nat.le_trans hS.1 (by omega), fun x h1 h2 => (o1 x (Nat.lt_of_lt_of_le h1 hS.1)).trans (hS.2.1 x h1 h2), hS.2.2⟩ hl
  have ha : adr (G.1, G.2.1, fun k => okk G k ∨ k = κ, fun k => if k = κ then H.size else adr G k) κ = H.size := if_pos rfl
  rw [ha] at hw
  exact hw
theorem r_iretT {G0 : Gt} {κ : Ky} (hT : Tmp G0 G κ) (C : Cx B nL G A cc own Ts (some .int) Rm) {z : Int} {v : Option Value} {w' : Mm} (hd : decode cc pc = .ok (.ireturn, 1)) (hv : some (vI z) = v) (hr : rng w') (hw : ∀ k, k ≠ κ → w' k = w k) : Wm B nL G A (Qe B G0 A v w' cells slots) w cells slots pc lv [vI z] := by
  obtain ⟨p, l, e, R, s, m, args, below, meth, c⟩ := B
  obtain ⟨hx, hb, hml, hown, hts, hKn, hG, hA1, hA2, hlk, hret, hR, hZ⟩ := C
  intro H locs ls hP hS hl
  subst hv
  have hP0 : Pic G0 w' H := by
    refine ⟨hr, fun k hk => ?_⟩
    have hne : k ≠ κ := fun q => hT.2.2.2.2.1 (q ▸ hk)
    have h := hP.2 k (hT.2.2.2.1 k hk)
    rw [hT.1 k hne, hT.2.1, hT.2.2.1, ent_ad (ad := adr G0) (w := w) rfl (fun k' h' => hT.1 k' (fun q => h' (by rw [q]; exact hT.2.2.2.2.2)))] at h
    rw [ent_eq (hw k hne)]
    exact h
  exact W.iret hx hb hret (fun t ht hW => ⟨rfl, by rw [ht]; exact hP0, hS.F ht⟩) hS.2.2 hd hlk
end ROWST
