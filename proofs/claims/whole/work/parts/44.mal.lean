/-! The reference's 'allowed' answers what the class's 'allows' answers. -/
section MAL
variable {σ : Hp} {o y e N : Nat} {w : Int32 × Int32 × Int32} {I : Nat → Nat → Int32} {L : Nat → Nat → Int64} {E : Ed} {g : Nat → Nat}
theorem Mo_levelC (h : MoR σ o w I L) (hE : MoE I L E N) (hN : N ≤ 40) (hY : ∀ j, j < 9 → alI σ (some y) (nI j) = some (nI (g j))) (hg : gle g N) (h0 : g 0 = 1) (h1 : eS E 1 = 0) {u : Nat} (hu : u < 6) : cI rF nMo_level [sA (some o), sA (some y), sI (nI u)] σ = some (lv E g u, σ) := by
  rw [Mo_level h hE hN hY hg hu, lvM_lv hu h0 h1]
theorem Mo_joins (h : MoR σ o w I L) (hE : MoE I L E N) (hN : N ≤ 40) (he1 : 1 ≤ e) (he2 : e ≤ N) (hY : ∀ j, j < 9 → alI σ (some y) (nI j) = some (nI (g j))) (hg : gle g N) (h0 : g 0 = 1) (h1 : eS E 1 = 0) (ht : eT E e < 6) : cI rF nMo_joins [sA (some o), sI (nI e), sA (some y)] σ = some (ajn E g e, σ) := by
  refine cI_of ((eMo_joins (some o) (nI e) (some y) σ).trans ?_)
  obtain ⟨q2, q3, q4, q5, q6, q7, q8, q9⟩ := hE e he1 he2
  have he : e < 41 := by omega
  have hg2 := hg 2 (by decide)
  have hY2 : alI σ (some y) (2 : Int32) = some (nI (g 2)) := hY 2 (by decide)
  have s39 : ∀ f0 : Int32, fMo_joins_39 (some o) (nI e) (some y) (mm E g (eT E e)) f0 σ = fMo_joins_64 (some o) (nI e) (mm E g (eT E e)) f0 (opn E g) σ := by
    intro f0
    rw [eMo_joins_39]
    simp only [hY2, Option.bind_some, h.f6, h.g5 (show g 2 < 41 by omega), nIle0 (show g 2 < 2 ^ 31 by omega), eMo_joins_63]
    unfold opn
    by_cases hz : g 2 = 0
    · rw [if_pos hz, if_pos hz]
    · rw [if_neg hz, if_neg hz, (hE _ (by omega) hg2).2.2.2.1]
      split <;> rfl
  have s0 : (if ¬ lg_cmp (eP E e) (2 : Int64) = 0 then fMo_joins_38 (some o) (nI e) (some y) (mm E g (eT E e)) σ else if ¬ nI (eS E e) = 0 then fMo_joins_38 (some o) (nI e) (some y) (mm E g (eT E e)) σ else fMo_joins_39 (some o) (nI e) (some y) (mm E g (eT E e)) (1 : Int32) σ) = fMo_joins_39 (some o) (nI e) (some y) (mm E g (eT E e)) (fst1 E g e) σ := by
    unfold fst1
    have b1 : bitN 1 = 2 := by decide
    have n0 : nI 0 = 0 := rfl
    rw [h0, h1, b1, n0, eMo_joins_38, if_neg (show ¬ ((1 : Nat) = 0) by decide)]
    by_cases c1 : lg_cmp (eP E e) 2 = 0
    · have n1 : ¬ ¬ lg_cmp (eP E e) 2 = 0 := fun q => q c1
      rw [if_neg n1, if_neg n1]
      by_cases c2 : nI (eS E e) = 0
      · have n2 : ¬ ¬ nI (eS E e) = 0 := fun q => q c2
        rw [if_neg n2, if_neg n2]
      · rw [if_pos c2, if_pos c2]
    · rw [if_pos c1, if_pos c1]
  simp only [h.f5, h.f8, h.f4, h.rc, h.g4 he, h.g7 he, h.g3 he, q4, q7, q3, Option.bind_some, Mo_membership h hE hN hY hg ht]
  rw [s0, s39, eMo_joins_64]
  simp only [h.f5, h.f4, h.g4 he, h.g3 he, q4, q3, Option.bind_some, eMo_joins_110, eMo_joins_106, eMo_joins_111, rz_0, rz_1]
  unfold ajn
  by_cases c1 : nI (eS E e) = nI (eT E e)
  · by_cases c2 : mm E g (eT E e) = 4
    · simp [c1, c2]
    · by_cases c3 : opn E g = 0
      · by_cases c4 : mm E g (eT E e) = 1
        · simp [c1, c3, c4]
        · by_cases c5 : mm E g (eT E e) = 2
          · simp [c1, c3, c5]
          · by_cases c6 : fst1 E g e = 0
            · simp [c1, c2, c3, c4, c5, c6]
            · simp [c1, c2, c3, c4, c5, c6]
      · simp [c1, c2, c3]
  · simp [c1]
theorem Mo_levels_15 (h : MoR σ o w I L) (hE : MoE I L E N) (hN : N ≤ 40) (he1 : 1 ≤ e) (he2 : e ≤ N) (hY : ∀ j, j < 9 → alI σ (some y) (nI j) = some (nI (g j))) (hg : gle g N) (h0 : g 0 = 1) (h1 : eS E 1 = 0) : ∀ (d i : Nat), i + d = 6 → fMo_levels_15 (some o) (nI e) (some y) (lv E g (eS E e)) (nI i) σ = some (some (sI (if afr (frl E g e) i d = true then 1 else 0)), σ) := by
  obtain ⟨q2, q3, q4, q5, q6, q7, q8, q9⟩ := hE e he1 he2
  have he : e < 41 := by omega
  intro d
  induction d with
  | zero =>
    intro i hi
    have : i = 6 := by omega
    subst this
    rw [eMo_levels_15, if_pos (show (6 : Int32) ≤ nI 6 by decide), rz_1]
    rfl
  | succ d ih =>
    intro i hi
    have hn := ih (i + 1) (by omega)
    rw [eMo_levels_15, if_neg (i6 (by omega))]
    simp only [h.f6, h.f4, h.rc, h.g5 he, h.g3 he, q5, q3, Mo_levelC h hE hN hY hg h0 h1 (show i < 6 by omega), Option.bind_some, eMo_levels_76, eMo_levels_78, nI1, hn, rz_0]
    show _ = some (some (sI (if (frl E g e i && afr (frl E g e) (i + 1) d) = true then 1 else 0)), σ)
    have hw : (eV E e >>> (((2 : Int32) * nI i) &&& 31)) &&& (3 : Int32) = wnt E e i := rfl
    rw [hw]
    unfold frl
    by_cases c1 : wnt E e i = lv E g i
    · simp [c1]
    · by_cases c2 : lv E g (eS E e) < wnt E e i
      · simp [c1, c2]
      · by_cases c3 : lv E g i < lv E g (eS E e)
        · simp [c1, c2, c3]
        · by_cases c4 : nI i = nI (eS E e)
          · simp [c1, c2, c3, c4]
          · simp [c1, c2, c3, c4]
theorem Mo_levels (h : MoR σ o w I L) (hE : MoE I L E N) (hN : N ≤ 40) (he1 : 1 ≤ e) (he2 : e ≤ N) (hY : ∀ j, j < 9 → alI σ (some y) (nI j) = some (nI (g j))) (hg : gle g N) (h0 : g 0 = 1) (h1 : eS E 1 = 0) (hs : eS E e < 6) : cI rF nMo_levels [sA (some o), sI (nI e), sA (some y)] σ = some (if all6 (frl E g e) = true then 1 else 0, σ) := by
  refine cI_of ((eMo_levels (some o) (nI e) (some y) σ).trans ?_)
  obtain ⟨q2, q3, q4, q5, q6, q7, q8, q9⟩ := hE e he1 he2
  have he : e < 41 := by omega
  have l0 : fMo_levels_15 (some o) (nI e) (some y) (lv E g (eS E e)) (0 : Int32) σ = some (some (sI (if all6 (frl E g e) = true then 1 else 0)), σ) := Mo_levels_15 h hE hN he1 he2 hY hg h0 h1 6 0 rfl
  simp only [h.f4, h.rc, h.g3 he, q3, Mo_levelC h hE hN hY hg h0 h1 hs, Option.bind_some, l0]
theorem Mo_allowed (h : MoR σ o w I L) (hE : MoE I L E N) (hN : N ≤ 40) (he1 : 1 ≤ e) (he2 : e ≤ N) (hY : ∀ j, j < 9 → alI σ (some y) (nI j) = some (nI (g j))) (hg : gle g N) (h0 : g 0 = 0 ∨ g 0 = 1) (h1 : eS E 1 = 0) (hk1 : 1 ≤ eK E e) (hk : eK E e ≤ 7) (hs : eS E e < 6) (ht : eT E e < 6) : cI rF nMo_allowed [sA (some o), sI (nI e), sA (some y)] σ = some (alw E g e, σ) := by
  refine cI_of ((eMo_allowed (some o) (nI e) (some y) σ).trans ?_)
  obtain ⟨q2, q3, q4, q5, q6, q7, q8, q9⟩ := hE e he1 he2
  have he : e < 41 := by omega
  have hY0 : alI σ (some y) (0 : Int32) = some (nI (g 0)) := hY 0 (by decide)
  have hlt : g 0 < 2 ^ 31 := by omega
  simp only [hY0, Option.bind_some, nI0 hlt]
  rcases h0 with h0 | h0
  · rw [if_neg (fun q => q h0), rz_0]
    unfold alw
    rw [if_pos h0]
  · rw [if_pos (by omega)]
    have s78 : ∀ m n mine : Int32, m = mm E g (eS E e) → n = mm E g (eT E e) → mine = lv E g (eS E e) → fMo_allowed_78 (some o) (nI e) (some y) m n mine (pwr E g (eS E e) (eT E e)) σ = some (some (sI (alw E g e)), σ) := by
      intro m n mine hm hn hl
      rw [eMo_allowed_78]
      simp only [h.f3, h.g2 he, q2, Option.bind_some]
      unfold alw
      rw [if_neg (show ¬ g 0 = 0 by omega)]
      rcases (show eK E e = 1 ∨ eK E e = 2 ∨ eK E e = 3 ∨ eK E e = 4 ∨ eK E e = 5 ∨ eK E e = 6 ∨ eK E e = 7 by omega) with q | q | q | q | q | q | q <;> rw [q]
      · rw [if_neg (by decide), if_pos (by decide), eMo_allowed_130]
        simp only [h.rc, Mo_joins h hE hN he1 he2 hY hg h0 h1 ht, Option.bind_some, rz_b (ajn01 E g e)]
      · rw [if_neg (by decide), if_neg (by decide), if_pos (by decide), eMo_allowed_137]
        simp only [eMo_allowed_158, eMo_allowed_159, rz_0, rz_1, hm, hn]
        unfold ain
        by_cases c1 : mm E g (eS E e) = 1
        · by_cases c2 : mm E g (eT E e) = 1
          · simp [c1, c2]
          · by_cases c3 : mm E g (eT E e) = 4
            · simp [c1, c3]
            · simp [c1, c2, c3]
        · simp [c1]
      · rw [if_neg (by decide), if_neg (by decide), if_neg (by decide), if_pos (by decide), eMo_allowed_160]
        simp only [h.f4, h.f5, h.g3 he, h.g4 he, q3, q4, Option.bind_some, eMo_allowed_220, eMo_allowed_216, eMo_allowed_185, eMo_allowed_221, rz_0, rz_1, hm, hn]
        unfold alv
        by_cases c0 : nI (eS E e) = nI (eT E e)
        · have c0' : eS E e = eT E e := (nI_eq (by omega) (by omega)).mp c0
          have n0 : ¬ ¬ nI (eS E e) = nI (eT E e) := fun q => q c0
          rw [if_neg n0, if_neg n0, c0']
          by_cases c1 : mm E g (eT E e) = 1
          · simp [c1]
          · by_cases c2 : mm E g (eT E e) = 2
            · simp [c2]
            · simp [c1, c2]
        · rw [if_pos c0, if_pos c0]
          rcases pwr01 E g (eS E e) (eT E e) with hp | hp <;> rw [hp]
          · rw [if_pos rfl]
            split <;> rfl
          · rw [if_neg (by decide)]
            by_cases c1 : mm E g (eT E e) = 1
            · simp [c1]
            · by_cases c2 : mm E g (eT E e) = 2
              · simp [c2]
              · by_cases c4 : mm E g (eT E e) = 4
                · simp [c4]
                · simp [c1, c2, c4]
      · rw [if_neg (by decide), if_neg (by decide), if_neg (by decide), if_neg (by decide), if_pos (by decide), eMo_allowed_222, rz_b (pwr01 E g (eS E e) (eT E e))]
        rfl
      · rw [if_neg (by decide), if_neg (by decide), if_neg (by decide), if_neg (by decide), if_neg (by decide), if_pos (by decide), eMo_allowed_225]
        simp only [h.rc, Mo_levels h hE hN he1 he2 hY hg h0 h1 hs, Option.bind_some, eMo_allowed_249, eMo_allowed_250, rz_0, rz_1, hm, hl]
        unfold alL led
        by_cases c1 : mm E g (eS E e) = 1
        · by_cases c2 : lv E g (eS E e) < 2
          · simp [c1, c2]
          · cases c3 : all6 (frl E g e) <;> simp [c1, c2]
        · simp [c1]
      · rw [if_neg (by decide), if_neg (by decide), if_neg (by decide), if_neg (by decide), if_neg (by decide), if_neg (by decide), if_pos (by decide), eMo_allowed_251]
        simp only [eMo_allowed_266, eMo_allowed_267, rz_0, rz_1, hm, hl]
        unfold led
        by_cases c1 : mm E g (eS E e) = 1
        · by_cases c2 : lv E g (eS E e) < 2
          · simp [c1, c2]
          · simp [c1, c2]
        · simp [c1]
      · rw [if_neg (by decide), if_neg (by decide), if_neg (by decide), if_neg (by decide), if_neg (by decide), if_neg (by decide), if_neg (by decide)]
        simp only [eMo_allowed_278, rz_0, rz_1, hm]
        split <;> rfl
    simp only [h.f4, h.f5, h.rc, h.g3 he, h.g4 he, q3, q4, Mo_membership h hE hN hY hg hs, Mo_membership h hE hN hY hg ht, Mo_levelC h hE hN hY hg h0 h1 hs, Mo_levelC h hE hN hY hg h0 h1 ht, Option.bind_some, eMo_allowed_77]
    rw [← s78 _ _ _ rfl rfl rfl]
    unfold pwr
    split
    · rfl
    · split
      · rfl
      · split <;> rfl
end MAL
