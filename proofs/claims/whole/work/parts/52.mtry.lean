/-! Only the nine keys matter; the reference's tryIt, heavy, standing, sooner. -/
section CG
variable {E : Ed} {g g' : Nat → Nat} {e : Nat}
theorem mm_c (h : ∀ j, j < 9 → g j = g' j) {u : Nat} (hu : u < 6) : mm E g u = mm E g' u := by
  unfold mm
  rw [h (3 + u) (by omega)]
theorem lv_c (h : ∀ j, j < 9 → g j = g' j) (u : Nat) : lv E g u = lv E g' u := by
  unfold lv
  rw [h 1 (by decide), h 0 (by decide)]
theorem opn_c (h : ∀ j, j < 9 → g j = g' j) : opn E g = opn E g' := by
  unfold opn
  rw [h 2 (by decide)]
theorem led_c (h : ∀ j, j < 9 → g j = g' j) {u : Nat} (hu : u < 6) : led E g u = led E g' u := by
  unfold led
  rw [mm_c h hu, lv_c h u]
theorem pwr_c (h : ∀ j, j < 9 → g j = g' j) {u : Nat} (hu : u < 6) (o : Nat) : pwr E g u o = pwr E g' u o := by
  unfold pwr
  rw [mm_c h hu, lv_c h u, lv_c h o]
theorem fst1_c (h : ∀ j, j < 9 → g j = g' j) : fst1 E g e = fst1 E g' e := by
  unfold fst1
  rw [h 0 (by decide)]
theorem ajn_c (h : ∀ j, j < 9 → g j = g' j) (ht : eT E e < 6) : ajn E g e = ajn E g' e := by
  unfold ajn
  rw [mm_c h ht, opn_c h, fst1_c h]
theorem ain_c (h : ∀ j, j < 9 → g j = g' j) (hs : eS E e < 6) (ht : eT E e < 6) : ain E g e = ain E g' e := by
  unfold ain
  rw [mm_c h ht, mm_c h hs]
theorem alv_c (h : ∀ j, j < 9 → g j = g' j) (hs : eS E e < 6) (ht : eT E e < 6) : alv E g e = alv E g' e := by
  unfold alv
  rw [mm_c h ht, pwr_c h hs]
theorem frl_c (h : ∀ j, j < 9 → g j = g' j) : frl E g e = frl E g' e := by
  funext u
  unfold frl
  rw [lv_c h u, lv_c h (eS E e)]
theorem alL_c (h : ∀ j, j < 9 → g j = g' j) (hs : eS E e < 6) : alL E g e = alL E g' e := by
  unfold alL
  rw [led_c h hs, frl_c h]
theorem alw_c (h : ∀ j, j < 9 → g j = g' j) (hs : eS E e < 6) (ht : eT E e < 6) : alw E g e = alw E g' e := by
  unfold alw
  rw [h 0 (by decide), ajn_c h ht, ain_c h hs ht, alv_c h hs ht, pwr_c h hs, alL_c h hs, led_c h hs, mm_c h hs]
end CG
def gtr (E : Ed) (gR : Nat → Nat) (e : Nat) : Nat → Nat := fun j => if gR j = 0 then eA E e j else gR j
def tr2 (E : Ed) (gR : Nat → Nat) (e : Nat) : Nat → Nat := if alw E (gtr E gR e) e = 0 then gR else va_up gR (kyN E e) e
theorem tr1_tr2 {E : Ed} {gR gT : Nat → Nat} {e : Nat} (hk : eK E e ≠ 7) (hs : eS E e < 6) (ht : eT E e < 6) : tr1 E gR gT e = tr2 E gR e := by
  unfold tr1 tr2
  have ha : alw E (trl E gR e 0 9 gT) e = alw E (gtr E gR e) e := by
    refine alw_c (fun j hj => ?_) hs ht
    rw [trl_at, if_pos (show 0 ≤ j ∧ j < 0 + 9 by omega)]
    rfl
  rw [ha, if_neg hk]
theorem MoE.up {I : Nat → Nat → Int32} {L : Nat → Nat → Int64} {E : Ed} {N k : Nat} {f : Nat → Int32} (h : MoE I L E N) (hk : 6 < k) : MoE (va_up I k f) L E N := by
  intro n h1 h2
  have := h n h1 h2
  rw [va_up_ne _ _ (show 2 ≠ k by omega), va_up_ne _ _ (show 3 ≠ k by omega), va_up_ne _ _ (show 4 ≠ k by omega), va_up_ne _ _ (show 5 ≠ k by omega), va_up_ne _ _ (show 6 ≠ k by omega)]
  exact this
section MTR
variable {o e N : Nat} {w : Int32 × Int32 × Int32} {L : Nat → Nat → Int64} {E : Ed} {gR : Nat → Nat}
theorem Mo_try_7 (hN : N ≤ 40) (hle : gle (eA E e) N) (hR : gle gR N) : ∀ (d i : Nat) (σ : Hp) (I : Nat → Nat → Int32), i + d = 9 → MoR σ o w I L → (∀ j, j < 9 → I 12 j = nI (gR j)) → (∀ j, j < 9 → I 14 j = nI (eA E e j)) → (∀ j, j < i → I 13 j = nI (gtr E gR e j)) → ∃ σ1 f, fMo_tryIt_7 (some o) (nI e) (nI i) σ = fMo_tryIt_7 (some o) (nI e) (nI 9) σ1 ∧ MoR σ1 o w (va_up I 13 f) L ∧ (∀ j, j < 9 → f j = nI (gtr E gR e j)) ∧ FrM o σ σ1 := by
  intro d
  induction d with
  | zero =>
    intro i σ I hi h h12 h14 h13
    have : i = 9 := by omega
    subst this
    exact ⟨σ, I 13, rfl, by rw [up_id rfl]; exact h, h13, FrM.rf o σ⟩
  | succ d ih =>
    intro i σ I hi h h12 h14 h13
    have hi9 : i < 9 := by omega
    have hRi := hR i hi9
    obtain ⟨σ1, w1, v1, f1⟩ := h.wI 13 (by decide) (by decide) (fun J => rfl) (show i < mlen 13 from hi9) (nI (gtr E gR e i))
    obtain ⟨σ2, f, w2, v2, e2, f2⟩ := ih (i + 1) σ1 _ (by omega) v1 (fun j hj => by rw [va_up_ne _ _ (by decide)]; exact h12 j hj) (fun j hj => by rw [va_up_ne _ _ (by decide)]; exact h14 j hj) (fun j hj => by
      rw [va_up_self]
      by_cases c : j = i
      · rw [c, va_up_self]
      · rw [va_up_ne _ _ c]
        exact h13 j (by omega))
    refine ⟨σ2, f, ?_, by rw [up_up] at v2; exact v2, e2, f1.tr f2⟩
    rw [eMo_tryIt_7, if_neg (i9 hi9)]
    simp only [h.f14, h.f13, h.f15, h.g12 hi9, h.g14 hi9, h12 i hi9, h14 i hi9, Option.bind_some, nI0 (show gR i < 2 ^ 31 by omega), eMo_tryIt_42]
    unfold gtr at w1
    by_cases c : gR i = 0
    · rw [if_neg (fun q => q c)]
      rw [if_pos c] at w1
      simp only [w1, Option.bind_some, nI1, w2]
    · rw [if_pos c]
      rw [if_neg c] at w1
      simp only [w1, Option.bind_some, nI1, w2]
theorem gtr_gle (hle : gle (eA E e) N) (hR : gle gR N) : gle (gtr E gR e) N := by
  intro j hj
  unfold gtr
  split
  · exact hle j hj
  · exact hR j hj
theorem Mo_tryIt {σ : Hp} {I : Nat → Nat → Int32} (hN : N ≤ 40) (he1 : 1 ≤ e) (he2 : e ≤ N) (hA : AuI E N e) (hle : gle (eA E e) N) (hR : gle gR N) (h : MoR σ o w I L) (hE : MoE I L E N) (h12 : ∀ j, j < 9 → I 12 j = nI (gR j)) (hg0 : gtr E gR e 0 = 0 ∨ gtr E gR e 0 = 1) (hs1 : eS E 1 = 0) (hk1 : 1 ≤ eK E e) (hk6 : eK E e ≤ 6) (hs : eS E e < 6) (ht : eT E e < 6) :
    ∃ σ1 I1, cV rF nMo_tryIt [sA (some o), sI (nI e)] σ = some σ1 ∧ MoR σ1 o w I1 L ∧ (∀ k, k ≠ 12 → k ≠ 13 → k ≠ 14 → I1 k = I k) ∧ (∀ j, j < 9 → I1 12 j = nI (tr2 E gR e j)) ∧ FrM o σ σ1 := by
  obtain ⟨σ1, f1, w1, v1, e1, fr1⟩ := Mo_gather hN (by omega) hA hle h hE (hE e he1 he2).2.2.2.2.2.2.1
  obtain ⟨σ2, f2, w2, v2, e2, fr2⟩ := Mo_try_7 hN hle hR 9 0 σ1 _ rfl v1 (fun j hj => by rw [va_up_ne _ _ (by decide)]; exact h12 j hj) (fun j hj => by rw [va_up_self]; exact e1 j hj) (fun j hj => by omega)
  have hE2 : MoE (va_up (va_up I 14 f1) 13 f2) L E N := (hE.up (by decide)).up (by decide)
  have hY : ∀ j, j < 9 → alI σ2 (some (o + 13)) (nI j) = some (nI (gtr E gR e j)) := fun j hj => by
    rw [v2.g13 hj, va_up_self, e2 j hj]
  have hal := Mo_allowed v2 hE2 hN he1 he2 hY (gtr_gle hle hR) hg0 hs1 hk1 (by omega) hs ht
  have start : rF (mMo_tryIt, 0, [(0, sA (some o)), (1, sI (nI e))], [], σ) = fMo_tryIt_7 (some o) (nI e) (nI 9) σ2 := by
    rw [eMo_tryIt]
    simp only [h.rc, w1, Option.bind_some]
    exact w2
  by_cases c : alw E (gtr E gR e) e = 0
  · refine ⟨σ2, _, cV_of (start.trans ?_), v2, fun k a b d => ?_, fun j hj => ?_, fr1.tr fr2⟩
    · rw [eMo_tryIt_7, if_pos (show (9 : Int32) ≤ nI 9 by decide)]
      simp only [v2.f14, v2.rc, hal, Option.bind_some, if_pos c, eMo_tryIt_72]
    · rw [va_up_ne _ _ b, va_up_ne _ _ d]
    · rw [va_up_ne _ _ (by decide), va_up_ne _ _ (by decide)]
      unfold tr2
      rw [if_pos c]
      exact h12 j hj
  · have hk := Mo_key v2 hE2 he1 he2 hN (by omega)
    rw [kyI_N (show eK E e ≠ 7 by omega)] at hk
    obtain ⟨σ3, w3, v3, fr3⟩ := v2.wI 12 (by decide) (by decide) (fun J => rfl) (show kyN E e < mlen 12 from kyN_lt ht) (nI e)
    refine ⟨σ3, _, cV_of (start.trans ?_), v3, fun k a b d => ?_, fun j hj => ?_, (fr1.tr fr2).tr fr3⟩
    · rw [eMo_tryIt_7, if_pos (show (9 : Int32) ≤ nI 9 by decide)]
      simp only [v2.f14, v2.f13, v2.rc, hal, hk, w3, Option.bind_some, if_neg c, eMo_tryIt_72]
    · rw [va_up_ne _ _ a, va_up_ne _ _ b, va_up_ne _ _ d]
    · rw [va_up_self]
      unfold tr2
      rw [if_neg c]
      by_cases cj : j = kyN E e
      · rw [cj, va_up_self, va_up_self]
      · rw [va_up_ne _ _ cj, va_up_ne _ _ cj, va_up_ne _ _ (by decide), va_up_ne _ _ (by decide)]
        exact h12 j hj
theorem Mo_heavy {σ : Hp} {I : Nat → Nat → Int32} (hN : N ≤ 40) (he1 : 1 ≤ e) (he2 : e ≤ N) (h : MoR σ o w I L) (hE : MoE I L E N) (hk : eK E e ≤ 7) : cI rF nMo_heavy [sA (some o), sI (nI e)] σ = some (hvy E e, σ) := by
  refine cI_of ((eMo_heavy _ _ σ).trans ?_)
  obtain ⟨q2, q3, q4, -⟩ := hE e he1 he2
  have he : e < 41 := by omega
  have k4 : (nI (eK E e) < (4 : Int32)) ↔ eK E e < 4 := nI_ltI (a := eK E e) (b := 4) (by omega) (by decide)
  have k6 : (nI (eK E e) ≤ (6 : Int32)) ↔ eK E e ≤ 6 := nI_leI (a := eK E e) (b := 6) (by omega) (by decide)
  have k3 : (nI (eK E e) = (3 : Int32)) ↔ eK E e = 3 := kEq hk 3 (by decide)
  simp only [h.f3, h.f4, h.f5, h.g2 he, h.g3 he, h.g4 he, q2, q3, q4, Option.bind_some, eMo_heavy_21, eMo_heavy_46, eMo_heavy_50, eMo_heavy_51, rz_0, rz_1, k4, k6, k3]
  unfold hvy
  rcases (show eK E e = 0 ∨ eK E e = 1 ∨ eK E e = 2 ∨ eK E e = 3 ∨ eK E e = 4 ∨ eK E e = 5 ∨ eK E e = 6 ∨ eK E e = 7 by omega) with q | q | q | q | q | q | q | q <;> rw [q]
  · simp
  · simp
  · simp
  · by_cases c : nI (eS E e) = nI (eT E e) <;> simp [c]
  · simp
  · simp
  · simp
  · simp
theorem Mo_standing {σ : Hp} {I : Nat → Nat → Int32} (hN : N ≤ 40) (he1 : 1 ≤ e) (he2 : e ≤ N) (hA : AuI E N e) (hle : gle (eA E e) N) (h : MoR σ o w I L) (hE : MoE I L E N) (h0 : eA E e 0 = 1) (hs1 : eS E 1 = 0) (hs : eS E e < 6) : ∃ σ1 f, cI rF nMo_standing [sA (some o), sI (nI e)] σ = some (slv E e, σ1) ∧ MoR σ1 o w (va_up I 14 f) L ∧ FrM o σ σ1 := by
  obtain ⟨σ1, f1, w1, v1, e1, fr1⟩ := Mo_gather hN (by omega) hA hle h hE (hE e he1 he2).2.2.2.2.2.2.1
  refine ⟨σ1, f1, cI_of ((eMo_standing _ _ σ).trans ?_), v1, fr1⟩
  have hE1 : MoE (va_up I 14 f1) L E N := hE.up (by decide)
  have hY : ∀ j, j < 9 → alI σ1 (some (o + 14)) (nI j) = some (nI (eA E e j)) := fun j hj => by
    rw [v1.g14 hj, va_up_self, e1 j hj]
  simp only [h.rc, w1, v1.f15, v1.f4, v1.g3 (show e < 41 by omega), (hE1 e he1 he2).2.1, v1.rc, Mo_levelC v1 hE1 hN hY hle h0 hs1 hs, Option.bind_some]
  rfl
end MTR
