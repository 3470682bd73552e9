/-! The resolver's writing methods, and the resolution. -/
theorem i40 {i : Nat} (h : i < 40) : ¬ (40 : Int32) ≤ nI i := nI_ge (b := 40) h (by decide)
section RE3
variable {σ : Hp} {P : Pa} {E : Ed} {N : Nat} {ag ml pl : Nat → Int32} {gA gT gR : Nat → Nat}
def trl (E : Ed) (gR : Nat → Nat) (e : Nat) : Nat → Nat → (Nat → Nat) → (Nat → Nat)
  | _, 0, g => g
  | i, d + 1, g => trl E gR e (i + 1) d (va_up g i (if gR i = 0 then eA E e i else gR i))
/-- an event is tried: the result behind it -/
def tr1 (E : Ed) (gR gT : Nat → Nat) (e : Nat) : Nat → Nat := if alw E (trl E gR e 0 9 gT) e = 0 then gR else if eK E e = 7 then gR else va_up gR (kyN E e) e
theorem St_putR (hS : RS P E N) (h : RV σ P E N ag gA gT gR ml pl) {e : Nat} (h1 : 1 ≤ e) (h2 : e ≤ N) : ∃ σ1, cV rF nSt_put [sA (some (pd P 10)), sA (some (pe P e))] σ = some σ1 ∧ RV σ1 P E N ag gA gT (if eK E e = 7 then gR else va_up gR (kyN E e) e) ml pl ∧ FrR P σ σ1 := by
  have hev := h.ev e h1 h2
  have hd := hS.2.2.2.1 e h1 h2
  have hk := Ev_key hev hd.2.2.2.2.1
  by_cases c : eK E e = 7
  · refine ⟨σ, cV_of ((eSt_put _ _ σ).trans ?_), by rw [if_pos c]; exact h, FrR.rf P σ⟩
    have hky : kyI E e = -1 := by unfold kyI; rw [c]; rfl
    simp only [hev.rc, hk, hky, Option.bind_some, if_true, eSt_put_17]
  · obtain ⟨σ1, w1, v1, f1⟩ := h.wR hS (kyN_lt hd.2.2.2.2.2.2) (x := some (pe P e)) (n := e) (er_n (show e ≠ 0 by omega)).symm hev.ok
    refine ⟨σ1, cV_of ((eSt_put _ _ σ).trans ?_), by rw [if_neg c]; exact v1, FrR.w (by decide) f1⟩
    have hne : ¬ nI (kyN E e) = -1 := by
      intro q
      have := kyN_lt hd.2.2.2.2.2.2
      have q2 := congrArg Int32.toInt q
      rw [nI_toInt (by omega)] at q2
      have q3 : (-1 : Int32).toInt = -1 := by decide
      omega
    simp only [hev.rc, hk, kyI_N c, Option.bind_some, if_neg hne, h.g10, w1, eSt_put_17]
theorem Re_try_9 (hS : RS P E N) {e : Nat} (h1 : 1 ≤ e) (h2 : e ≤ N) (m : Int64) (hR : gle gR N) : ∀ (d i : Nat) (σ : Hp) (gT : Nat → Nat), i + d = 9 → RV σ P E N ag gA gT gR ml pl → ∃ σ1, fRe_tryOne_9 (some (pd P 2)) (some (pe P e)) m (some (pd P 10)) (nI i) σ = fRe_tryOne_9 (some (pd P 2)) (some (pe P e)) m (some (pd P 10)) (nI 9) σ1 ∧ RV σ1 P E N ag gA (trl E gR e i d gT) gR ml pl ∧ FrR P σ σ1 := by
  intro d
  induction d with
  | zero =>
    intro i σ gT hi h
    have : i = 9 := by omega
    subst this
    exact ⟨σ, rfl, h, FrR.rf P σ⟩
  | succ d ih =>
    intro i σ gT hi h
    have hi9 : i < 9 := by omega
    obtain ⟨b, hb1, hb2⟩ := (h.sta h1 h2).ld
    have hle : (if gR i = 0 then eA E e i else gR i) ≤ N := by
      split
      · exact (hS.2.2.2.1 e h1 h2).2.2.1 i hi9
      · exact hR i hi9
    obtain ⟨σ1, w1, v1, f1⟩ := h.wT hS hi9 (x := er (pe P) (if gR i = 0 then eA E e i else gR i)) (n := if gR i = 0 then eA E e i else gR i) rfl (h.ok hle)
    obtain ⟨σ2, w2, v2, f2⟩ := ih (i + 1) σ1 _ (by omega) v1
    refine ⟨σ2, ?_, v2, (FrR.w (by decide) f1).tr f2⟩
    rw [eRe_tryOne_9, if_neg (i9 hi9)]
    simp only [h.g10, h.aR hi9, h.f3, h.g6, Option.bind_some, er_none]
    by_cases c : gR i = 0
    · simp only [if_pos c, h.s6 h1 h2, hb1, hb2 i hi9, Option.bind_some, eRe_tryOne_55]
      simp only [if_pos c] at w1
      simp only [w1, Option.bind_some, nI1, w2]
    · simp only [if_neg c, eRe_tryOne_55]
      simp only [if_neg c] at w1
      simp only [w1, Option.bind_some, nI1, w2]
theorem trl_at (E : Ed) (gR : Nat → Nat) (e : Nat) : ∀ (d i : Nat) (g : Nat → Nat) (j : Nat), trl E gR e i d g j = if i ≤ j ∧ j < i + d then (if gR j = 0 then eA E e j else gR j) else g j := by
  intro d
  induction d with
  | zero =>
    intro i g j
    rw [if_neg (by omega)]
    rfl
  | succ d ih =>
    intro i g j
    show trl E gR e (i + 1) d _ j = _
    rw [ih]
    by_cases c : j = i
    · subst c
      rw [if_neg (show ¬ (j + 1 ≤ j ∧ j < j + 1 + d) by omega), if_pos (show j ≤ j ∧ j < j + (d + 1) by omega), va_up_self]
    · rw [va_up_ne _ _ c]
      by_cases c2 : i + 1 ≤ j ∧ j < i + 1 + d
      · rw [if_pos c2, if_pos (show i ≤ j ∧ j < i + (d + 1) by omega)]
      · rw [if_neg c2, if_neg (show ¬ (i ≤ j ∧ j < i + (d + 1)) by omega)]
theorem trl_gle {E : Ed} {gR : Nat → Nat} {e N : Nat} {g : Nat → Nat} (hR : gle gR N) (hA : gle (eA E e) N) : gle (trl E gR e 0 9 g) N := by
  intro j hj
  rw [trl_at, if_pos (by omega)]
  split
  · exact hA j hj
  · exact hR j hj
theorem Re_tryOne (hS : RS P E N) (h : RV σ P E N ag gA gT gR ml pl) (hR : gle gR N) {e : Nat} (h1 : 1 ≤ e) (h2 : e ≤ N) (m : Int64) : ∃ σ1, cJ rF nRe_tryOne [sA (some (pd P 2)), sA (some (pe P e)), sJ m, sA (some (pd P 10))] σ = some (m &&& (bitN e ^^^ (-1)), σ1) ∧ RV σ1 P E N ag gA (trl E gR e 0 9 gT) (tr1 E gR gT e) ml pl ∧ gle (tr1 E gR gT e) N ∧ FrR P σ σ1 := by
  obtain ⟨σ1, w1, v1, f1⟩ := Re_try_9 hS h1 h2 m hR 9 0 σ gT rfl h
  have hd := hS.2.2.2.1 e h1 h2
  have hev := v1.ev e h1 h2
  have hal := St_allows v1.stT v1.ev (trl_gle hR hd.2.2.1) hev hd.2.2.2.2.1 hd.2.2.2.2.2.1 hd.2.2.2.2.2.2
  have hbt : ∀ τ, cJ rF nRm_bit [sI (nI e)] τ = some (bitN e, τ) := fun τ => Rm_bit _ τ
  have start : rF (mRe_tryOne, 0, [(0, sA (some (pd P 2))), (1, sA (some (pe P e))), (2, sJ m), (4, sA (some (pd P 10)))], [], σ) = fRe_tryOne_9 (some (pd P 2)) (some (pe P e)) m (some (pd P 10)) (nI 9) σ1 := by
    rw [eRe_tryOne, if_pos (by simp)]
    exact w1
  have hgl : gle (tr1 E gR gT e) N := by
    unfold tr1
    split
    · exact hR
    · split
      · exact hR
      · exact gle_up hR h2
  by_cases c : alw E (trl E gR e 0 9 gT) e = 0
  · refine ⟨σ1, cJ_of (start.trans ?_), ?_, hgl, f1⟩
    · rw [eRe_tryOne_9, if_pos (show (9 : Int32) ≤ nI 9 by decide)]
      simp only [v1.f3, v1.stT.rc, hal, Option.bind_some, if_pos c, eRe_tryOne_79, hev.num, hbt]
    · unfold tr1
      rw [if_pos c]
      exact v1
  · obtain ⟨σ2, w2, v2, f2⟩ := St_putR hS v1 h1 h2
    refine ⟨σ2, cJ_of (start.trans ?_), ?_, hgl, f1.tr f2⟩
    · rw [eRe_tryOne_9, if_pos (show (9 : Int32) ≤ nI 9 by decide)]
      simp only [v1.f3, v1.stT.rc, hal, Option.bind_some, if_neg c, v1.stR.rc, w2, eRe_tryOne_79, (v2.ev e h1 h2).num, hbt]
    · unfold tr1
      rw [if_neg c]
      exact v2
/-! places -/
theorem Ar_fill_5 (hS : RS P E N) (x : Int32) : ∀ (d i : Nat) (σ : Hp) (ml : Nat → Int32), i + d = 41 → RV σ P E N ag gA gT gR ml pl → ∃ σ1 m2, fAr_fill_5 (some (pd P 8)) x (nI i) (nI 41) σ = some (none, σ1) ∧ RV σ1 P E N ag gA gT gR m2 pl ∧ (∀ j, m2 j = if i ≤ j ∧ j < 41 then x else ml j) ∧ FrR P σ σ1 := by
  intro d
  induction d with
  | zero =>
    intro i σ ml hi h
    have : i = 41 := by omega
    subst this
    refine ⟨σ, ml, ?_, h, fun j => by rw [if_neg (by omega)], FrR.rf P σ⟩
    rw [eAr_fill_5, if_pos (show nI 41 ≤ nI 41 by decide)]
  | succ d ih =>
    intro i σ ml hi h
    have hi41 : i < 41 := by omega
    obtain ⟨σ1, w1, v1, f1⟩ := h.wM hS hi41 x
    obtain ⟨σ2, m2, w2, v2, e2, f2⟩ := ih (i + 1) σ1 _ (by omega) v1
    refine ⟨σ2, m2, ?_, v2, fun j => ?_, (FrR.w (by decide) f1).tr f2⟩
    · rw [eAr_fill_5, if_neg (nI_ge (a := i) (b := 41) hi41 (by decide))]
      simp only [w1, Option.bind_some, nI1, w2]
    · rw [e2]
      by_cases c : j = i
      · subst c
        rw [if_neg (by omega), if_pos (by omega), va_up_self]
      · rw [va_up_ne _ _ c]
        by_cases c2 : i + 1 ≤ j ∧ j < 41
        · rw [if_pos c2, if_pos (by omega)]
        · rw [if_neg c2, if_neg (by omega)]
theorem Ar_fill (hS : RS P E N) (x : Int32) (h : RV σ P E N ag gA gT gR ml pl) : ∃ σ1 m2, cV rF nAr_fill [sA (some (pd P 8)), sI x] σ = some σ1 ∧ RV σ1 P E N ag gA gT gR m2 pl ∧ (∀ j, m2 j = if j < 41 then x else ml j) ∧ FrR P σ σ1 := by
  obtain ⟨σ1, m2, w1, v1, e1, f1⟩ := Ar_fill_5 hS x 41 0 σ ml rfl h
  have hl : alen σ (some (pd P 8)) = some (nI 41) := by
    unfold alen
    rw [ar_o h.2.2.2.2.2.2.2.1]
    rfl
  refine ⟨σ1, m2, cV_of ((eAr_fill _ _ σ).trans ?_), v1, fun j => ?_, f1⟩
  · rw [hl]
    exact w1
  · rw [e1]
    by_cases c : j < 41
    · rw [if_pos c, if_pos (by omega)]
    · rw [if_neg c, if_neg (by omega)]
/-- the mainline: from an event of levels back by auths -/
def mln (E : Ed) : Nat → Nat → Nat → (Nat → Int32) → (Nat → Int32)
  | 0, _, _, ml => ml
  | d + 1, i, e, ml => if e = 0 then ml else mln E d (i + 1) (eA E e 1) (va_up ml e (nI i))
theorem Re_main_17 (hS : RS P E N) : ∀ (d i e : Nat) (σ : Hp) (ml : Nat → Int32), i + d = 40 → e ≤ N → RV σ P E N ag gA gT gR ml pl → ∃ σ1, fRe_findPlaces_17 (some (pd P 2)) (er (pe P) e) (nI i) σ = fRe_findPlaces_53 (some (pd P 2)) σ1 ∧ RV σ1 P E N ag gA gT gR (mln E d i e ml) pl ∧ FrR P σ σ1 := by
  intro d
  induction d with
  | zero =>
    intro i e σ ml hi he h
    have : i = 40 := by omega
    subst this
    refine ⟨σ, ?_, h, FrR.rf P σ⟩
    rw [eRe_findPlaces_17, if_pos (show (40 : Int32) ≤ nI 40 by decide)]
  | succ d ih =>
    intro i e σ ml hi he h
    by_cases c : e = 0
    · refine ⟨σ, ?_, ?_, FrR.rf P σ⟩
      · rw [eRe_findPlaces_17]
        simp only [er_none, if_pos c]
        split <;> rfl
      · show RV σ P E N ag gA gT gR (if e = 0 then ml else _) pl
        rw [if_pos c]
        exact h
    · have hN := hS.1
      have he1 : 1 ≤ e := by omega
      obtain ⟨σ1, w1, v1, f1⟩ := h.wM hS (show e < 41 by omega) (nI i)
      obtain ⟨b, hb1, hb2⟩ := (v1.sta he1 he).ld
      have hb3 : alA σ1 (some b) (1 : Int32) = some (er (pe P) (eA E e 1)) := hb2 1 (by decide)
      obtain ⟨σ2, w2, v2, f2⟩ := ih (i + 1) (eA E e 1) σ1 _ (by omega) ((hS.2.2.2.1 e he1 he).2.2.1 1 (by decide)) v1
      refine ⟨σ2, ?_, ?_, (FrR.w (by decide) f1).tr f2⟩
      · rw [eRe_findPlaces_17, if_neg (i40 (show i < 40 by omega))]
        simp only [er_n c, reduceCtorEq, if_false, h.f4, (h.ev e he1 he).num, w1, v1.s6 he1 he, hb1, hb3, Option.bind_some, nI1, w2]
      · show RV σ2 P E N ag gA gT gR (if e = 0 then ml else _) pl
        rw [if_neg c]
        exact v2
def plc (E : Ed) (ml pl : Nat → Int32) (n : Nat) : Int32 := if eA E n 1 = 0 then 100 else if ml (eA E n 1) = -1 then pl (eA E n 1) else ml (eA E n 1)
theorem Re_placeOf (hS : RS P E N) (h : RV σ P E N ag gA gT gR ml pl) {n : Nat} (h1 : 1 ≤ n) (h2 : n ≤ N) : cI rF nRe_placeOf [sA (some (pd P 2)), sA (some (pe P n))] σ = some (plc E ml pl n, σ) := by
  refine cI_of ((eRe_placeOf _ _ σ).trans ?_)
  obtain ⟨b, hb1, hb2⟩ := (h.sta h1 h2).ld
  have hb3 : alA σ (some b) (1 : Int32) = some (er (pe P) (eA E n 1)) := hb2 1 (by decide)
  have hN := hS.1
  have hle := (hS.2.2.2.1 n h1 h2).2.2.1 1 (by decide)
  rw [if_pos (by simp)]
  simp only [h.s6 h1 h2, hb1, hb3, Option.bind_some, eRe_placeOf_17, er_none]
  unfold plc
  by_cases c : eA E n 1 = 0
  · simp [c]
  · have hev := h.ev (eA E n 1) (by omega) hle
    simp only [c, not_false_eq_true, if_true, if_false, er_n c, h.f4, h.f5, hev.num, h.rml (show eA E n 1 < 41 by omega), h.rpl (show eA E n 1 < 41 by omega), Option.bind_some, eRe_placeOf_53]
    split <;> rfl
def pls (E : Ed) (ml : Nat → Int32) : Nat → Nat → (Nat → Int32) → (Nat → Int32)
  | _, 0, pl => pl
  | n, d + 1, pl => pls E ml (n + 1) d (va_up pl n (plc E ml pl n))
theorem Re_places_55 (hS : RS P E N) : ∀ (d n : Nat) (σ : Hp) (pl : Nat → Int32), 1 ≤ n → n + d = N + 1 → RV σ P E N ag gA gT gR ml pl → ∃ σ1, fRe_findPlaces_55 (some (pd P 2)) (nI n) σ = some (none, σ1) ∧ RV σ1 P E N ag gA gT gR ml (pls E ml n d pl) ∧ FrR P σ σ1 := by
  intro d
  induction d with
  | zero =>
    intro n σ pl hn1 hn h
    have : n = N + 1 := by omega
    subst this
    refine ⟨σ, ?_, h, FrR.rf P σ⟩
    rw [eRe_findPlaces_55]
    simp only [h.f0, h.hi.made, Option.bind_some, if_pos (nN1 hS.1)]
  | succ d ih =>
    intro n σ pl hn1 hn h
    have hnN : n ≤ N := by omega
    have hN := hS.1
    obtain ⟨σ1, w1, v1, f1⟩ := h.wP hS (show n < 41 by omega) (plc E ml pl n)
    obtain ⟨σ2, w2, v2, f2⟩ := ih (n + 1) σ1 _ (by omega) (by omega) v1
    refine ⟨σ2, ?_, v2, (FrR.w (by decide) f1).tr f2⟩
    rw [eRe_findPlaces_55]
    simp only [h.f0, h.hi.made, h.f5, h.hi.rc, Hi_find h.hi hS.1 hn1 hnN, h.rc, Re_placeOf hS h hn1 hnN, w1, Option.bind_some, if_neg (nN hS.1 hnN), nI1, w2]
/-- mainline and places, out of a result and what was there -/
def mlr (E : Ed) (gR : Nat → Nat) : Nat → Int32 := mln E 40 0 (gR 1) (fun _ => -1)
theorem Re_findPlaces (hS : RS P E N) (h : RV σ P E N ag gA gT gR ml pl) (hR : gle gR N) : ∃ σ1 m2 p2, cV rF nRe_findPlaces [sA (some (pd P 2)), sA (some (pd P 10))] σ = some σ1 ∧ RV σ1 P E N ag gA gT gR m2 p2 ∧ (∃ m0 : Nat → Int32, (∀ j, j < 41 → m0 j = -1) ∧ m2 = mln E 40 0 (gR 1) m0 ∧ p2 = pls E m2 1 N pl) ∧ FrR P σ σ1 := by
  obtain ⟨σ1, m0, w1, v1, e1, f1⟩ := Ar_fill hS (-1) h
  obtain ⟨σ2, w2, v2, f2⟩ := Re_main_17 hS 40 0 (gR 1) σ1 m0 rfl (hR 1 (by decide)) v1
  obtain ⟨σ3, w3, v3, f3⟩ := Re_places_55 hS N 1 σ2 pl (Nat.le_refl _) (by omega) v2
  refine ⟨σ3, _, _, cV_of ((eRe_findPlaces _ _ σ).trans ?_), v3, ⟨m0, fun j hj => by rw [e1, if_pos hj], rfl, rfl⟩, (f1.tr f2).tr f3⟩
  have a1 : alA σ1 (some (pd P 11)) (1 : Int32) = some (er (pe P) (gR 1)) := v1.aR (by decide)
  simp only [h.f4, w1, v1.g10, a1, Option.bind_some]
  refine Eq.trans (show fRe_findPlaces_17 _ _ (0 : Int32) σ1 = _ from w2) ?_
  rw [eRe_findPlaces_53]
  exact w3
def rst (ag : Nat → Int32) (gA : Nat → Nat) : Nat → Nat → (Nat → Nat) → (Nat → Nat)
  | _, 0, g => g
  | i, d + 1, g => rst ag gA (i + 1) d (if ag i = 0 then g else va_up g i (gA i))
theorem Re_restore_2 (hS : RS P E N) (hg : gle gA N) : ∀ (d i : Nat) (σ : Hp) (gR : Nat → Nat), i + d = 9 → RV σ P E N ag gA gT gR ml pl → gle gR N → ∃ σ1, fRe_restoreAgreed_2 (some (pd P 2)) (some (pd P 10)) (nI i) σ = some (none, σ1) ∧ RV σ1 P E N ag gA gT (rst ag gA i d gR) ml pl ∧ gle (rst ag gA i d gR) N ∧ FrR P σ σ1 := by
  intro d
  induction d with
  | zero =>
    intro i σ gR hi h hR
    have : i = 9 := by omega
    subst this
    refine ⟨σ, ?_, h, hR, FrR.rf P σ⟩
    rw [eRe_restoreAgreed_2, if_pos (show (9 : Int32) ≤ nI 9 by decide)]
  | succ d ih =>
    intro i σ gR hi h hR
    have hi9 : i < 9 := by omega
    rw [eRe_restoreAgreed_2, if_neg (i9 hi9)]
    simp only [h.f1, h.rag hi9, Option.bind_some, eRe_restoreAgreed_32, nI1]
    show ∃ σ1, _ ∧ RV σ1 P E N ag gA gT (rst ag gA (i + 1) d (if ag i = 0 then gR else va_up gR i (gA i))) ml pl ∧ gle (rst ag gA (i + 1) d (if ag i = 0 then gR else va_up gR i (gA i))) N ∧ _
    by_cases c : ag i = 0
    · simp only [if_pos c]
      exact ih (i + 1) σ gR (by omega) h hR
    · simp only [if_neg c]
      obtain ⟨σ1, w1, v1, f1⟩ := h.wR hS hi9 (x := er (pe P) (gA i)) (n := gA i) rfl (h.ok (hg i hi9))
      simp only [h.g10, h.f2, h.g4, h.aA hi9, w1, Option.bind_some]
      obtain ⟨σ2, w2, v2, g2, f2⟩ := ih (i + 1) σ1 _ (by omega) v1 (gle_up hR (hg i hi9))
      exact ⟨σ2, w2, v2, g2, (FrR.w (by decide) f1).tr f2⟩
theorem Re_restoreAgreed (hS : RS P E N) (h : RV σ P E N ag gA gT gR ml pl) (hg : gle gA N) (hR : gle gR N) : ∃ σ1, cV rF nRe_restoreAgreed [sA (some (pd P 2)), sA (some (pd P 10))] σ = some σ1 ∧ RV σ1 P E N ag gA gT (rst ag gA 0 9 gR) ml pl ∧ gle (rst ag gA 0 9 gR) N ∧ FrR P σ σ1 := by
  obtain ⟨σ1, w1, r⟩ := Re_restore_2 hS hg 9 0 σ gR rfl h hR
  exact ⟨σ1, cV_of ((eRe_restoreAgreed _ _ σ).trans w1), r⟩
end RE3
