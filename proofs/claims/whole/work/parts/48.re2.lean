/-! The resolver's readings. -/
section RE2
variable {σ : Hp} {P : Pa} {E : Ed} {N : Nat} {ag ml pl : Nat → Int32} {gA gT gR : Nat → Nat}
def dsp (ag : Nat → Int32) (F : Nat → Nat) : Nat → Nat → Int64 → Int64
  | _, 0, m => m
  | i, d + 1, m => dsp ag F (i + 1) d (if ¬ ag i = 0 then m else if F i = 0 then m else m ||| bitN (F i))
theorem Re_disputed_5 (hS : RS P E N) (h : RV σ P E N ag gA gT gR ml pl) {n : Nat} (h1 : 1 ≤ n) (h2 : n ≤ N) : ∀ (d i : Nat) (m : Int64), i + d = 9 → fRe_disputedOf_5 (some (pd P 2)) (some (psf P n)) m (nI i) σ = some (some (sJ (dsp ag (eF E n) i d m)), σ) := by
  obtain ⟨b, hb1, hb2⟩ := (h.stf h1 h2).ld
  intro d
  induction d with
  | zero =>
    intro i m hi
    have : i = 9 := by omega
    subst this
    rw [eRe_disputedOf_5, if_pos (show (9 : Int32) ≤ nI 9 by decide)]
    rfl
  | succ d ih =>
    intro i m hi
    have hi9 : i < 9 := by omega
    have hn := fun m => ih (i + 1) m (by omega)
    rw [eRe_disputedOf_5, if_neg (i9 hi9)]
    simp only [h.f1, h.rag hi9, hb1, hb2 i hi9, Option.bind_some, eRe_disputedOf_48, nI1, hn]
    show _ = some (some (sJ (dsp ag (eF E n) (i + 1) d (if ¬ ag i = 0 then m else if eF E n i = 0 then m else m ||| bitN (eF E n i)))), σ)
    by_cases c1 : ag i = 0
    · have n1 : ¬ ¬ ag i = 0 := fun q => q c1
      rw [if_neg n1, if_neg n1]
      by_cases c2 : eF E n i = 0
      · rw [c2, er_0, if_pos rfl, if_pos rfl]
      · rw [er_n c2, if_neg (by simp), if_neg c2]
        have hev := h.ev (eF E n i) (by omega) ((hS.2.2.2.1 n h1 h2).2.2.2.1 i hi9)
        have hbt : ∀ τ, cJ rF nRm_bit [sI (nI (eF E n i))] τ = some (bitN (eF E n i), τ) := fun τ => Rm_bit _ τ
        simp only [hev.num, hbt, Option.bind_some, hn]
    · rw [if_pos c1, if_pos c1]
theorem Re_disputedOf (hS : RS P E N) (h : RV σ P E N ag gA gT gR ml pl) {n : Nat} (h1 : 1 ≤ n) (h2 : n ≤ N) : cJ rF nRe_disputedOf [sA (some (pd P 2)), sA (some (psf P n))] σ = some (dsp ag (eF E n) 0 9 0, σ) :=
  cJ_of ((eRe_disputedOf _ _ σ).trans (Re_disputed_5 hS h h1 h2 9 0 0 rfl))
def fct (E : Ed) (S : Int64) (ag : Nat → Int32) : Nat → Nat → Int64 × Int64 × Int64 → Int64
  | _, 0, q => q.1 ||| (q.2.1 &&& (q.2.2 ^^^ (-1)))
  | n, d + 1, q => fct E S ag (n + 1) d (if hb S n = true then (q.1 ||| dsp ag (eF E n) 0 9 0, q.2.1 ||| whl E (eF E n) 0 9 0, q.2.2 &&& whl E (eF E n) 0 9 0) else q)
theorem Re_contested_13 (hS : RS P E N) (h : RV σ P E N ag gA gT gR ml pl) (S : Int64) : ∀ (d n : Nat) (a b c : Int64), 1 ≤ n → n + d = N + 1 → fRe_findContested_13 (some (pd P 2)) S a b c (nI n) σ = some (some (sJ (fct E S ag n d (a, b, c))), σ) := by
  intro d
  induction d with
  | zero =>
    intro n a b c hn1 hn
    have : n = N + 1 := by omega
    subst this
    rw [eRe_findContested_13]
    simp only [h.f0, h.hi.made, Option.bind_some, if_pos (nN1 hS.1)]
    rfl
  | succ d ih =>
    intro n a b c hn1 hn
    have hnN : n ≤ N := by omega
    have hx := fun a b c => ih (n + 1) a b c (by omega) (by omega)
    rw [eRe_findContested_13]
    simp only [h.f0, h.hi.made, h.hi.rc, Hi_pick h.hi hS.1 hn1 hnN, Option.bind_some, if_neg (nN hS.1 hnN), eRe_findContested_78, nI1, hx]
    show _ = some (some (sJ (fct E S ag (n + 1) d (if hb S n = true then (a ||| dsp ag (eF E n) 0 9 0, b ||| whl E (eF E n) 0 9 0, c &&& whl E (eF E n) 0 9 0) else (a, b, c)))), σ)
    cases hbn : hb S n
    · simp only [Bool.false_eq_true, if_false, if_true]
    · simp only [if_true, reduceCtorEq, if_false, h.s7 hn1 hnN, (h.stf hn1 hnN).rc, St_whole (h.stf hn1 hnN) h.ev (hS.2.2.2.1 n hn1 hnN).2.2.2.1, h.rc, Re_disputedOf hS h hn1 hnN, Option.bind_some, hx]
theorem Re_findContested (hS : RS P E N) (h : RV σ P E N ag gA gT gR ml pl) (S : Int64) : cJ rF nRe_findContested [sA (some (pd P 2)), sJ S] σ = some (fct E S ag 1 N (0, 0, -1), σ) :=
  cJ_of ((eRe_findContested _ _ σ).trans (Re_contested_13 hS h S N 1 0 0 (-1) (Nat.le_refl _) (by omega)))
def hwc (E : Ed) (S : Int64) : Nat → Nat → Int64 → Int64
  | _, 0, m => m
  | n, d + 1, m => hwc E S (n + 1) d (if hb S n = true then (if hvy E n = 0 then m else m ||| (bitN n ||| (eC E n &&& S))) else m)
theorem Re_heavy_5 (hS : RS P E N) (h : RV σ P E N ag gA gT gR ml pl) (S : Int64) : ∀ (d n : Nat) (m : Int64), 1 ≤ n → n + d = N + 1 → fRe_heavyWithChains_5 (some (pd P 2)) S m (nI n) σ = some (some (sJ (hwc E S n d m)), σ) := by
  intro d
  induction d with
  | zero =>
    intro n m hn1 hn
    have : n = N + 1 := by omega
    subst this
    rw [eRe_heavyWithChains_5]
    simp only [h.f0, h.hi.made, Option.bind_some, if_pos (nN1 hS.1)]
    rfl
  | succ d ih =>
    intro n m hn1 hn
    have hnN : n ≤ N := by omega
    have hx := fun m => ih (n + 1) m (by omega) (by omega)
    have hev := h.ev n hn1 hnN
    have hbt : ∀ τ, cJ rF nRm_bit [sI (nI n)] τ = some (bitN n, τ) := fun τ => Rm_bit _ τ
    rw [eRe_heavyWithChains_5]
    simp only [h.f0, h.hi.made, h.hi.rc, Hi_pick h.hi hS.1 hn1 hnN, Option.bind_some, if_neg (nN hS.1 hnN), eRe_heavyWithChains_58, nI1, hx]
    show _ = some (some (sJ (hwc E S (n + 1) d (if hb S n = true then (if hvy E n = 0 then m else m ||| (bitN n ||| (eC E n &&& S))) else m))), σ)
    cases hbn : hb S n
    · simp only [Bool.false_eq_true, if_false, if_true]
    · simp only [if_true, reduceCtorEq, if_false, hev.rc, Ev_isHeavy hev (hS.2.2.2.1 n hn1 hnN).2.2.2.2.1, hbt, hev.ch, Option.bind_some, hx]
      by_cases c1 : hvy E n = 0
      · rw [if_pos c1, if_pos c1]
      · rw [if_neg c1, if_neg c1]
theorem Re_heavyWithChains (hS : RS P E N) (h : RV σ P E N ag gA gT gR ml pl) (S : Int64) : cJ rF nRe_heavyWithChains [sA (some (pd P 2)), sJ S] σ = some (hwc E S 1 N 0, σ) :=
  cJ_of ((eRe_heavyWithChains _ _ σ).trans (Re_heavy_5 hS h S N 1 0 (Nat.le_refl _) (by omega)))
def slv (E : Ed) (n : Nat) : Int32 := lv E (eA E n) (eS E n)
theorem Ev_senderLevel (hS : RS P E N) (h : RV σ P E N ag gA gT gR ml pl) {n : Nat} (h1 : 1 ≤ n) (h2 : n ≤ N) : cI rF nEv_senderLevel [sA (some (pe P n))] σ = some (slv E n, σ) := by
  refine cI_of ((eEv_senderLevel _ σ).trans ?_)
  simp only [h.s6 h1 h2, (h.ev n h1 h2).sd, (h.sta h1 h2).rc, St_level (h.sta h1 h2) h.ev (hS.2.2.2.1 n h1 h2).2.2.1, Option.bind_some]
  rfl
def mwt (E : Ed) (a b : Nat) : Int32 := if slv E b < slv E a then 1 else if ¬ slv E a = slv E b then 0 else if eM E b ≤ eM E a then 0 else 1
theorem Re_isOfMoreWeight (hS : RS P E N) (h : RV σ P E N ag gA gT gR ml pl) {a b : Nat} (a1 : 1 ≤ a) (a2 : a ≤ N) (b1 : 1 ≤ b) (b2 : b ≤ N) : cI rF nRe_isOfMoreWeight [sA (some (pe P a)), sA (some (pe P b))] σ = some (mwt E a b, σ) := by
  refine cI_of ((eRe_isOfMoreWeight _ _ σ).trans ?_)
  simp only [(h.ev a a1 a2).rc, (h.ev b b1 b2).rc, Ev_senderLevel hS h a1 a2, Ev_senderLevel hS h b1 b2, (h.ev a a1 a2).tm, (h.ev b b1 b2).tm, Option.bind_some, eRe_isOfMoreWeight_31, eRe_isOfMoreWeight_35, eRe_isOfMoreWeight_36, rz_0, rz_1]
  unfold mwt
  split
  · rfl
  · split
    · rfl
    · split <;> rfl
def nxh (E : Ed) (S : Int64) : Nat → Nat → Nat → Nat
  | _, 0, b => b
  | n, d + 1, b => nxh E S (n + 1) d (if hb S n = true then (if ¬ lg_cmp (eC E n &&& S) 0 = 0 then b else if b = 0 then n else if mwt E n b = 0 then b else n) else b)
theorem er_none {ea : Nat → Nat} {n : Nat} : er ea n = none ↔ n = 0 := by
  constructor
  · intro q
    by_cases h : n = 0
    · exact h
    · rw [er_n h] at q; cases q
  · intro q
    rw [q]; rfl
theorem Re_nextHeavy_5 (hS : RS P E N) (h : RV σ P E N ag gA gT gR ml pl) (S : Int64) : ∀ (d n b : Nat), 1 ≤ n → n + d = N + 1 → b ≤ N → fRe_nextHeavy_5 (some (pd P 2)) S (er (pe P) b) (nI n) σ = some (some (sA (er (pe P) (nxh E S n d b))), σ) ∧ nxh E S n d b ≤ N := by
  intro d
  induction d with
  | zero =>
    intro n b hn1 hn hb0
    have : n = N + 1 := by omega
    subst this
    refine ⟨?_, hb0⟩
    rw [eRe_nextHeavy_5]
    simp only [h.f0, h.hi.made, Option.bind_some, if_pos (nN1 hS.1)]
    rfl
  | succ d ih =>
    intro n b hn1 hn hb0
    have hnN : n ≤ N := by omega
    have hev := h.ev n hn1 hnN
    have hxb := ih (n + 1) b (by omega) (by omega) hb0
    have hxn := ih (n + 1) n (by omega) (by omega) hnN
    rw [er_n (show n ≠ 0 by omega)] at hxn
    rw [eRe_nextHeavy_5]
    simp only [h.f0, h.hi.made, h.hi.rc, Hi_pick h.hi hS.1 hn1 hnN, Option.bind_some, if_neg (nN hS.1 hnN), eRe_nextHeavy_62, eRe_nextHeavy_59, nI1]
    show _ = some (some (sA (er (pe P) (nxh E S (n + 1) d (if hb S n = true then (if ¬ lg_cmp (eC E n &&& S) 0 = 0 then b else if b = 0 then n else if mwt E n b = 0 then b else n) else b)))), σ) ∧ nxh E S (n + 1) d (if hb S n = true then (if ¬ lg_cmp (eC E n &&& S) 0 = 0 then b else if b = 0 then n else if mwt E n b = 0 then b else n) else b) ≤ N
    cases hbn : hb S n
    · simp only [Bool.false_eq_true, if_false, if_true]
      exact hxb
    · simp only [if_true, reduceCtorEq, if_false, hev.ch, Option.bind_some]
      by_cases c1 : lg_cmp (eC E n &&& S) 0 = 0
      · simp only [c1, not_true, if_false]
        by_cases c2 : b = 0
        · simp only [er_none, if_pos c2]
          exact hxn
        · simp only [er_none, if_neg c2, er_n c2, Re_isOfMoreWeight hS h hn1 hnN (show 1 ≤ b by omega) hb0, Option.bind_some]
          by_cases c3 : mwt E n b = 0
          · simp only [if_pos c3]
            rw [er_n c2] at hxb
            exact hxb
          · simp only [if_neg c3]
            exact hxn
      · simp only [c1, not_false_eq_true, if_true]
        exact hxb
theorem Re_nextHeavy (hS : RS P E N) (h : RV σ P E N ag gA gT gR ml pl) (S : Int64) : cA rF nRe_nextHeavy [sA (some (pd P 2)), sJ S] σ = some (er (pe P) (nxh E S 1 N 0), σ) ∧ nxh E S 1 N 0 ≤ N := by
  have hx := Re_nextHeavy_5 hS h S N 1 0 (Nat.le_refl _) (by omega) (Nat.zero_le _)
  exact ⟨cA_of ((eRe_nextHeavy _ _ σ).trans hx.1), hx.2⟩
def frb (E : Ed) (pl : Nat → Int32) (a b : Nat) : Int32 := if pl b < pl a then 1 else if ¬ pl a = pl b then 0 else if eM E b ≤ eM E a then 0 else 1
theorem Re_isFartherBack (hS : RS P E N) (h : RV σ P E N ag gA gT gR ml pl) {a b : Nat} (a1 : 1 ≤ a) (a2 : a ≤ N) (b1 : 1 ≤ b) (b2 : b ≤ N) : cI rF nRe_isFartherBack [sA (some (pd P 2)), sA (some (pe P a)), sA (some (pe P b))] σ = some (frb E pl a b, σ) := by
  refine cI_of ((eRe_isFartherBack _ _ _ σ).trans ?_)
  have hN := hS.1
  simp only [h.f5, (h.ev a a1 a2).num, (h.ev b b1 b2).num, h.rpl (show a < 41 by omega), h.rpl (show b < 41 by omega), (h.ev a a1 a2).tm, (h.ev b b1 b2).tm, Option.bind_some, eRe_isFartherBack_44, eRe_isFartherBack_48, eRe_isFartherBack_49, rz_0, rz_1]
  unfold frb
  split
  · rfl
  · split
    · rfl
    · split <;> rfl
def nxo (E : Ed) (pl : Nat → Int32) (S : Int64) : Nat → Nat → Nat → Nat
  | _, 0, b => b
  | n, d + 1, b => nxo E pl S (n + 1) d (if hb S n = true then (if b = 0 then n else if frb E pl n b = 0 then b else n) else b)
theorem Re_nextOther_5 (hS : RS P E N) (h : RV σ P E N ag gA gT gR ml pl) (S : Int64) : ∀ (d n b : Nat), 1 ≤ n → n + d = N + 1 → b ≤ N → fRe_nextOther_5 (some (pd P 2)) S (er (pe P) b) (nI n) σ = some (some (sA (er (pe P) (nxo E pl S n d b))), σ) ∧ nxo E pl S n d b ≤ N := by
  intro d
  induction d with
  | zero =>
    intro n b hn1 hn hb0
    have : n = N + 1 := by omega
    subst this
    refine ⟨?_, hb0⟩
    rw [eRe_nextOther_5]
    simp only [h.f0, h.hi.made, Option.bind_some, if_pos (nN1 hS.1)]
    rfl
  | succ d ih =>
    intro n b hn1 hn hb0
    have hnN : n ≤ N := by omega
    have hxb := ih (n + 1) b (by omega) (by omega) hb0
    have hxn := ih (n + 1) n (by omega) (by omega) hnN
    rw [er_n (show n ≠ 0 by omega)] at hxn
    rw [eRe_nextOther_5]
    simp only [h.f0, h.hi.made, h.hi.rc, Hi_pick h.hi hS.1 hn1 hnN, Option.bind_some, if_neg (nN hS.1 hnN), eRe_nextOther_51, eRe_nextOther_48, nI1]
    show _ = some (some (sA (er (pe P) (nxo E pl S (n + 1) d (if hb S n = true then (if b = 0 then n else if frb E pl n b = 0 then b else n) else b)))), σ) ∧ nxo E pl S (n + 1) d (if hb S n = true then (if b = 0 then n else if frb E pl n b = 0 then b else n) else b) ≤ N
    cases hbn : hb S n
    · simp only [Bool.false_eq_true, if_false, if_true]
      exact hxb
    · simp only [if_true, reduceCtorEq, if_false]
      by_cases c2 : b = 0
      · simp only [er_none, if_pos c2]
        exact hxn
      · simp only [er_none, if_neg c2, er_n c2, h.rc, Re_isFartherBack hS h hn1 hnN (show 1 ≤ b by omega) hb0, Option.bind_some]
        by_cases c3 : frb E pl n b = 0
        · simp only [if_pos c3]
          rw [er_n c2] at hxb
          exact hxb
        · simp only [if_neg c3]
          exact hxn
theorem Re_nextOther (hS : RS P E N) (h : RV σ P E N ag gA gT gR ml pl) (S : Int64) : cA rF nRe_nextOther [sA (some (pd P 2)), sJ S] σ = some (er (pe P) (nxo E pl S 1 N 0), σ) ∧ nxo E pl S 1 N 0 ≤ N := by
  have hx := Re_nextOther_5 hS h S N 1 0 (Nat.le_refl _) (by omega) (Nat.zero_le _)
  exact ⟨cA_of ((eRe_nextOther _ _ σ).trans hx.1), hx.2⟩
end RE2
