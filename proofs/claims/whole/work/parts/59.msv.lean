/-! The reference's rows of the servers: known, ready, endsOf; size, isEvent, fits. -/
abbrev Sv : Type := Int64 × Int64 × Int64 × Int32
/-- the rows of standings and clocks are the servers' -/
def MoS (I : Nat → Nat → Int32) (Q : Nat → Sv) : Prop := ∀ p, p < 3 → I 1 p = (Q p).2.2.2 ∧ ∀ e, 1 ≤ e → e < 41 → I 17 (41 * p + e) = stn (Q p) e
theorem nI41 (p e : Nat) : (41 : Int32) * nI p + nI e = nI (41 * p + e) := by
  rw [show (41 : Int32) * nI p = nI (41 * p) from nI_mul 41 p, nI_add]
/-- the events that are neither held nor refused here -/
def uns (q : Sv) (m : Int64) : Int64 := m &&& ((q.2.1 ||| q.2.2.1) ^^^ (-1))
def sld (q : Sv) (n : Nat) : Bool := hb q.2.1 n || hb q.2.2.1 n
theorem hb_uns (q : Sv) (m : Int64) (n : Nat) : hb (uns q m) n = (hb m n && !(sld q n)) := by
  unfold uns sld
  by_cases c : n < 64
  · rw [hb_and, hb_not c, hb_or]
  · rw [hb_and, hb_big (m := m) (by omega)]
    rfl
theorem stn_2 (q : Sv) (n : Nat) : stn q n < 2 ↔ sld q n = false := by
  unfold stn sld
  cases hb q.2.1 n <;> cases hb q.2.2.1 n <;> cases hb q.1 n <;> decide
def rdy (m : Int64) (q : Sv) : Nat → Nat → Bool
  | _, 0 => true
  | n, d + 1 => if (hb m n && !(sld q n)) = true then false else rdy m q (n + 1) d
theorem rdy_iff (m : Int64) (q : Sv) : ∀ (d n : Nat), rdy m q n d = true ↔ ∀ i, n ≤ i → i < n + d → (hb m i && !(sld q i)) = false := by
  intro d
  induction d with
  | zero =>
    intro n
    exact ⟨fun _ i h1 h2 => by omega, fun _ => rfl⟩
  | succ d ih =>
    intro n
    show (if (hb m n && !(sld q n)) = true then false else rdy m q (n + 1) d) = true ↔ _
    by_cases c : (hb m n && !(sld q n)) = true
    · rw [if_pos c]
      refine ⟨(fun h => by cases h), fun h => ?_⟩
      have := h n (Nat.le_refl _) (by omega)
      rw [c] at this
      cases this
    · rw [if_neg c, ih]
      refine ⟨fun h i h1 h2 => ?_, fun h i h1 h2 => h i (by omega) (by omega)⟩
      by_cases e : i = n
      · subst e
        cases x : (hb m i && !(sld q i))
        · rfl
        · exact absurd x c
      · exact h i (by omega) (by omega)
theorem rdy_uns {m : Int64} {q : Sv} (hm : ∀ n, hb m n = true → 1 ≤ n ∧ n < 41) : rdy m q 1 40 = true ↔ lg_cmp (uns q m) 0 = 0 := by
  rw [rdy_iff, lgz]
  refine ⟨fun h => hb_ext (fun n _ => ?_), fun h i _ _ => ?_⟩
  · rw [hb_0, hb_uns]
    cases x : hb m n
    · rfl
    · have := hm n x
      have := h n (by omega) (by omega)
      rw [x] at this
      exact this
  · rw [← hb_uns, h, hb_0]
section MSV
variable {σ : Hp} {o N : Nat} {w : Int32 × Int32 × Int32} {I : Nat → Nat → Int32} {L : Nat → Nat → Int64} {E : Ed} {Q : Nat → Sv}
theorem Mo_known (h : MoR σ o w I L) (hQ : MoS I Q) {p e : Nat} (hp : p < 3) (h1 : 1 ≤ e) (h2 : e < 41) : cI rF nMo_known [sA (some o), sI (nI p), sI (nI e)] σ = some (if sld (Q p) e = true then 1 else 0, σ) := by
  refine cI_of ((eMo_known _ _ _ σ).trans ?_)
  simp only [h.f18, nI41, h.g17 (show 41 * p + e < 123 by omega), (hQ p hp).2 e h1 h2, Option.bind_some, eMo_known_20, stn_2]
  cases sld (Q p) e
  · rw [if_pos rfl, if_neg (by decide), rz_0]
  · rw [if_neg (by decide), if_pos rfl, rz_1]
theorem Mo_ready_2 (hN : N ≤ 40) (h : MoR σ o w I L) (hE : MoE I L E N) (hQ : MoS I Q) {p e : Nat} (hp : p < 3) (h1 : 1 ≤ e) (h2 : e ≤ N) : ∀ (d n : Nat), 1 ≤ n → n + d = 41 → fMo_ready_2 (some o) (nI p) (nI e) (nI n) σ = some (some (sI (if rdy (eP E e) (Q p) n d = true then 1 else 0)), σ) := by
  intro d
  induction d with
  | zero =>
    intro n hn1 hn
    have : n = 41 := by omega
    subst this
    rw [eMo_ready_2, if_pos (show (41 : Int32) ≤ nI 41 by decide), rz_1]
    rfl
  | succ d ih =>
    intro n hn1 hn
    rw [eMo_ready_2, if_neg (i41 (show n < 41 by omega))]
    simp only [h.f8, h.g7 (show e < 41 by omega), (hE e h1 h2).2.2.2.2.2.1, Mo_has (show n < 64 by omega), Option.bind_some, h.rc, Mo_known h hQ hp hn1 (show n < 41 by omega), eMo_ready_32, nI1, ih (n + 1) (show 1 ≤ n + 1 by omega) (show n + 1 + d = 41 by omega), rz_0]
    show _ = some (some (sI (if (if (hb (eP E e) n && !(sld (Q p) n)) = true then false else rdy (eP E e) (Q p) (n + 1) d) = true then 1 else 0)), σ)
    cases hb (eP E e) n <;> cases sld (Q p) n <;> simp
theorem Mo_ready (hN : N ≤ 40) (h : MoR σ o w I L) (hE : MoE I L E N) (hQ : MoS I Q) {p e : Nat} (hp : p < 3) (h1 : 1 ≤ e) (h2 : e ≤ N) (hm : ∀ n, hb (eP E e) n = true → 1 ≤ n ∧ n < 41) : cI rF nMo_ready [sA (some o), sI (nI p), sI (nI e)] σ = some (if lg_cmp (uns (Q p) (eP E e)) 0 = 0 then 1 else 0, σ) := by
  refine cI_of ((eMo_ready _ _ _ σ).trans ((show fMo_ready_2 (some o) (nI p) (nI e) (1 : Int32) σ = _ from Mo_ready_2 hN h hE hQ hp h1 h2 40 1 (Nat.le_refl _) (by omega)).trans ?_))
  simp only [rdy_uns hm]
theorem Mo_isEvent (h : MoR σ o w I L) (x : Int32) : cI rF nMo_isEvent [sA (some o), sI x] σ = some (if x < 1 then 0 else if w.2.1 < x then 0 else 1, σ) := by
  refine cI_of ((eMo_isEvent _ _ σ).trans ?_)
  simp only [h.made, Mo_in, Option.bind_some]
  split
  · exact rz_0 σ
  · split
    · exact rz_0 σ
    · exact rz_1 σ
/-- what the reference gathers in endsOf: (held, behind) -/
def eds (E : Ed) (q : Sv) : Nat → Nat → Int64 × Int64 → Int64 × Int64
  | _, 0, x => x
  | n, d + 1, x => eds E q (n + 1) d (if stn q n = 2 then (x.1 ||| bitN n, x.2 ||| eP E n) else x)
theorem Mo_ends_8 (hN : N ≤ 40) (h : MoR σ o w I L) (hE : MoE I L E N) (hQ : MoS I Q) (hw : w.2.1 = nI N) {p : Nat} (hp : p < 3) : ∀ (d n : Nat) (x y : Int64), 1 ≤ n → n + d = N + 1 → fMo_endsOf_8 (some o) (nI p) x y (nI n) σ = some (some (sJ ((eds E (Q p) n d (x, y)).1 &&& ((eds E (Q p) n d (x, y)).2 ^^^ (-1)))), σ) := by
  intro d
  induction d with
  | zero =>
    intro n x y h1 hn
    have : n = N + 1 := by omega
    subst this
    rw [eMo_endsOf_8]
    simp only [h.made, hw, Option.bind_some, if_pos (nN1 hN)]
    rfl
  | succ d ih =>
    intro n x y h1 hn
    have hle : n ≤ N := by omega
    rw [eMo_endsOf_8]
    simp only [h.made, hw, Option.bind_some, if_neg (nN hN hle), h.f18, nI41, h.g17 (show 41 * p + n < 123 by omega), (hQ p hp).2 n h1 (show n < 41 by omega), h.f8, h.g7 (show n < 41 by omega), (hE n h1 hle).2.2.2.2.2.1, eMo_endsOf_52, nI1]
    by_cases c : stn (Q p) n = 2
    · have nc : ¬ ¬ stn (Q p) n = 2 := fun q => q c
      have e1 : eds E (Q p) n (d + 1) (x, y) = eds E (Q p) (n + 1) d (x ||| bitN n, y ||| eP E n) := by
        show eds E (Q p) (n + 1) d (if stn (Q p) n = 2 then _ else (x, y)) = _
        rw [if_pos c]
      rw [if_neg nc, e1]
      exact ih (n + 1) _ _ (by omega) (by omega)
    · have e1 : eds E (Q p) n (d + 1) (x, y) = eds E (Q p) (n + 1) d (x, y) := by
        show eds E (Q p) (n + 1) d (if stn (Q p) n = 2 then _ else (x, y)) = _
        rw [if_neg c]
      rw [if_pos c, e1]
      exact ih (n + 1) _ _ (by omega) (by omega)
theorem Mo_endsOf (hN : N ≤ 40) (h : MoR σ o w I L) (hE : MoE I L E N) (hQ : MoS I Q) (hw : w.2.1 = nI N) {p : Nat} (hp : p < 3) : cJ rF nMo_endsOf [sA (some o), sI (nI p)] σ = some ((eds E (Q p) 1 N (0, 0)).1 &&& ((eds E (Q p) 1 N (0, 0)).2 ^^^ (-1)), σ) :=
  cJ_of ((eMo_endsOf _ _ σ).trans (Mo_ends_8 hN h hE hQ hw hp N 1 0 0 (Nat.le_refl _) (by omega)))
/-- what the class gathers: the prevs of those held -/
def flw (E : Ed) (m : Int64) : Nat → Nat → Int64 → Int64
  | _, 0, x => x
  | n, d + 1, x => flw E m (n + 1) d (if hb m n = true then x ||| eP E n else x)
theorem stn_h (q : Sv) (n : Nat) : stn q n = 2 ↔ hb q.2.1 n = true := by
  unfold stn
  cases hb q.2.1 n <;> cases hb q.2.2.1 n <;> cases hb q.1 n <;> decide
theorem eds_2 {q : Sv} : ∀ (d n : Nat) (x : Int64 × Int64), (eds E q n d x).2 = flw E q.2.1 n d x.2 := by
  intro d
  induction d with
  | zero => intro n x; rfl
  | succ d ih =>
    intro n x
    show (eds E q (n + 1) d _).2 = flw E q.2.1 (n + 1) d _
    rw [ih]
    congr 1
    by_cases c : hb q.2.1 n = true
    · rw [if_pos ((stn_h q n).mpr c), if_pos c]
    · rw [if_neg (fun z => c ((stn_h q n).mp z)), if_neg c]
theorem eds_1 {q : Sv} : ∀ (d n : Nat) (x : Int64 × Int64), n + d ≤ 64 → ∀ i, hb (eds E q n d x).1 i = (hb x.1 i || (decide (n ≤ i ∧ i < n + d) && hb q.2.1 i)) := by
  intro d
  induction d with
  | zero =>
    intro n x _ i
    have : ¬ (n ≤ i ∧ i < n + 0) := by omega
    rw [decide_eq_false this, Bool.false_and, Bool.or_false]
    rfl
  | succ d ih =>
    intro n x hn i
    show hb (eds E q (n + 1) d _).1 i = _
    rw [ih _ _ (by omega)]
    by_cases c : hb q.2.1 n = true
    · rw [if_pos ((stn_h q n).mpr c)]
      show (hb (x.1 ||| bitN n) i || _) = _
      rw [hb_or, hb_bit (by omega)]
      by_cases e : i = n
      · subst e
        have t1 : i ≤ i ∧ i < i + (d + 1) := by omega
        rw [decide_eq_true t1, c]
        simp
      · have t : (n + 1 ≤ i ∧ i < n + 1 + d) ↔ (n ≤ i ∧ i < n + (d + 1)) := by omega
        simp only [t, e, decide_false, Bool.or_false]
    · rw [if_neg (fun z => c ((stn_h q n).mp z))]
      by_cases e : i = n
      · subst e
        have c' : hb q.2.1 i = false := by
          cases z : hb q.2.1 i
          · rfl
          · exact absurd z c
        rw [c']
        simp
      · have t : (n + 1 ≤ i ∧ i < n + 1 + d) ↔ (n ≤ i ∧ i < n + (d + 1)) := by omega
        simp only [t]
/-- the reference's ends are the class's -/
theorem eds_eq {q : Sv} (hN : N ≤ 40) (hq : ∀ n, hb q.2.1 n = true → 1 ≤ n ∧ n ≤ N) : (eds E q 1 N (0, 0)).1 &&& ((eds E q 1 N (0, 0)).2 ^^^ (-1)) = q.2.1 &&& (flw E q.2.1 1 N 0 ^^^ (-1)) := by
  rw [eds_2]
  congr 1
  refine hb_ext (fun i _ => ?_)
  rw [eds_1 N 1 (0, 0) (by omega) i]
  show (hb 0 i || _) = _
  rw [hb_0, Bool.false_or]
  cases x : hb q.2.1 i
  · rw [Bool.and_false]
  · have := hq i x
    have t : 1 ≤ i ∧ i < 1 + N := by omega
    rw [decide_eq_true t]
    rfl
theorem Mo_size_4 (m : Int64) : ∀ (d n x : Nat), n + d = 41 → fMo_size_4 m (nI x) (nI n) σ = fMo_size_4 m (nI (x + (cnt m 40 - cnt m (n - 1)))) (nI 41) σ ∨ n = 0 := by
  intro d
  induction d with
  | zero =>
    intro n x hn
    have : n = 41 := by omega
    subst this
    refine Or.inl ?_
    have e : cnt m 40 - cnt m (41 - 1) = 0 := Nat.sub_self _
    rw [e]
    rfl
  | succ d ih =>
    intro n x hn
    by_cases c0 : n = 0
    · exact Or.inr c0
    · refine Or.inl ?_
      rw [eMo_size_4, if_neg (i41 (show n < 41 by omega))]
      simp only [Mo_has (show n < 64 by omega), Option.bind_some, eMo_size_24, nI1]
      have cn : cnt m n = cnt m (n - 1) + (if hb m n = true then 1 else 0) := by
        obtain ⟨k, rfl⟩ : ∃ k, n = k + 1 := ⟨n - 1, by omega⟩
        rfl
      have mono : ∀ k j, cnt m k ≤ cnt m (k + j) := by
        intro k j
        induction j with
        | zero => exact Nat.le_refl _
        | succ j ihj =>
          refine Nat.le_trans ihj ?_
          show cnt m (k + j) ≤ cnt m (k + j) + _
          omega
      have m1 : cnt m n ≤ cnt m 40 := by
        have := mono n (40 - n)
        rw [show n + (40 - n) = 40 by omega] at this
        exact this
      cases hx : hb m n
      · rw [hx, if_neg (by decide)] at cn
        rw [if_neg (show ¬ (false = true) by decide), if_pos rfl]
        rcases ih (n + 1) x (by omega) with q | q
        · rw [show n + 1 - 1 = n by omega] at q
          rw [show nI x + (0 : Int32) = nI x from Int32.add_zero _, q, cn, Nat.add_zero]
        · omega
      · rw [hx, if_pos rfl] at cn
        rw [if_pos rfl, if_neg (show ¬ ((1 : Int32) = 0) by decide)]
        rcases ih (n + 1) (x + 1) (by omega) with q | q
        · rw [show n + 1 - 1 = n by omega] at q
          rw [q, show x + 1 + (cnt m 40 - cnt m n) = x + (cnt m 40 - cnt m (n - 1)) by omega]
        · omega
theorem Mo_size (m : Int64) : cI rF nMo_size [sJ m] σ = some (nI (cnt m 40), σ) := by
  refine cI_of ((eMo_size _ σ).trans ?_)
  rcases Mo_size_4 (σ := σ) m 40 1 0 rfl with q | q
  · refine Eq.trans (show fMo_size_4 m (0 : Int32) (1 : Int32) σ = _ from q) ?_
    rw [eMo_size_4, if_pos (show (41 : Int32) ≤ nI 41 by decide)]
    have e : 0 + (cnt m 40 - cnt m (1 - 1)) = cnt m 40 := by
      show 0 + (cnt m 40 - 0) = cnt m 40
      omega
    rw [e]
  · omega
def fit (u k t v : Int32) : Bool := !(decide (u < 0) || decide (5 < u) || decide (t < 0) || decide (5 < t) || decide (k < 1) || decide (7 < k) || (decide (k = 5) && (decide (v < 0) || decide (3 < v))) || (decide (k = 6) && (decide (v < 0) || decide (1 < v))))
theorem Mo_fits (u k t v : Int32) (σ : Hp) : cI rF nMo_fits [sI u, sI k, sI t, sI v] σ = some (if fit u k t v = true then 1 else 0, σ) := by
  refine cI_of ((eMo_fits u k t v σ).trans ?_)
  simp only [Mo_in, Option.bind_some, eMo_fits_42, eMo_fits_57, eMo_fits_61, eMo_fits_62, rz_0, rz_1]
  unfold fit
  by_cases a1 : u < 0
  · simp [a1]
  · by_cases a2 : 5 < u
    · simp [a1, a2]
    · by_cases a3 : t < 0
      · simp [a1, a2, a3]
      · by_cases a4 : 5 < t
        · simp [a1, a2, a3, a4]
        · by_cases a5 : k < 1
          · simp [a1, a2, a3, a4, a5]
          · by_cases a6 : 7 < k
            · simp [a1, a2, a3, a4, a5, a6]
            · by_cases a7 : k = 5
              · subst a7
                by_cases b1 : v < 0
                · simp [a1, a2, a3, a4, b1]
                · by_cases b2 : 3 < v
                  · simp [a1, a2, a3, a4, b1, b2]
                  · simp [a1, a2, a3, a4, b1, b2]
              · by_cases a8 : k = 6
                · subst a8
                  by_cases b1 : v < 0
                  · simp [a1, a2, a3, a4, b1]
                  · by_cases b2 : 1 < v
                    · simp [a1, a2, a3, a4, b1, b2]
                    · simp [a1, a2, a3, a4, b1, b2]
                · simp [a1, a2, a3, a4, a5, a6, a7, a8]
end MSV
