/-! What holds of the events at all times. -/
def Kok (E : Ed) (N : Nat) (g : Nat → Nat) : Prop := ∀ k, k < 9 → g k ≤ N ∧ (g k ≠ 0 → kyN E (g k) = k ∧ eK E (g k) ≠ 7)
def EvI (E : Ed) (n : Nat) : Prop :=
  (2 ≤ n → 1 ≤ eK E n) ∧ eK E n ≤ 7 ∧ eS E n < 6 ∧ eT E n < 6 ∧ (eG E n = 0 ∨ eG E n = 1) ∧
  (∀ i, hb (eP E n) i = true → 1 ≤ i ∧ i < n) ∧ Kok E n (eF E n) ∧ eF E n 0 = 1 ∧
  (∀ i, hb (eU E n) i = true → 1 ≤ i ∧ i < n ∧ eK E i ≠ 7 ∧ eA E n (kyN E i) = i) ∧
  (∀ k, k < 9 → eA E n k ≠ 0 → eA E n k < n ∧ eK E (eA E n k) ≠ 7 ∧ hb (eU E n) (eA E n k) = true ∧ kyN E (eA E n k) = k) ∧
  (2 ≤ n → eA E n 0 = 1) ∧ (∀ i, hb (eC E n) i = true → 1 ≤ i ∧ i < n ∧ eK E i ≠ 7) ∧ (2 ≤ n → hb (eC E n) 1 = true) ∧
  (2 ≤ n → eG E n ≠ 0 → ∃ k, k < 9 ∧ 2 ≤ eF E n k)
def InV (E : Ed) (N : Nat) : Prop := (2 ≤ N ∧ N ≤ 40) ∧ (∀ k, k < 9 → eF E 0 k = 0) ∧ (eK E 1 = 0 ∧ eS E 1 = 0 ∧ eG E 1 ≠ 0 ∧ hb (eP E 2) 1 = true) ∧ ∀ n, 1 ≤ n → n ≤ N → EvI E n
/-- sources of a resolution -/
def SrcOk (E : Ed) (N : Nat) (S : Int64) : Prop := (∃ s, hb S s = true) ∧ (∀ n, hb S n = true → (1 ≤ n ∧ n ≤ N) ∧ eG E n ≠ 0) ∧ ((∀ n, hb S n = true → 2 ≤ n) ∨ ∃ s, ∀ n, hb S n = true → n = s)
section INV
variable {E : Ed} {N : Nat} {S : Int64} {g : Nat → Nat}
theorem kyN_1 (h : eK E 1 = 0) : kyN E 1 = 0 := by
  unfold kyN
  rw [if_pos h]
theorem Kok.gle (h : Kok E N g) : gle g N := fun j hj => (h j hj).1
theorem Kok.mono {M : Nat} (h : Kok E N g) (hN : N ≤ M) : Kok E M g := fun j hj => ⟨by have := (h j hj).1; omega, (h j hj).2⟩
theorem InV.aui (h : InV E N) {n : Nat} (h1 : 1 ≤ n) (h2 : n ≤ N) : AuI E N n := by
  obtain ⟨-, -, -, -, -, -, -, -, hU, hA, -, -, -, -⟩ := h.2.2.2 n h1 h2
  refine ⟨fun i hi => ?_, fun k hk hz => ?_⟩
  · obtain ⟨i1, i2, i3, i4⟩ := hU i hi
    obtain ⟨-, k7, -, t6, -⟩ := h.2.2.2 i i1 (by omega)
    exact ⟨i1, by omega, k7, i3, t6, i4⟩
  · obtain ⟨-, -, a3, a4⟩ := hA k hk hz
    exact ⟨a3, a4⟩
theorem InV.agle (h : InV E N) {n : Nat} (h1 : 1 ≤ n) (h2 : n ≤ N) : gle (eA E n) N ∧ eA E n 1 < n := by
  obtain ⟨-, -, -, -, -, -, -, -, -, hA, -, -, -, -⟩ := h.2.2.2 n h1 h2
  refine ⟨fun k hk => ?_, ?_⟩
  · by_cases z : eA E n k = 0
    · omega
    · have := (hA k hk z).1
      omega
  · by_cases z : eA E n 1 = 0
    · omega
    · exact (hA 1 (by decide) z).1
theorem InV.rok (h : InV E N) : Rok E N := by
  refine ⟨h.1.2, fun n h1 h2 i hi => ?_, fun n h1 h2 => ⟨h.aui h1 h2, h.agle h1 h2⟩, h.2.2.1.2.1⟩
  obtain ⟨-, -, -, -, -, -, -, -, -, -, -, hC, -, -⟩ := h.2.2.2 n h1 h2
  exact (hC i hi).2.1
theorem InV.pok (h : InV E N) : Pok E N := by
  intro e h1 h2
  exact (h.2.2.2 e h1 h2).2.2.2.2.2.1
theorem InV.cnd (h : InV E N) {n : Nat} (h1 : 2 ≤ n) (h2 : n ≤ N) (h7 : eK E n ≠ 7) : Cnd E N n := by
  obtain ⟨a, b, c, d, -, -, -, -, -, -, e, -, -, -⟩ := h.2.2.2 n (by omega) h2
  exact ⟨by omega, h2, h.aui (by omega) h2, (h.agle (by omega) h2).1, e h1, a h1, by omega, c, d⟩
theorem InV.kok (h : InV E N) {n : Nat} (h1 : 1 ≤ n) (h2 : n ≤ N) : Kok E N (eF E n) ∧ eF E n 0 = 1 := by
  obtain ⟨-, -, -, -, -, -, a, b, -⟩ := h.2.2.2 n h1 h2
  exact ⟨a.mono h2, b⟩
/-! bits of the sets that the resolution gathers -/
theorem whl_hb (j : Nat) : ∀ (d i : Nat) (m : Int64), hb (whl E g i d m) j = true ↔ hb m j = true ∨ ∃ k, i ≤ k ∧ k < i + d ∧ g k ≠ 0 ∧ hb (eC E (g k)) j = true := by
  intro d
  induction d with
  | zero =>
    intro i m
    refine ⟨fun h => Or.inl h, fun h => ?_⟩
    rcases h with h | ⟨k, a, b, -⟩
    · exact h
    · omega
  | succ d ih =>
    intro i m
    show hb (whl E g (i + 1) d (if g i = 0 then m else m ||| eC E (g i))) j = true ↔ _
    rw [ih]
    by_cases c : g i = 0
    · rw [if_pos c]
      constructor
      · rintro (h | ⟨k, a, b, r⟩)
        · exact Or.inl h
        · exact Or.inr ⟨k, by omega, by omega, r⟩
      · rintro (h | ⟨k, a, b, r1, r2⟩)
        · exact Or.inl h
        · refine Or.inr ⟨k, ?_, by omega, r1, r2⟩
          by_cases e : k = i
          · subst e
            exact absurd c r1
          · omega
    · rw [if_neg c, hb_or, Bool.or_eq_true]
      constructor
      · rintro ((h | h) | ⟨k, a, b, r⟩)
        · exact Or.inl h
        · exact Or.inr ⟨i, by omega, by omega, c, h⟩
        · exact Or.inr ⟨k, by omega, by omega, r⟩
      · rintro (h | ⟨k, a, b, r1, r2⟩)
        · exact Or.inl (Or.inl h)
        · by_cases e : k = i
          · subst e
            exact Or.inl (Or.inr r2)
          · exact Or.inr ⟨k, by omega, by omega, r1, r2⟩
theorem sev_1 (j : Nat) : ∀ (d n : Nat) (q : Int64 × Int64), hb (sev E S n d q).1 j = true → hb q.1 j = true ∨ ∃ i, n ≤ i ∧ i < n + d ∧ hb S i = true ∧ hb (whl E (eF E i) 0 9 0) j = true := by
  intro d
  induction d with
  | zero => intro n q h; exact Or.inl h
  | succ d ih =>
    intro n q h
    replace h : hb (sev E S (n + 1) d (if hb S n = true then (q.1 ||| whl E (eF E n) 0 9 0, q.2 &&& whl E (eF E n) 0 9 0) else q)).1 j = true := h
    rcases ih _ _ h with h | ⟨i, a, b, r⟩
    · by_cases c : hb S n = true
      · rw [if_pos c] at h
        rw [hb_or, Bool.or_eq_true] at h
        rcases h with h | h
        · exact Or.inl h
        · exact Or.inr ⟨n, by omega, by omega, c, h⟩
      · rw [if_neg c] at h
        exact Or.inl h
    · exact Or.inr ⟨i, by omega, by omega, r⟩
theorem sev_2 (j : Nat) : ∀ (d n : Nat) (q : Int64 × Int64), hb q.2 j = true → (∀ i, n ≤ i → i < n + d → hb S i = true → hb (whl E (eF E i) 0 9 0) j = true) → hb (sev E S n d q).2 j = true := by
  intro d
  induction d with
  | zero => intro n q h _; exact h
  | succ d ih =>
    intro n q h hw
    show hb (sev E S (n + 1) d (if hb S n = true then (q.1 ||| whl E (eF E n) 0 9 0, q.2 &&& whl E (eF E n) 0 9 0) else q)).2 j = true
    refine ih _ _ ?_ (fun i a b => hw i (by omega) (by omega))
    by_cases c : hb S n = true
    · rw [if_pos c]
      show hb (q.2 &&& whl E (eF E n) 0 9 0) j = true
      rw [hb_and, h, hw n (by omega) (by omega) c]
      rfl
    · rw [if_neg c]
      exact h
theorem dsp_hb {a : Nat → Int32} {F : Nat → Nat} (hF : ∀ k, k < 9 → F k < 64) (j : Nat) : ∀ (d i : Nat) (m : Int64), i + d = 9 → hb (dsp a F i d m) j = true → hb m j = true ∨ ∃ k, k < 9 ∧ a k = 0 ∧ F k ≠ 0 ∧ F k = j := by
  intro d
  induction d with
  | zero => intro i m _ h; exact Or.inl h
  | succ d ih =>
    intro i m hi h
    replace h : hb (dsp a F (i + 1) d (if ¬ a i = 0 then m else if F i = 0 then m else m ||| bitN (F i))) j = true := h
    rcases ih _ _ (by omega) h with h | r
    · by_cases c : a i = 0
      · have n1 : ¬ ¬ a i = 0 := fun z => z c
        rw [if_neg n1] at h
        by_cases c2 : F i = 0
        · rw [if_pos c2] at h
          exact Or.inl h
        · rw [if_neg c2, hb_or, Bool.or_eq_true, hb_bit (hF i (by omega))] at h
          rcases h with h | h
          · exact Or.inl h
          · exact Or.inr ⟨i, by omega, c, c2, (of_decide_eq_true h).symm⟩
      · rw [if_pos c] at h
        exact Or.inl h
    · exact Or.inr r
theorem dsm_hb {a : Nat → Int32} (hF : ∀ n, 1 ≤ n → n ≤ N → ∀ k, k < 9 → eF E n k < 64) (j : Nat) : ∀ (d n : Nat) (m : Int64), 1 ≤ n → n + d = N + 1 → hb (dsm E S a n d m) j = true → hb m j = true ∨ ∃ i k, 1 ≤ i ∧ i ≤ N ∧ hb S i = true ∧ k < 9 ∧ a k = 0 ∧ eF E i k ≠ 0 ∧ eF E i k = j := by
  intro d
  induction d with
  | zero => intro n m _ _ h; exact Or.inl h
  | succ d ih =>
    intro n m h1 hn h
    replace h : hb (dsm E S a (n + 1) d (if hb S n = true then dsp a (eF E n) 0 9 m else m)) j = true := h
    rcases ih _ _ (by omega) (by omega) h with h | r
    · by_cases c : hb S n = true
      · rw [if_pos c] at h
        rcases dsp_hb (hF n h1 (by omega)) j 9 0 m (by decide) h with h | ⟨k, r⟩
        · exact Or.inl h
        · exact Or.inr ⟨n, k, h1, by omega, c, r⟩
      · rw [if_neg c] at h
        exact Or.inl h
    · exact Or.inr r
theorem hwc_hb {f : Int64} (j : Nat) : ∀ (d n : Nat) (m : Int64), n + d ≤ 64 → hb (hwc E f n d m) j = true → hb m j = true ∨ hb f j = true := by
  intro d
  induction d with
  | zero => intro n m _ h; exact Or.inl h
  | succ d ih =>
    intro n m hn h
    replace h : hb (hwc E f (n + 1) d (if hb f n = true then (if hvy E n = 0 then m else m ||| (bitN n ||| (eC E n &&& f))) else m)) j = true := h
    rcases ih _ _ (by omega) h with h | r
    · by_cases c : hb f n = true
      · rw [if_pos c] at h
        by_cases c2 : hvy E n = 0
        · rw [if_pos c2] at h
          exact Or.inl h
        · rw [if_neg c2, hb_or, hb_or, hb_and, hb_bit (by omega)] at h
          simp only [Bool.or_eq_true, Bool.and_eq_true, decide_eq_true_eq] at h
          rcases h with h | h | h
          · exact Or.inl h
          · subst h
            exact Or.inr c
          · exact Or.inr h.2
      · rw [if_neg c] at h
        exact Or.inl h
    · exact Or.inr r
theorem agm_1 {F k : Nat} : ∀ (d n : Nat) (a : Nat → Int32), a k = 1 → (∀ i, n ≤ i → i < n + d → hb S i = true → eF E i k = eF E F k) → agm E S F n d a k = 1 := by
  intro d
  induction d with
  | zero => intro n a h _; exact h
  | succ d ih =>
    intro n a h hw
    show agm E S F (n + 1) d (if hb S n = true then agn E F n a else a) k = 1
    refine ih _ _ ?_ (fun i a b => hw i (by omega) (by omega))
    by_cases c : hb S n = true
    · rw [if_pos c]
      show (if a k = 0 then 0 else if eF E n k = eF E F k then 1 else 0) = (1 : Int32)
      rw [h, if_neg (by decide), if_pos (hw n (by omega) (by omega) c)]
    · rw [if_neg c]
      exact h
/-! what the resolution needs, out of the invariant -/
theorem Src.first (h : InV E N) (hS : SrcOk E N S) : 1 ≤ fsd S 40 0 ∧ fsd S 40 0 ≤ N ∧ hb S (fsd S 40 0) = true := by
  obtain ⟨⟨s, hs⟩, hb1, -⟩ := hS
  rcases fsd_sp S 40 0 with ⟨a, b⟩ | ⟨a, b, c, -⟩
  · have := hb1 s hs
    have := h.1.2
    rw [b s (by omega) (by omega)] at hs
    cases hs
  · exact ⟨a, ((hb1 _ c).1).2, c⟩
theorem Src.in (hS : SrcOk E N S) : ∀ n, hb S n = true → 1 ≤ n ∧ n ≤ N := fun n hn => (hS.2.1 n hn).1
theorem Src.ag0 (h : InV E N) (hS : SrcOk E N S) : agF E N S 0 = 1 := by
  obtain ⟨f1, f2, f3⟩ := Src.first h hS
  refine agm_1 N 1 _ rfl (fun i a b c => ?_)
  rw [(h.kok a (by omega)).2, (h.kok f1 f2).2]
theorem InV.w1 (h : InV E N) {n : Nat} (h1 : 2 ≤ n) (h2 : n ≤ N) (hg : eG E n ≠ 0) : hb (whl E (eF E n) 0 9 0) 1 = true := by
  obtain ⟨-, -, -, -, -, -, hk, -, -, -, -, -, -, hx⟩ := h.2.2.2 n (by omega) h2
  obtain ⟨k, k9, k2⟩ := hx h1 hg
  refine (whl_hb 1 9 0 0).mpr (Or.inr ⟨k, by omega, by omega, by omega, ?_⟩)
  have hle := (hk k k9).1
  obtain ⟨-, -, -, -, -, -, -, -, -, -, -, -, hc, -⟩ := h.2.2.2 (eF E n k) (by omega) (by omega)
  exact hc k2
theorem Src.fc (h : InV E N) (hS : SrcOk E N S) : Sok E N (fcM E N S) := by
  have hN := h.1.2
  have ha := Src.ag0 h hS
  intro j hj
  have hF : ∀ n, 1 ≤ n → n ≤ N → ∀ k, k < 9 → eF E n k < 64 := fun n n1 n2 k hk => by
    have := ((h.kok n1 n2).1 k hk).1
    omega
  rcases dsm_hb hF j N 1 _ (by decide) (by omega) hj with q | ⟨i, k, i1, i2, i3, k9, k0, e0, ej⟩
  · rw [hb_and, Bool.and_eq_true] at q
    obtain ⟨q1, q2⟩ := q
    rcases sev_1 j N 1 _ q1 with z | ⟨i, i1, i2, i3, i4⟩
    · rw [hb_0] at z
      cases z
    · have hi := Src.in hS i i3
      rcases (whl_hb j 9 0 0).mp i4 with z | ⟨k, -, k9, k0, kc⟩
      · rw [hb_0] at z
        cases z
      · obtain ⟨kk, -⟩ := h.kok hi.1 hi.2
        have hle := (kk k (by omega)).1
        obtain ⟨-, -, -, -, -, -, -, -, -, -, -, hc, -⟩ := h.2.2.2 (eF E i k) (by omega) hle
        obtain ⟨c1, c2, c3⟩ := hc j kc
        refine h.cnd ?_ (by omega) c3
        by_cases j1 : j = 1
        · exfalso
          subst j1
          have hall : hb (sev E S 1 N (0, -1)).2 1 = true := by
            refine sev_2 1 N 1 _ (hb_m1 (by decide)) (fun n n1 n2 n3 => ?_)
            rcases hS.2.2 with w | ⟨s, w⟩
            · exact h.w1 (w n n3) (by omega) (hS.2.1 n n3).2
            · rw [w n n3, ← w i i3]
              exact i4
          rw [hb_not (by decide), hall] at q2
          cases q2
        · omega
  · obtain ⟨kk, -⟩ := h.kok i1 i2
    obtain ⟨l1, l2⟩ := kk k k9
    obtain ⟨l3, l4⟩ := l2 e0
    rw [ej] at l1 l3 l4 e0
    refine h.cnd ?_ l1 l4
    by_cases j1 : j = 1
    · exfalso
      subst j1
      rw [kyN_1 h.2.2.1.1] at l3
      rw [← l3, ha] at k0
      cases k0
    · omega
theorem Src.hw (h : InV E N) (hS : SrcOk E N S) : Sok E N (hwM E N S) := by
  intro j hj
  have hN := h.1.2
  rcases hwc_hb j N 1 0 (by omega) hj with z | z
  · rw [hb_0] at z
    cases z
  · exact Src.fc h hS j z
theorem Sok.rest {a b : Int64} (h : Sok E N a) : Sok E N (a &&& b) := by
  intro j hj
  rw [hb_and, Bool.and_eq_true] at hj
  exact h j hj.1
theorem gF0_k (h : InV E N) (hS : SrcOk E N S) : Kok E N (gF0 E N S) ∧ gF0 E N S 0 = 1 := by
  obtain ⟨f1, f2, f3⟩ := Src.first h hS
  obtain ⟨k1, k2⟩ := h.kok f1 f2
  refine ⟨fun k hk => ?_, ?_⟩
  · show (if agF E N S k = 0 then 0 else eF E (fsd S 40 0) k) ≤ N ∧ ((if agF E N S k = 0 then 0 else eF E (fsd S 40 0) k) ≠ 0 → kyN E (if agF E N S k = 0 then 0 else eF E (fsd S 40 0) k) = k ∧ eK E (if agF E N S k = 0 then 0 else eF E (fsd S 40 0) k) ≠ 7)
    by_cases c : agF E N S k = 0
    · rw [if_pos c]
      exact ⟨Nat.zero_le _, fun z => absurd rfl z⟩
    · rw [if_neg c]
      exact k1 k hk
  · show (if agF E N S 0 = 0 then 0 else eF E (fsd S 40 0) 0) = 1
    rw [Src.ag0 h hS, if_neg (by decide), k2]
theorem tr2_k {e : Nat} (h : Kok E N g) (he : Cnd E N e) : Kok E N (tr2 E g e) := by
  intro k hk
  unfold tr2
  by_cases c : alw E (gtr E g e) e = 0
  · rw [if_pos c]
    exact h k hk
  · rw [if_neg c]
    by_cases c2 : k = kyN E e
    · subst c2
      rw [va_up_self]
      obtain ⟨-, e2, -, -, -, -, e6, -⟩ := he
      exact ⟨e2, fun _ => ⟨rfl, by omega⟩⟩
    · rw [va_up_ne _ _ c2]
      exact h k hk
theorem hl2_k (hN : N ≤ 40) (hL : Lss E N) : ∀ (d : Nat) (m : Int64) (g : Nat → Nat), Sok E N m → Kok E N g → Kok E N (hl2 E N d m g) ∧ hl2 E N d m g 0 = g 0 := by
  intro d
  induction d with
  | zero => intro m g _ h; exact ⟨h, rfl⟩
  | succ d ih =>
    intro m g hS h
    by_cases c : lg_cmp m 0 = 0
    · have e : hl2 E N (d + 1) m g = g := by
        show (if lg_cmp m 0 = 0 then g else _) = g
        rw [if_pos c]
      rw [e]
      exact ⟨h, rfl⟩
    · have e : hl2 E N (d + 1) m g = hl2 E N d (m &&& (bitN (nxh E m 1 N 0) ^^^ (-1))) (tr2 E g (nxh E m 1 N 0)) := by
        show (if lg_cmp m 0 = 0 then g else _) = _
        rw [if_neg c]
      obtain ⟨p1, p2⟩ := nxh_ok hN hL hS.in c
      have pc := hS _ p2
      rw [e]
      have l64 : nxh E m 1 N 0 < 64 := by
        have := pc.2.1
        omega
      obtain ⟨r1, r2⟩ := ih _ _ (hS.rm l64) (tr2_k h pc)
      refine ⟨r1, r2.trans ?_⟩
      exact tr2_0 pc.2.2.2.2.2.1
theorem ol2_k {pl : Nat → Int32} (hN : N ≤ 40) : ∀ (d : Nat) (m : Int64) (g : Nat → Nat), Sok E N m → Kok E N g → Kok E N (ol2 E N pl d m g) := by
  intro d
  induction d with
  | zero => intro m g _ h; exact h
  | succ d ih =>
    intro m g hS h
    by_cases c : lg_cmp m 0 = 0
    · have e : ol2 E N pl (d + 1) m g = g := by
        show (if lg_cmp m 0 = 0 then g else _) = g
        rw [if_pos c]
      rw [e]
      exact h
    · have e : ol2 E N pl (d + 1) m g = ol2 E N pl d (m &&& (bitN (nxo E pl m 1 N 0) ^^^ (-1))) (tr2 E g (nxo E pl m 1 N 0)) := by
        show (if lg_cmp m 0 = 0 then g else _) = _
        rw [if_neg c]
      obtain ⟨p1, p2⟩ := nxo_ok (E := E) (pl := pl) hS.in c
      have pc := hS _ p2
      rw [e]
      have l64 : nxo E pl m 1 N 0 < 64 := by
        have := pc.2.1
        omega
      exact ih _ _ (hS.rm l64) (tr2_k h pc)
theorem Src.hl (h : InV E N) (hS : SrcOk E N S) : Kok E N (hlM E N S) :=
  (hl2_k h.1.2 h.rok.2.1 41 _ _ (Src.hw h hS) (gF0_k h hS).1).1
/-- the resolution's answer is a sound state, with the create event -/
theorem RsM_k (h : InV E N) (hS : SrcOk E N S) (pl : Nat → Int32) : Kok E N (RsM E N S pl) ∧ RsM E N S pl 0 = 1 := by
  obtain ⟨f1, f2, f3⟩ := Src.first h hS
  obtain ⟨k1, k2⟩ := h.kok f1 f2
  have ho : Kok E N (ol2 E N pl 41 (fcM E N S &&& (hwM E N S ^^^ (-1))) (hlM E N S)) := ol2_k h.1.2 41 _ _ (Sok.rest (Src.fc h hS)) (Src.hl h hS)
  refine ⟨fun k hk => ?_, ?_⟩
  · have hr : RsM E N S pl k = if agF E N S k = 0 then ol2 E N pl 41 (fcM E N S &&& (hwM E N S ^^^ (-1))) (hlM E N S) k else eF E (fsd S 40 0) k := rfl
    by_cases c : agF E N S k = 0
    · rw [hr, if_pos c]
      exact ho k hk
    · rw [hr, if_neg c]
      exact k1 k hk
  · show (if agF E N S 0 = 0 then _ else eF E (fsd S 40 0) 0) = 1
    rw [Src.ag0 h hS, if_neg (by decide), k2]
end INV
