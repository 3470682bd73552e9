/-! The class's resolution and the reference's: the same answer. -/
section REQ
variable {E : Ed} {N : Nat} {S : Int64}
theorem drp_at {F : Nat → Nat} : ∀ (d i : Nat) (q : (Nat → Int32) × (Nat → Nat)) (k : Nat), (drp F i d q).1 k = (if i ≤ k ∧ k < i + d ∧ F k ≠ q.2 k then 0 else q.1 k) ∧ (drp F i d q).2 k = (if i ≤ k ∧ k < i + d ∧ F k ≠ q.2 k then 0 else q.2 k) := by
  intro d
  induction d with
  | zero =>
    intro i q k
    have n0 : ¬ (i ≤ k ∧ k < i + 0 ∧ F k ≠ q.2 k) := fun h => by
      have := h.1
      have := h.2.1
      omega
    rw [if_neg n0, if_neg n0]
    exact ⟨rfl, rfl⟩
  | succ d ih =>
    intro i q k
    show (drp F (i + 1) d (if F i = q.2 i then q else (va_up q.1 i 0, va_up q.2 i 0))).1 k = _ ∧ (drp F (i + 1) d (if F i = q.2 i then q else (va_up q.1 i 0, va_up q.2 i 0))).2 k = _
    obtain ⟨h1, h2⟩ := ih (i + 1) (if F i = q.2 i then q else (va_up q.1 i 0, va_up q.2 i 0)) k
    rw [h1, h2]
    by_cases c : k = i
    · subst c
      have n1 : ∀ x : Nat, ¬ (k + 1 ≤ k ∧ k < k + 1 + d ∧ F k ≠ x) := fun x h => by
        have := h.1
        omega
      rw [if_neg (n1 _), if_neg (n1 _)]
      by_cases c2 : F k = q.2 k
      · have n2 : ¬ (k ≤ k ∧ k < k + (d + 1) ∧ F k ≠ q.2 k) := fun h => h.2.2 c2
        rw [if_pos c2, if_neg n2, if_neg n2]
        exact ⟨rfl, rfl⟩
      · have p2 : k ≤ k ∧ k < k + (d + 1) ∧ F k ≠ q.2 k := ⟨Nat.le_refl _, by omega, c2⟩
        rw [if_neg c2, if_pos p2, if_pos p2]
        exact ⟨va_up_self _ _ _, va_up_self _ _ _⟩
    · have e1 : (if F i = q.2 i then q else (va_up q.1 i 0, va_up q.2 i 0)).1 k = q.1 k := by
        split
        · rfl
        · exact va_up_ne _ _ c
      have e2 : (if F i = q.2 i then q else (va_up q.1 i 0, va_up q.2 i 0)).2 k = q.2 k := by
        split
        · rfl
        · exact va_up_ne _ _ c
      rw [e1, e2]
      have e3 : (i + 1 ≤ k ∧ k < i + 1 + d ∧ F k ≠ q.2 k) ↔ (i ≤ k ∧ k < i + (d + 1) ∧ F k ≠ q.2 k) := ⟨fun h => ⟨by have := h.1; omega, by have := h.2.1; omega, h.2.2⟩, fun h => ⟨by have := h.1; omega, by have := h.2.1; omega, h.2.2⟩⟩
      simp only [e3]
      exact ⟨trivial, trivial⟩
theorem ini_at : ∀ (d i : Nat) (q : (Nat → Int32) × (Nat → Nat)) (k : Nat), (ini i d q).1 k = (if i ≤ k ∧ k < i + d then 1 else q.1 k) ∧ (ini i d q).2 k = (if i ≤ k ∧ k < i + d then 0 else q.2 k) := by
  intro d
  induction d with
  | zero =>
    intro i q k
    rw [if_neg (by omega), if_neg (by omega)]
    exact ⟨rfl, rfl⟩
  | succ d ih =>
    intro i q k
    show (ini (i + 1) d (va_up q.1 i 1, va_up q.2 i 0)).1 k = _ ∧ (ini (i + 1) d (va_up q.1 i 1, va_up q.2 i 0)).2 k = _
    obtain ⟨h1, h2⟩ := ih (i + 1) (va_up q.1 i 1, va_up q.2 i 0) k
    rw [h1, h2]
    by_cases c : k = i
    · subst c
      have n1 : ¬ (k + 1 ≤ k ∧ k < k + 1 + d) := by omega
      have p1 : k ≤ k ∧ k < k + (d + 1) := by omega
      rw [if_neg n1, if_neg n1, if_pos p1, if_pos p1]
      exact ⟨va_up_self _ _ _, va_up_self _ _ _⟩
    · by_cases c2 : i + 1 ≤ k ∧ k < i + 1 + d
      · have p1 : i ≤ k ∧ k < i + (d + 1) := by omega
        rw [if_pos c2, if_pos c2, if_pos p1, if_pos p1]
        exact ⟨rfl, rfl⟩
      · have n1 : ¬ (i ≤ k ∧ k < i + (d + 1)) := by omega
        rw [if_neg c2, if_neg c2, if_neg n1, if_neg n1]
        exact ⟨va_up_ne _ _ c, va_up_ne _ _ c⟩
def Agr (E : Ed) (F : Nat) (q : (Nat → Int32) × (Nat → Nat)) : Prop := ∀ k, k < 9 → (q.1 k = 1 ∧ q.2 k = eF E F k) ∨ (q.1 k = 0 ∧ q.2 k = 0)
theorem drp_agr {F n : Nat} {q : (Nat → Int32) × (Nat → Nat)} (h : Agr E F q) : Agr E F (drp (eF E n) 0 9 q) ∧ ∀ k, k < 9 → (drp (eF E n) 0 9 q).1 k = agn E F n q.1 k := by
  have hk : ∀ k, k < 9 → ((drp (eF E n) 0 9 q).1 k = 1 ∧ (drp (eF E n) 0 9 q).2 k = eF E F k ∨ (drp (eF E n) 0 9 q).1 k = 0 ∧ (drp (eF E n) 0 9 q).2 k = 0) ∧ (drp (eF E n) 0 9 q).1 k = agn E F n q.1 k := by
    intro k hk
    obtain ⟨d1, d2⟩ := drp_at (F := eF E n) 9 0 q k
    rw [d1, d2]
    unfold agn
    rcases h k hk with ⟨a, b⟩ | ⟨a, b⟩
    · rw [a, b]
      by_cases c : eF E n k = eF E F k
      · have n1 : ¬ (0 ≤ k ∧ k < 0 + 9 ∧ eF E n k ≠ eF E F k) := fun x => x.2.2 c
        rw [if_neg n1, if_neg n1, if_neg (by decide), if_pos c]
        exact ⟨Or.inl ⟨rfl, rfl⟩, rfl⟩
      · have p1 : 0 ≤ k ∧ k < 0 + 9 ∧ eF E n k ≠ eF E F k := ⟨Nat.zero_le _, by omega, c⟩
        rw [if_pos p1, if_pos p1, if_neg (by decide), if_neg c]
        exact ⟨Or.inr ⟨rfl, rfl⟩, rfl⟩
    · rw [a, b, if_pos rfl]
      split
      · exact ⟨Or.inr ⟨rfl, rfl⟩, rfl⟩
      · exact ⟨Or.inr ⟨rfl, rfl⟩, rfl⟩
  exact ⟨fun k h => (hk k h).1, fun k h => (hk k h).2⟩
theorem fag_0 {F : Nat} : ∀ (d n : Nat) (q : (Nat → Int32) × (Nat → Nat)), Agr E F q → Agr E F (fag E S n d (0, q)) ∧ ∀ k, k < 9 → (fag E S n d (0, q)).1 k = agm E S F n d q.1 k := by
  intro d
  induction d with
  | zero => intro n q h; exact ⟨h, fun _ _ => rfl⟩
  | succ d ih =>
    intro n q h
    cases hx : hb S n
    · have e1 : fag E S n (d + 1) (0, q) = fag E S (n + 1) d (0, q) := by
        show fag E S (n + 1) d (if hb S n = true then _ else (0, q)) = _
        rw [hx, if_neg (by decide)]
      have e2 : agm E S F n (d + 1) q.1 = agm E S F (n + 1) d q.1 := by
        show agm E S F (n + 1) d (if hb S n = true then _ else q.1) = _
        rw [hx, if_neg (by decide)]
      rw [e1, e2]
      exact ih (n + 1) q h
    · have e1 : fag E S n (d + 1) (0, q) = fag E S (n + 1) d (0, drp (eF E n) 0 9 q) := by
        show fag E S (n + 1) d (if hb S n = true then (0, drp (eF E n) 0 9 (q.1, if (0 : Int32) = 0 then q.2 else eF E n)) else (0, q)) = _
        rw [if_pos hx, if_pos rfl]
      have e2 : agm E S F n (d + 1) q.1 = agm E S F (n + 1) d (agn E F n q.1) := by
        show agm E S F (n + 1) d (if hb S n = true then _ else q.1) = _
        rw [if_pos hx]
      obtain ⟨a1, a2⟩ := drp_agr (n := n) h
      obtain ⟨b1, b2⟩ := ih (n + 1) _ a1
      rw [e1, e2]
      exact ⟨b1, fun k hk => (b2 k hk).trans (agm_c _ _ _ _ a2 k hk)⟩
theorem fag_1 {F : Nat} (hF : F = 0 ∧ (∀ i, 1 ≤ i → i ≤ N → hb S i = false) ∧ (∀ k, k < 9 → eF E 0 k = 0) ∨ 1 ≤ F ∧ F ≤ N ∧ hb S F = true ∧ ∀ i, 1 ≤ i → i < F → hb S i = false) : ∀ (d n : Nat) (q : (Nat → Int32) × (Nat → Nat)), 1 ≤ n → n + d = N + 1 → (F = 0 ∨ n ≤ F) → (∀ k, k < 9 → q.1 k = 1 ∧ q.2 k = 0) → Agr E F (fag E S n d (1, q)) ∧ ∀ k, k < 9 → (fag E S n d (1, q)).1 k = agm E S F n d q.1 k := by
  intro d
  induction d with
  | zero =>
    intro n q h1 hn hf hq
    refine ⟨fun k hk => Or.inl ?_, fun _ _ => rfl⟩
    rcases hF with ⟨f0, _, z⟩ | ⟨f1, f2, _, _⟩
    · show q.1 k = 1 ∧ q.2 k = eF E F k
      rw [f0, z k hk]
      exact hq k hk
    · omega
  | succ d ih =>
    intro n q h1 hn hf hq
    cases hx : hb S n
    · have e1 : fag E S n (d + 1) (1, q) = fag E S (n + 1) d (1, q) := by
        show fag E S (n + 1) d (if hb S n = true then _ else (1, q)) = _
        rw [hx, if_neg (by decide)]
      have e2 : agm E S F n (d + 1) q.1 = agm E S F (n + 1) d q.1 := by
        show agm E S F (n + 1) d (if hb S n = true then _ else q.1) = _
        rw [hx, if_neg (by decide)]
      rw [e1, e2]
      refine ih (n + 1) q (by omega) (by omega) ?_ hq
      rcases hf with f | f
      · exact Or.inl f
      · by_cases c : n = F
        · exfalso
          rcases hF with ⟨f0, _, _⟩ | ⟨_, _, f3, _⟩
          · omega
          · rw [← c, hx] at f3
            cases f3
        · exact Or.inr (by omega)
    · have hFn : F = n := by
        rcases hF with ⟨f0, z, _⟩ | ⟨f1, f2, f3, f4⟩
        · rw [z n h1 (by omega)] at hx
          cases hx
        · rcases hf with f | f
          · omega
          · by_cases c : n < F
            · rw [f4 n h1 c] at hx
              cases hx
            · omega
      subst hFn
      have e1 : fag E S F (d + 1) (1, q) = fag E S (F + 1) d (0, drp (eF E F) 0 9 (q.1, eF E F)) := by
        show fag E S (F + 1) d (if hb S F = true then (0, drp (eF E F) 0 9 (q.1, if (1 : Int32) = 0 then q.2 else eF E F)) else (1, q)) = _
        rw [if_pos hx, if_neg (by decide)]
      have e2 : agm E S F F (d + 1) q.1 = agm E S F (F + 1) d (agn E F F q.1) := by
        show agm E S F (F + 1) d (if hb S F = true then _ else q.1) = _
        rw [if_pos hx]
      have hA : Agr E F (q.1, eF E F) := fun k hk => Or.inl ⟨(hq k hk).1, rfl⟩
      obtain ⟨a1, a2⟩ := drp_agr (n := F) hA
      obtain ⟨b1, b2⟩ := fag_0 (S := S) d (F + 1) _ a1
      rw [e1, e2]
      exact ⟨b1, fun k hk => (b2 k hk).trans (agm_c _ _ _ _ a2 k hk)⟩
theorem agq_eq (hN : N ≤ 40) (hS : ∀ n, hb S n = true → 1 ≤ n ∧ n ≤ N) (hz : ∀ k, k < 9 → eF E 0 k = 0) (q : (Nat → Int32) × (Nat → Nat)) : ∀ k, k < 9 → (agq E S N q).1 k = agF E N S k ∧ (agq E S N q).2 k = gF0 E N S k := by
  have hF : fsd S 40 0 = 0 ∧ (∀ i, 1 ≤ i → i ≤ N → hb S i = false) ∧ (∀ k, k < 9 → eF E 0 k = 0) ∨ 1 ≤ fsd S 40 0 ∧ fsd S 40 0 ≤ N ∧ hb S (fsd S 40 0) = true ∧ ∀ i, 1 ≤ i → i < fsd S 40 0 → hb S i = false := by
    rcases fsd_sp S 40 0 with ⟨a, b⟩ | ⟨a, b, c, d⟩
    · exact Or.inl ⟨a, fun i h1 h2 => b i h1 (by omega), hz⟩
    · exact Or.inr ⟨a, (hS _ c).2, c, d⟩
  have hq : ∀ k, k < 9 → (ini 0 9 q).1 k = 1 ∧ (ini 0 9 q).2 k = 0 := fun k hk => by
    obtain ⟨a, b⟩ := ini_at 9 0 q k
    rw [a, b, if_pos (by omega), if_pos (by omega)]
    exact ⟨rfl, rfl⟩
  have hf : fsd S 40 0 = 0 ∨ 1 ≤ fsd S 40 0 := by omega
  obtain ⟨a, b⟩ := fag_1 hF N 1 (ini 0 9 q) (Nat.le_refl _) (by omega) hf hq
  intro k hk
  have e1 : (agq E S N q).1 k = agF E N S k := (b k hk).trans (agm_c _ _ _ _ (fun j hj => (hq j hj).1) k hk)
  refine ⟨e1, ?_⟩
  unfold gF0
  rw [← e1]
  rcases a k hk with ⟨x, y⟩ | ⟨x, y⟩
  · have x' : (agq E S N q).1 k = 1 := x
    rw [x', if_neg (by decide)]
    exact y
  · have x' : (agq E S N q).1 k = 0 := x
    rw [x', if_pos rfl]
    exact y
theorem dsp_or {F : Nat → Nat} {a : Nat → Int32} : ∀ (d i : Nat) (m x : Int64), dsp a F i d (m ||| x) = m ||| dsp a F i d x := by
  intro d
  induction d with
  | zero => intro i m x; rfl
  | succ d ih =>
    intro i m x
    show dsp a F (i + 1) d (if ¬ a i = 0 then m ||| x else if F i = 0 then m ||| x else m ||| x ||| bitN (F i)) = m ||| dsp a F (i + 1) d (if ¬ a i = 0 then x else if F i = 0 then x else x ||| bitN (F i))
    rw [← ih]
    congr 1
    repeat' split
    · rfl
    · rfl
    · exact Int64.or_assoc _ _ _
theorem dsm_or {a : Nat → Int32} : ∀ (d n : Nat) (m x : Int64), dsm E S a n d (m ||| x) = m ||| dsm E S a n d x := by
  intro d
  induction d with
  | zero => intro n m x; rfl
  | succ d ih =>
    intro n m x
    show dsm E S a (n + 1) d (if hb S n = true then dsp a (eF E n) 0 9 (m ||| x) else m ||| x) = m ||| dsm E S a (n + 1) d (if hb S n = true then dsp a (eF E n) 0 9 x else x)
    rw [← ih]
    congr 1
    split
    · exact dsp_or _ _ _ _
    · rfl
theorem fct_eq {a : Nat → Int32} : ∀ (d n : Nat) (p : Int64) (q : Int64 × Int64), fct E S a n d (p, q) = dsm E S a n d p ||| ((sev E S n d q).1 &&& ((sev E S n d q).2 ^^^ (-1))) := by
  intro d
  induction d with
  | zero => intro n p q; rfl
  | succ d ih =>
    intro n p q
    cases hx : hb S n
    · have e1 : fct E S a n (d + 1) (p, q) = fct E S a (n + 1) d (p, q) := by
        show fct E S a (n + 1) d (if hb S n = true then _ else (p, q)) = _
        rw [hx, if_neg (by decide)]
      have e2 : dsm E S a n (d + 1) p = dsm E S a (n + 1) d p := by
        show dsm E S a (n + 1) d (if hb S n = true then _ else p) = _
        rw [hx, if_neg (by decide)]
      have e3 : sev E S n (d + 1) q = sev E S (n + 1) d q := by
        show sev E S (n + 1) d (if hb S n = true then _ else q) = _
        rw [hx, if_neg (by decide)]
      rw [e1, e2, e3]
      exact ih (n + 1) p q
    · have e1 : fct E S a n (d + 1) (p, q) = fct E S a (n + 1) d (p ||| dsp a (eF E n) 0 9 0, (q.1 ||| whl E (eF E n) 0 9 0, q.2 &&& whl E (eF E n) 0 9 0)) := by
        show fct E S a (n + 1) d (if hb S n = true then _ else (p, q)) = _
        rw [if_pos hx]
      have e2 : dsm E S a n (d + 1) p = dsm E S a (n + 1) d (dsp a (eF E n) 0 9 p) := by
        show dsm E S a (n + 1) d (if hb S n = true then _ else p) = _
        rw [if_pos hx]
      have e3 : sev E S n (d + 1) q = sev E S (n + 1) d (q.1 ||| whl E (eF E n) 0 9 0, q.2 &&& whl E (eF E n) 0 9 0) := by
        show sev E S (n + 1) d (if hb S n = true then _ else q) = _
        rw [if_pos hx]
      have e4 : dsp a (eF E n) 0 9 p = p ||| dsp a (eF E n) 0 9 0 := by
        rw [← dsp_or, Int64.or_zero]
      rw [e1, e2, e3, e4]
      exact ih (n + 1) _ _
theorem fct_M (a : Nat → Int32) (h : ∀ k, k < 9 → a k = agF E N S k) : fct E S a 1 N (0, 0, -1) = fcM E N S := by
  rw [fct_eq, dsm_c h]
  unfold fcM
  rw [Int64.or_comm, ← dsm_or, Int64.or_zero]
theorem tr2_c {g g' : Nat → Nat} {e : Nat} (h : ∀ j, j < 9 → g j = g' j) (hs : eS E e < 6) (ht : eT E e < 6) : ∀ j, j < 9 → tr2 E g e j = tr2 E g' e j := by
  intro j hj
  have ha : alw E (gtr E g e) e = alw E (gtr E g' e) e := alw_c (fun i hi => by
    unfold gtr
    rw [h i hi]) hs ht
  unfold tr2
  rw [ha]
  split
  · exact h j hj
  · by_cases c : j = kyN E e
    · rw [c, va_up_self, va_up_self]
    · rw [va_up_ne _ _ c, va_up_ne _ _ c]
      exact h j hj
theorem hl2_c (hN : N ≤ 40) (hL : Lss E N) : ∀ (d : Nat) (m : Int64) (g g' : Nat → Nat), Sok E N m → (∀ j, j < 9 → g j = g' j) → ∀ j, j < 9 → hl2 E N d m g j = hl2 E N d m g' j := by
  intro d
  induction d with
  | zero => intro m g g' _ h j hj; exact h j hj
  | succ d ih =>
    intro m g g' hS h j hj
    show (if lg_cmp m 0 = 0 then g else hl2 E N d (m &&& (bitN (nxh E m 1 N 0) ^^^ (-1))) (tr2 E g (nxh E m 1 N 0))) j = (if lg_cmp m 0 = 0 then g' else hl2 E N d (m &&& (bitN (nxh E m 1 N 0) ^^^ (-1))) (tr2 E g' (nxh E m 1 N 0))) j
    by_cases c : lg_cmp m 0 = 0
    · rw [if_pos c, if_pos c]
      exact h j hj
    · obtain ⟨a, b⟩ := nxh_ok hN hL hS.in c
      obtain ⟨e1, e2, e3, e4, e5, e6, e7, e8, e9⟩ := hS _ b
      rw [if_neg c, if_neg c]
      exact ih _ _ _ (hS.rm (by omega)) (tr2_c h e8 e9) j hj
theorem ol2_c (hN : N ≤ 40) {pl : Nat → Int32} : ∀ (d : Nat) (m : Int64) (g g' : Nat → Nat), Sok E N m → (∀ j, j < 9 → g j = g' j) → ∀ j, j < 9 → ol2 E N pl d m g j = ol2 E N pl d m g' j := by
  intro d
  induction d with
  | zero => intro m g g' _ h j hj; exact h j hj
  | succ d ih =>
    intro m g g' hS h j hj
    show (if lg_cmp m 0 = 0 then g else ol2 E N pl d (m &&& (bitN (nxo E pl m 1 N 0) ^^^ (-1))) (tr2 E g (nxo E pl m 1 N 0))) j = (if lg_cmp m 0 = 0 then g' else ol2 E N pl d (m &&& (bitN (nxo E pl m 1 N 0) ^^^ (-1))) (tr2 E g' (nxo E pl m 1 N 0))) j
    by_cases c : lg_cmp m 0 = 0
    · rw [if_pos c, if_pos c]
      exact h j hj
    · obtain ⟨a, b⟩ := nxo_ok (E := E) (pl := pl) hS.in c
      obtain ⟨e1, e2, e3, e4, e5, e6, e7, e8, e9⟩ := hS _ b
      rw [if_neg c, if_neg c]
      exact ih _ _ _ (hS.rm (by omega)) (tr2_c h e8 e9) j hj
theorem rst_at {a : Nat → Int32} {gA : Nat → Nat} : ∀ (d i : Nat) (g : Nat → Nat) (k : Nat), rst a gA i d g k = if i ≤ k ∧ k < i + d ∧ ¬ a k = 0 then gA k else g k := by
  intro d
  induction d with
  | zero =>
    intro i g k
    have n0 : ¬ (i ≤ k ∧ k < i + 0 ∧ ¬ a k = 0) := fun h => by
      have := h.1
      have := h.2.1
      omega
    rw [if_neg n0]
    rfl
  | succ d ih =>
    intro i g k
    show rst a gA (i + 1) d (if a i = 0 then g else va_up g i (gA i)) k = _
    rw [ih]
    by_cases c : k = i
    · subst c
      have n1 : ¬ (k + 1 ≤ k ∧ k < k + 1 + d ∧ ¬ a k = 0) := fun h => by
        have := h.1
        omega
      rw [if_neg n1]
      by_cases c2 : a k = 0
      · have n2 : ¬ (k ≤ k ∧ k < k + (d + 1) ∧ ¬ a k = 0) := fun h => h.2.2 c2
        rw [if_pos c2, if_neg n2]
      · have p2 : k ≤ k ∧ k < k + (d + 1) ∧ ¬ a k = 0 := ⟨Nat.le_refl _, by omega, c2⟩
        rw [if_neg c2, if_pos p2, va_up_self]
    · have e1 : (if a i = 0 then g else va_up g i (gA i)) k = g k := by
        split
        · rfl
        · exact va_up_ne _ _ c
      have e3 : (i + 1 ≤ k ∧ k < i + 1 + d ∧ ¬ a k = 0) ↔ (i ≤ k ∧ k < i + (d + 1) ∧ ¬ a k = 0) := ⟨fun h => ⟨by have := h.1; omega, by have := h.2.1; omega, h.2.2⟩, fun h => ⟨by have := h.1; omega, by have := h.2.1; omega, h.2.2⟩⟩
      rw [e1]
      simp only [e3]
/-- the class's answer is the reference's -/
theorem Rsl_M (hR : Rok E N) (hS : ∀ n, hb S n = true → 1 ≤ n ∧ n ≤ N) (hz : ∀ k, k < 9 → eF E 0 k = 0) (hf : Sok E N (fcM E N S)) (hw : Sok E N (hwM E N S)) (hg : hlM E N S 1 ≤ N) (ag : Nat → Int32) (gA gT : Nat → Nat) (p0 m0 : Nat → Int32) (hm : ∀ j, j < 41 → m0 j = -1) : ∃ ml pl, (∀ j, j < 41 → ml j = mln E 41 0 (hlM E N S 1) (fun _ => -1) j) ∧ PlOk E N ml pl ∧ ∀ k, k < 9 → Rsl E N S ag gA gT p0 m0 k = RsM E N S pl k := by
  obtain ⟨hN, hL, hA, hs1⟩ := hR
  have hA1 : ∀ n, 1 ≤ n → n ≤ N → eA E n 1 < n := fun n h1 h2 => (hA n h1 h2).2.2
  have hq := agq_eq hN hS hz (ag, gA)
  have hfc : fct E S (agq E S N (ag, gA)).1 1 N (0, 0, -1) = fcM E N S := fct_M _ (fun k hk => (hq k hk).1)
  have hh : (hl1 E N 40 (hwM E N S) ((agq E S N (ag, gA)).2, gT)).1 = hl2 E N 41 (hwM E N S) (agq E S N (ag, gA)).2 := hl_eq hN hL hw
  have hh2 : ∀ j, j < 9 → (hl1 E N 40 (hwM E N S) ((agq E S N (ag, gA)).2, gT)).1 j = hlM E N S j := fun j hj => by
    rw [hh]
    exact hl2_c hN hL 41 _ _ _ hw (fun k hk => (hq k hk).2) j hj
  refine ⟨mln E 40 0 ((hl1 E N 40 (hwM E N S) ((agq E S N (ag, gA)).2, gT)).1 1) m0, pls E (mln E 40 0 ((hl1 E N 40 (hwM E N S) ((agq E S N (ag, gA)).2, gT)).1 1) m0) 1 N p0, fun j hj => ?_, pls_ok hA1 _, fun k hk => ?_⟩
  · rw [hh2 1 (by decide), mln_s hA1 40 0 _ _ (by omega) hg]
    exact mln_c _ _ _ _ _ hm j hj
  · unfold Rsl
    rw [hfc]
    rw [rst_at]
    have hO : Sok E N (fcM E N S &&& (hwM E N S ^^^ (-1))) := fun n hn => by
      rw [hb_and, Bool.and_eq_true] at hn
      exact hf n hn.1
    unfold RsM
    rw [(hq k hk).1]
    by_cases c : agF E N S k = 0
    · have n1 : ¬ (0 ≤ k ∧ k < 0 + 9 ∧ ¬ agF E N S k = 0) := fun h => h.2.2 c
      rw [if_neg n1, if_pos c]
      refine Eq.trans (congrFun (ol_eq (g := (hl1 E N 40 (hwM E N S) ((agq E S N (ag, gA)).2, gT)).1) (t := (hl1 E N 40 (hwM E N S) ((agq E S N (ag, gA)).2, gT)).2) hN hO) k) ?_
      exact ol2_c hN 41 _ _ _ hO hh2 k hk
    · have p1 : 0 ≤ k ∧ k < 0 + 9 ∧ ¬ agF E N S k = 0 := ⟨Nat.zero_le _, by omega, c⟩
      rw [if_pos p1, if_neg c, (hq k hk).2]
      unfold gF0
      rw [if_neg c]
end REQ
