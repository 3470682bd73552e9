/-! Sets of events that shrink; the heavy ones' order and the others', as pure loops. -/
theorem lgz {m : Int64} : lg_cmp m 0 = 0 ↔ m = 0 := by rw [lg_cmp_eq]
theorem hb_rm (m : Int64) {b : Nat} (h : b < 64) (n : Nat) : hb (m &&& (bitN b ^^^ (-1))) n = (hb m n && !(decide (n = b))) := by
  by_cases c : n < 64
  · rw [hb_and, hb_not c, hb_bit h]
  · rw [hb_and, hb_big (m := m) (by omega)]
    rfl
def cnt (m : Int64) : Nat → Nat
  | 0 => 0
  | n + 1 => cnt m n + (if hb m (n + 1) = true then 1 else 0)
theorem cnt_le (m : Int64) : ∀ n, cnt m n ≤ n := by
  intro n
  induction n with
  | zero => exact Nat.le_refl _
  | succ n ih =>
    show cnt m n + (if hb m (n + 1) = true then 1 else 0) ≤ n + 1
    split <;> omega
theorem cnt_rm {m : Int64} {b : Nat} (h1 : 1 ≤ b) (h64 : b < 64) (hm : hb m b = true) : ∀ n, cnt (m &&& (bitN b ^^^ (-1))) n + (if b ≤ n then 1 else 0) = cnt m n := by
  intro n
  induction n with
  | zero =>
    rw [if_neg (by omega)]
    rfl
  | succ n ih =>
    show cnt (m &&& (bitN b ^^^ (-1))) n + (if hb (m &&& (bitN b ^^^ (-1))) (n + 1) = true then 1 else 0) + (if b ≤ n + 1 then 1 else 0) = cnt m n + (if hb m (n + 1) = true then 1 else 0)
    rw [← ih, hb_rm m h64]
    by_cases c : n + 1 = b
    · rw [if_neg (show ¬ b ≤ n by omega), if_pos (show b ≤ n + 1 by omega), c, hm]
      simp
    · have e : (b ≤ n + 1) ↔ (b ≤ n) := by omega
      simp only [e, decide_eq_false c, Bool.not_false, Bool.and_true]
      exact Nat.add_right_comm _ _ _
theorem cnt_no {m : Int64} : ∀ n, cnt m n = 0 → ∀ i, 1 ≤ i → i ≤ n → hb m i = false := by
  intro n
  induction n with
  | zero => intro _ i h1 h2; omega
  | succ n ih =>
    intro h i h1 h2
    replace h : cnt m n + (if hb m (n + 1) = true then 1 else 0) = 0 := h
    by_cases c : i = n + 1
    · subst c
      cases hx : hb m (n + 1)
      · rfl
      · rw [hx, if_pos rfl] at h
        omega
    · exact ih (by omega) i h1 (by omega)
theorem cnt_0 {m : Int64} {N : Nat} (ho : ∀ n, hb m n = true → 1 ≤ n ∧ n ≤ N) (h : cnt m N = 0) : m = 0 := by
  refine hb_ext (fun n _ => ?_)
  rw [hb_0]
  cases hx : hb m n
  · rfl
  · have a := ho n hx
    have b := cnt_no N h n a.1 a.2
    rw [hx] at b
    cases b
theorem bit_ex {m : Int64} (h : m ≠ 0) : ∃ n, hb m n = true := by
  by_cases c : ∃ n, hb m n = true
  · exact c
  · exfalso
    refine h (hb_ext (fun n _ => ?_))
    rw [hb_0]
    cases hx : hb m n
    · rfl
    · exact absurd ⟨n, hx⟩ c
theorem lst (p : Nat → Bool) : ∀ (b n : Nat), n ≤ b → p n = true → ∃ i, p i = true ∧ ∀ j, j < i → p j = false := by
  intro b
  induction b with
  | zero =>
    intro n hn h
    exact ⟨n, h, fun j hj => by omega⟩
  | succ b ih =>
    intro n hn h
    by_cases c : ∃ j, j < n ∧ p j = true
    · obtain ⟨j, h1, h2⟩ := c
      exact ih j (by omega) h2
    · refine ⟨n, h, fun j hj => ?_⟩
      cases hx : p j
      · rfl
      · exact absurd ⟨j, hj, hx⟩ c
/-- an event that may be in a contested set -/
def Cnd (E : Ed) (N e : Nat) : Prop := 1 ≤ e ∧ e ≤ N ∧ AuI E N e ∧ gle (eA E e) N ∧ eA E e 0 = 1 ∧ 1 ≤ eK E e ∧ eK E e ≤ 6 ∧ eS E e < 6 ∧ eT E e < 6
def Sok (E : Ed) (N : Nat) (m : Int64) : Prop := ∀ n, hb m n = true → Cnd E N n
theorem Sok.rm {E : Ed} {N b : Nat} {m : Int64} (h : Sok E N m) (h64 : b < 64) : Sok E N (m &&& (bitN b ^^^ (-1))) := by
  intro n hn
  rw [hb_rm m h64] at hn
  cases hx : hb m n
  · rw [hx] at hn
    cases hn
  · exact h n hx
/-- chains hold lesser numbers alone -/
def Lss (E : Ed) (N : Nat) : Prop := ∀ n, 1 ≤ n → n ≤ N → ∀ i, hb (eC E n) i = true → i < n
section NX
variable {E : Ed} {N : Nat} {S : Int64} {pl : Nat → Int32}
theorem nxh_mem : ∀ (d n b : Nat), nxh E S n d b = b ∨ (hb S (nxh E S n d b) = true ∧ n ≤ nxh E S n d b ∧ nxh E S n d b < n + d) := by
  intro d
  induction d with
  | zero => intro n b; exact Or.inl rfl
  | succ d ih =>
    intro n b
    show nxh E S (n + 1) d _ = b ∨ (hb S (nxh E S (n + 1) d _) = true ∧ n ≤ nxh E S (n + 1) d _ ∧ nxh E S (n + 1) d _ < n + (d + 1))
    generalize hv : (if hb S n = true then (if ¬ lg_cmp (eC E n &&& S) 0 = 0 then b else if b = 0 then n else if mwt E n b = 0 then b else n) else b) = v
    have hv2 : v = b ∨ (v = n ∧ hb S n = true) := by
      subst hv
      by_cases c : hb S n = true
      · rw [if_pos c]
        repeat' split
        all_goals first | exact Or.inl rfl | exact Or.inr ⟨rfl, c⟩
      · rw [if_neg c]
        exact Or.inl rfl
    rcases ih (n + 1) v with q | ⟨q1, q2, q3⟩
    · rw [q]
      rcases hv2 with r | ⟨r, rc⟩
      · exact Or.inl r
      · rw [r]
        exact Or.inr ⟨rc, Nat.le_refl _, by omega⟩
    · exact Or.inr ⟨q1, by omega, by omega⟩
theorem nxh_pos : ∀ (d n b : Nat), 1 ≤ n → (b ≠ 0 ∨ ∃ i, n ≤ i ∧ i < n + d ∧ hb S i = true ∧ lg_cmp (eC E i &&& S) 0 = 0) → nxh E S n d b ≠ 0 := by
  intro d
  induction d with
  | zero =>
    intro n b _ h
    rcases h with h | ⟨i, h1, h2, _⟩
    · exact h
    · omega
  | succ d ih =>
    intro n b hn h
    show nxh E S (n + 1) d _ ≠ 0
    refine ih (n + 1) _ (by omega) ?_
    rcases h with h | ⟨i, h1, h2, h3, h4⟩
    · refine Or.inl ?_
      repeat' split
      all_goals first | exact h | omega
    · by_cases c : i = n
      · subst c
        refine Or.inl ?_
        rw [if_pos h3, if_neg (fun q => q h4)]
        repeat' split
        all_goals omega
      · exact Or.inr ⟨i, by omega, by omega, h3, h4⟩
theorem nxh_ok (hN : N ≤ 40) (hL : Lss E N) (hS : ∀ n, hb S n = true → 1 ≤ n ∧ n ≤ N) (h0 : ¬ lg_cmp S 0 = 0) : nxh E S 1 N 0 ≠ 0 ∧ hb S (nxh E S 1 N 0) = true := by
  have hp : nxh E S 1 N 0 ≠ 0 := by
    have hne : S ≠ 0 := fun q => h0 (lgz.mpr q)
    obtain ⟨n, hn⟩ := bit_ex hne
    obtain ⟨i, h1, h2⟩ := lst (hb S) n n (Nat.le_refl _) hn
    obtain ⟨a, b⟩ := hS i h1
    refine nxh_pos N 1 0 (Nat.le_refl _) (Or.inr ⟨i, a, by omega, h1, ?_⟩)
    rw [lgz]
    refine hb_ext (fun j _ => ?_)
    rw [hb_0, hb_and]
    cases hx : hb (eC E i) j
    · rfl
    · rw [h2 j (hL i a b j hx)]
      rfl
  rcases nxh_mem (E := E) (S := S) N 1 0 with q | q
  · exact absurd q hp
  · exact ⟨hp, q.1⟩
theorem nxo_mem : ∀ (d n b : Nat), nxo E pl S n d b = b ∨ (hb S (nxo E pl S n d b) = true ∧ n ≤ nxo E pl S n d b ∧ nxo E pl S n d b < n + d) := by
  intro d
  induction d with
  | zero => intro n b; exact Or.inl rfl
  | succ d ih =>
    intro n b
    show nxo E pl S (n + 1) d _ = b ∨ (hb S (nxo E pl S (n + 1) d _) = true ∧ n ≤ nxo E pl S (n + 1) d _ ∧ nxo E pl S (n + 1) d _ < n + (d + 1))
    generalize hv : (if hb S n = true then (if b = 0 then n else if frb E pl n b = 0 then b else n) else b) = v
    have hv2 : v = b ∨ (v = n ∧ hb S n = true) := by
      subst hv
      by_cases c : hb S n = true
      · rw [if_pos c]
        repeat' split
        all_goals first | exact Or.inl rfl | exact Or.inr ⟨rfl, c⟩
      · rw [if_neg c]
        exact Or.inl rfl
    rcases ih (n + 1) v with q | ⟨q1, q2, q3⟩
    · rw [q]
      rcases hv2 with r | ⟨r, rc⟩
      · exact Or.inl r
      · rw [r]
        exact Or.inr ⟨rc, Nat.le_refl _, by omega⟩
    · exact Or.inr ⟨q1, by omega, by omega⟩
theorem nxo_pos : ∀ (d n b : Nat), 1 ≤ n → (b ≠ 0 ∨ ∃ i, n ≤ i ∧ i < n + d ∧ hb S i = true) → nxo E pl S n d b ≠ 0 := by
  intro d
  induction d with
  | zero =>
    intro n b _ h
    rcases h with h | ⟨i, h1, h2, _⟩
    · exact h
    · omega
  | succ d ih =>
    intro n b hn h
    show nxo E pl S (n + 1) d _ ≠ 0
    refine ih (n + 1) _ (by omega) ?_
    rcases h with h | ⟨i, h1, h2, h3⟩
    · refine Or.inl ?_
      repeat' split
      all_goals first | exact h | omega
    · by_cases c : i = n
      · subst c
        refine Or.inl ?_
        rw [if_pos h3]
        repeat' split
        all_goals omega
      · exact Or.inr ⟨i, by omega, by omega, h3⟩
theorem nxo_ok (hS : ∀ n, hb S n = true → 1 ≤ n ∧ n ≤ N) (h0 : ¬ lg_cmp S 0 = 0) : nxo E pl S 1 N 0 ≠ 0 ∧ hb S (nxo E pl S 1 N 0) = true := by
  have hp : nxo E pl S 1 N 0 ≠ 0 := by
    have hne : S ≠ 0 := fun q => h0 (lgz.mpr q)
    obtain ⟨n, hn⟩ := bit_ex hne
    obtain ⟨a, b⟩ := hS n hn
    exact nxo_pos N 1 0 (Nat.le_refl _) (Or.inr ⟨n, a, by omega, hn⟩)
  rcases nxo_mem (E := E) (S := S) (pl := pl) N 1 0 with q | q
  · exact absurd q hp
  · exact ⟨hp, q.1⟩
end NX
def hl2 (E : Ed) (N : Nat) : Nat → Int64 → (Nat → Nat) → (Nat → Nat)
  | 0, _, g => g
  | d + 1, m, g => if lg_cmp m 0 = 0 then g else hl2 E N d (m &&& (bitN (nxh E m 1 N 0) ^^^ (-1))) (tr2 E g (nxh E m 1 N 0))
def ol2 (E : Ed) (N : Nat) (pl : Nat → Int32) : Nat → Int64 → (Nat → Nat) → (Nat → Nat)
  | 0, _, g => g
  | d + 1, m, g => if lg_cmp m 0 = 0 then g else ol2 E N pl d (m &&& (bitN (nxo E pl m 1 N 0) ^^^ (-1))) (tr2 E g (nxo E pl m 1 N 0))
section HL
variable {E : Ed} {N : Nat} {pl : Nat → Int32}
theorem Sok.in {m : Int64} (h : Sok E N m) : ∀ n, hb m n = true → 1 ≤ n ∧ n ≤ N := fun n hn => ⟨(h n hn).1, (h n hn).2.1⟩
theorem hl1_2 (hN : N ≤ 40) (hL : Lss E N) : ∀ (d : Nat) (m : Int64) (g t : Nat → Nat), Sok E N m → (hl1 E N d m (g, t)).1 = hl2 E N d m g := by
  intro d
  induction d with
  | zero => intro m g t _; rfl
  | succ d ih =>
    intro m g t hS
    show (if lg_cmp m 0 = 0 then (g, t) else if nxh E m 1 N 0 = 0 then (g, t) else hl1 E N d (m &&& (bitN (nxh E m 1 N 0) ^^^ (-1))) (tr1 E g t (nxh E m 1 N 0), trl E g (nxh E m 1 N 0) 0 9 t)).1 = if lg_cmp m 0 = 0 then g else hl2 E N d (m &&& (bitN (nxh E m 1 N 0) ^^^ (-1))) (tr2 E g (nxh E m 1 N 0))
    by_cases c : lg_cmp m 0 = 0
    · rw [if_pos c, if_pos c]
    · obtain ⟨a, b⟩ := nxh_ok hN hL hS.in c
      obtain ⟨e1, e2, e3, e4, e5, e6, e7, e8, e9⟩ := hS _ b
      rw [if_neg c, if_neg a, if_neg c, ih _ _ _ (hS.rm (by omega)), tr1_tr2 (by omega) e8 e9]
theorem ol1_2 (hN : N ≤ 40) : ∀ (d : Nat) (m : Int64) (g t : Nat → Nat), Sok E N m → (ol1 E N pl d m (g, t)).1 = ol2 E N pl d m g := by
  intro d
  induction d with
  | zero => intro m g t _; rfl
  | succ d ih =>
    intro m g t hS
    show (if lg_cmp m 0 = 0 then (g, t) else if nxo E pl m 1 N 0 = 0 then (g, t) else ol1 E N pl d (m &&& (bitN (nxo E pl m 1 N 0) ^^^ (-1))) (tr1 E g t (nxo E pl m 1 N 0), trl E g (nxo E pl m 1 N 0) 0 9 t)).1 = if lg_cmp m 0 = 0 then g else ol2 E N pl d (m &&& (bitN (nxo E pl m 1 N 0) ^^^ (-1))) (tr2 E g (nxo E pl m 1 N 0))
    by_cases c : lg_cmp m 0 = 0
    · rw [if_pos c, if_pos c]
    · obtain ⟨a, b⟩ := nxo_ok (E := E) (pl := pl) hS.in c
      obtain ⟨e1, e2, e3, e4, e5, e6, e7, e8, e9⟩ := hS _ b
      rw [if_neg c, if_neg a, if_neg c, ih _ _ _ (hS.rm (by omega)), tr1_tr2 (by omega) e8 e9]
theorem cnt_dn {m : Int64} {b d : Nat} (hN : N ≤ 40) (h1 : 1 ≤ b) (h2 : b ≤ N) (hm : hb m b = true) (h : cnt m N ≤ d + 1) : cnt (m &&& (bitN b ^^^ (-1))) N ≤ d := by
  have := cnt_rm h1 (by omega) hm N
  rw [if_pos h2] at this
  omega
theorem hl2_s (hN : N ≤ 40) (hL : Lss E N) : ∀ (d : Nat) (m : Int64) (g : Nat → Nat), Sok E N m → cnt m N ≤ d → hl2 E N (d + 1) m g = hl2 E N d m g := by
  intro d
  induction d with
  | zero =>
    intro m g hS hc
    show (if lg_cmp m 0 = 0 then g else _) = g
    rw [if_pos (lgz.mpr (cnt_0 hS.in (by omega)))]
  | succ d ih =>
    intro m g hS hc
    show (if lg_cmp m 0 = 0 then g else hl2 E N (d + 1) (m &&& (bitN (nxh E m 1 N 0) ^^^ (-1))) (tr2 E g (nxh E m 1 N 0))) = if lg_cmp m 0 = 0 then g else hl2 E N d (m &&& (bitN (nxh E m 1 N 0) ^^^ (-1))) (tr2 E g (nxh E m 1 N 0))
    by_cases c : lg_cmp m 0 = 0
    · rw [if_pos c, if_pos c]
    · obtain ⟨a, b⟩ := nxh_ok hN hL hS.in c
      have q := hS.in _ b
      rw [if_neg c, if_neg c, ih _ _ (hS.rm (by omega)) (cnt_dn hN q.1 q.2 b hc)]
theorem ol2_s (hN : N ≤ 40) : ∀ (d : Nat) (m : Int64) (g : Nat → Nat), Sok E N m → cnt m N ≤ d → ol2 E N pl (d + 1) m g = ol2 E N pl d m g := by
  intro d
  induction d with
  | zero =>
    intro m g hS hc
    show (if lg_cmp m 0 = 0 then g else _) = g
    rw [if_pos (lgz.mpr (cnt_0 hS.in (by omega)))]
  | succ d ih =>
    intro m g hS hc
    show (if lg_cmp m 0 = 0 then g else ol2 E N pl (d + 1) (m &&& (bitN (nxo E pl m 1 N 0) ^^^ (-1))) (tr2 E g (nxo E pl m 1 N 0))) = if lg_cmp m 0 = 0 then g else ol2 E N pl d (m &&& (bitN (nxo E pl m 1 N 0) ^^^ (-1))) (tr2 E g (nxo E pl m 1 N 0))
    by_cases c : lg_cmp m 0 = 0
    · rw [if_pos c, if_pos c]
    · obtain ⟨a, b⟩ := nxo_ok (E := E) (pl := pl) hS.in c
      have q := hS.in _ b
      rw [if_neg c, if_neg c, ih _ _ (hS.rm (by omega)) (cnt_dn hN q.1 q.2 b hc)]
/-- the class's 40 turns, the reference's 41 -/
theorem hl_eq (hN : N ≤ 40) (hL : Lss E N) {m : Int64} {g t : Nat → Nat} (hS : Sok E N m) : (hl1 E N 40 m (g, t)).1 = hl2 E N 41 m g := by
  have := cnt_le m N
  rw [hl1_2 hN hL 40 m g t hS, hl2_s hN hL 40 m g hS (by omega)]
theorem ol_eq (hN : N ≤ 40) {m : Int64} {g t : Nat → Nat} (hS : Sok E N m) : (ol1 E N pl 40 m (g, t)).1 = ol2 E N pl 41 m g := by
  have := cnt_le m N
  rw [ol1_2 hN 40 m g t hS, ol2_s hN 40 m g hS (by omega)]
theorem tr2_0 {g : Nat → Nat} {e : Nat} (h1 : 1 ≤ eK E e) : tr2 E g e 0 = g 0 := by
  unfold tr2
  split
  · rfl
  · refine va_up_ne _ _ ?_
    unfold kyN
    repeat' split
    all_goals omega
theorem tr2_gle {g : Nat → Nat} {e : Nat} (h : gle g N) (he : e ≤ N) : gle (tr2 E g e) N := by
  unfold tr2
  split
  · exact h
  · exact gle_up h he
end HL
