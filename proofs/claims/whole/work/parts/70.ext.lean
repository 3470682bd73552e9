/-! One event more: the data, the invariant, the auths. -/
def Ex (E : Ed) (e k s t : Nat) (v tm gd : Int32) (pv au ch : Int64) (fF fA : Nat → Nat) : Ed := (va_up (eK E) e k, va_up (eS E) e s, va_up (eT E) e t, va_up (eV E) e v, va_up (eM E) e tm, va_up (eG E) e gd, va_up (eP E) e pv, va_up (eU E) e au, va_up (eC E) e ch, va_up (eF E) e fF, va_up (eA E) e fA)
/-- the same data up to N -/
def Sam (E E' : Ed) (N : Nat) : Prop := ∀ n, n ≤ N → (eK E' n = eK E n ∧ eS E' n = eS E n ∧ eT E' n = eT E n ∧ eV E' n = eV E n ∧ eM E' n = eM E n) ∧ (eG E' n = eG E n ∧ eP E' n = eP E n ∧ eU E' n = eU E n ∧ eC E' n = eC E n) ∧ eF E' n = eF E n ∧ eA E' n = eA E n
def kyk (k t : Nat) : Nat := if k = 0 then 0 else if k = 5 then 1 else if k = 6 then 2 else 3 + t
def fFn (k t e : Nat) (gd : Int32) (g : Nat → Nat) : Nat → Nat := if gd = 0 then g else if k = 7 then g else va_up g (kyk k t) e
section EXT
variable {E E' : Ed} {N : Nat} {S : Int64} {g : Nat → Nat}
theorem Ex_sam {k s t : Nat} {v tm gd : Int32} {pv au ch : Int64} {fF fA : Nat → Nat} : Sam E (Ex E (N + 1) k s t v tm gd pv au ch fF fA) N := by
  intro n hn
  have ne : n ≠ N + 1 := by omega
  exact ⟨⟨va_up_ne _ _ ne, va_up_ne _ _ ne, va_up_ne _ _ ne, va_up_ne _ _ ne, va_up_ne _ _ ne⟩, ⟨va_up_ne _ _ ne, va_up_ne _ _ ne, va_up_ne _ _ ne, va_up_ne _ _ ne⟩, va_up_ne _ _ ne, va_up_ne _ _ ne⟩
theorem Sam.ky (h : Sam E E' N) {n : Nat} (hn : n ≤ N) : kyN E' n = kyN E n := by
  obtain ⟨⟨a, -, b, -⟩, -⟩ := h n hn
  unfold kyN
  rw [a, b]
theorem Sam.k (h : Sam E E' N) {n : Nat} (hn : n ≤ N) : eK E' n = eK E n := (h n hn).1.1
theorem Kok.sam (h : Sam E E' N) {M : Nat} (hM : M ≤ N) (hk : Kok E M g) : Kok E' M g := by
  intro k k9
  obtain ⟨a, b⟩ := hk k k9
  refine ⟨a, fun z => ?_⟩
  rw [h.ky (show g k ≤ N by omega), h.k (show g k ≤ N by omega)]
  exact b z
theorem EvI.sam (h : Sam E E' N) {n : Nat} (hn : n ≤ N) (hI : EvI E n) : EvI E' n := by
  obtain ⟨⟨a1, a2, a3, a4, a5⟩, ⟨a6, a7, a8, a9⟩, a10, a11⟩ := h n hn
  obtain ⟨b1, b2, b3, b4, b5, b6, b7, b8, b9, b10, b11, b12, b13, b14⟩ := hI
  unfold EvI
  rw [a1, a2, a3, a6, a7, a8, a9, a10, a11]
  refine ⟨b1, b2, b3, b4, b5, b6, b7.sam h hn, b8, fun i hi => ?_, fun k hk hz => ?_, b11, fun i hi => ?_, b13, b14⟩
  · obtain ⟨c1, c2, c3, c4⟩ := b9 i hi
    rw [h.k (show i ≤ N by omega), h.ky (show i ≤ N by omega)]
    exact ⟨c1, c2, c3, c4⟩
  · obtain ⟨c1, c2, c3, c4⟩ := b10 k hk hz
    rw [h.k (show eA E n k ≤ N by omega), h.ky (show eA E n k ≤ N by omega)]
    exact ⟨c1, c2, c3, c4⟩
  · obtain ⟨c1, c2, c3⟩ := b12 i hi
    rw [h.k (show i ≤ N by omega)]
    exact ⟨c1, c2, c3⟩
/-- the auths' set, the chain, the auths by key -/
def Tk (E : Ed) (g : Nat → Nat) (p : Nat → Bool) (q : Int64 × Int64 × (Nat → Nat)) : Prop :=
  (∀ i, hb q.1 i = true ↔ ∃ j, j < 9 ∧ p j = true ∧ g j ≠ 0 ∧ g j = i) ∧ (∀ i, hb q.2.1 i = true ↔ ∃ j, j < 9 ∧ p j = true ∧ g j ≠ 0 ∧ (g j = i ∨ hb (eC E (g j)) i = true)) ∧ ∀ j, j < 9 → q.2.2 j = if p j = true then g j else 0
theorem InV.ext (h : InV E N) (hN : N < 40) (hg : Kok E N g) (h0 : g 0 = 1) {k u t : Nat} (k1 : 1 ≤ k) (k7 : k ≤ 7) (hu : u < 6) (ht : t < 6) {v tm gd : Int32} (hgd : gd = 0 ∨ gd = 1) (hS : ∀ i, hb S i = true → 1 ≤ i ∧ i ≤ N) (hgood : gd ≠ 0 → k = 7 → g (3 + u) ≠ 0) {q : Int64 × Int64 × (Nat → Nat)} (hq : Tk E g (nmd u k t) q) : InV (Ex E (N + 1) k u t v tm gd S q.1 q.2.1 (fFn k t (N + 1) gd g) q.2.2) (N + 1) := by
  have hs : Sam E (Ex E (N + 1) k u t v tm gd S q.1 q.2.1 (fFn k t (N + 1) gd g) q.2.2) N := Ex_sam
  have eK1 : eK (Ex E (N + 1) k u t v tm gd S q.1 q.2.1 (fFn k t (N + 1) gd g) q.2.2) (N + 1) = k := va_up_self _ _ _
  have eS1 : eS (Ex E (N + 1) k u t v tm gd S q.1 q.2.1 (fFn k t (N + 1) gd g) q.2.2) (N + 1) = u := va_up_self _ _ _
  have eT1 : eT (Ex E (N + 1) k u t v tm gd S q.1 q.2.1 (fFn k t (N + 1) gd g) q.2.2) (N + 1) = t := va_up_self _ _ _
  have eG1 : eG (Ex E (N + 1) k u t v tm gd S q.1 q.2.1 (fFn k t (N + 1) gd g) q.2.2) (N + 1) = gd := va_up_self _ _ _
  have eP1 : eP (Ex E (N + 1) k u t v tm gd S q.1 q.2.1 (fFn k t (N + 1) gd g) q.2.2) (N + 1) = S := va_up_self _ _ _
  have eU1 : eU (Ex E (N + 1) k u t v tm gd S q.1 q.2.1 (fFn k t (N + 1) gd g) q.2.2) (N + 1) = q.1 := va_up_self _ _ _
  have eC1 : eC (Ex E (N + 1) k u t v tm gd S q.1 q.2.1 (fFn k t (N + 1) gd g) q.2.2) (N + 1) = q.2.1 := va_up_self _ _ _
  have eF1 : eF (Ex E (N + 1) k u t v tm gd S q.1 q.2.1 (fFn k t (N + 1) gd g) q.2.2) (N + 1) = fFn k t (N + 1) gd g := va_up_self _ _ _
  have eA1 : eA (Ex E (N + 1) k u t v tm gd S q.1 q.2.1 (fFn k t (N + 1) gd g) q.2.2) (N + 1) = q.2.2 := va_up_self _ _ _
  generalize Ex E (N + 1) k u t v tm gd S q.1 q.2.1 (fFn k t (N + 1) gd g) q.2.2 = X at *
  obtain ⟨⟨n2, n40⟩, hz, ⟨z1, z2, z3, z4⟩, hE⟩ := h
  obtain ⟨t1, t2, t3⟩ := hq
  have ky1 : kyN X (N + 1) = kyk k t := by
    unfold kyN kyk
    rw [eK1, eT1]
  have n0 : nmd u k t 0 = true := rfl
  refine ⟨⟨by omega, by omega⟩, fun j hj => ?_, ⟨?_, ?_, ?_, ?_⟩, fun n m1 m2 => ?_⟩
  · rw [(hs 0 (by omega)).2.2.1]
    exact hz j hj
  · rw [hs.k (by omega)]
    exact z1
  · rw [(hs 1 (by omega)).1.2.1]
    exact z2
  · rw [(hs 1 (by omega)).2.1.1]
    exact z3
  · rw [(hs 2 (by omega)).2.1.2.1]
    exact z4
  · by_cases c : n ≤ N
    · exact (hE n m1 c).sam hs c
    · have : n = N + 1 := by omega
      subst this
      unfold EvI
      rw [eK1, eS1, eT1, eG1, eP1, eU1, eC1, eF1, eA1]
      have fk : Kok X (N + 1) (fFn k t (N + 1) gd g) := by
        have hg' : Kok X (N + 1) g := (hg.sam hs (Nat.le_refl _)).mono (by omega)
        unfold fFn
        by_cases c1 : gd = 0
        · rw [if_pos c1]
          exact hg'
        · rw [if_neg c1]
          by_cases c2 : k = 7
          · rw [if_pos c2]
            exact hg'
          · rw [if_neg c2]
            intro j hj
            by_cases c3 : j = kyk k t
            · subst c3
              rw [va_up_self]
              refine ⟨Nat.le_refl _, fun _ => ⟨ky1, ?_⟩⟩
              rw [eK1]
              exact c2
            · rw [va_up_ne _ _ c3]
              exact hg' j hj
      refine ⟨fun _ => k1, k7, hu, ht, hgd, fun i hi => ⟨(hS i hi).1, by have := (hS i hi).2; omega⟩, fk, ?_, fun i hi => ?_, fun j hj hz => ?_, fun _ => ?_, fun i hi => ?_, fun _ => ?_, fun _ hG => ?_⟩
      · unfold fFn
        by_cases c1 : gd = 0
        · rw [if_pos c1]
          exact h0
        · rw [if_neg c1]
          by_cases c2 : k = 7
          · rw [if_pos c2]
            exact h0
          · rw [if_neg c2]
            have ne : 0 ≠ kyk k t := by
              unfold kyk
              rw [if_neg (by omega)]
              split
              · omega
              · split <;> omega
            rw [va_up_ne _ _ ne]
            exact h0
      · obtain ⟨j, j9, jp, jz, je⟩ := (t1 i).mp hi
        obtain ⟨l1, l2⟩ := hg j j9
        obtain ⟨l3, l4⟩ := l2 jz
        rw [je] at l1 l3 l4 jz
        rw [hs.k l1, hs.ky l1, l3, t3 j j9, if_pos jp]
        exact ⟨by omega, by omega, l4, je⟩
      · rw [t3 j hj] at hz ⊢
        by_cases c1 : nmd u k t j = true
        · rw [if_pos c1] at hz ⊢
          obtain ⟨l1, l2⟩ := hg j hj
          obtain ⟨l3, l4⟩ := l2 hz
          rw [hs.k l1, hs.ky l1]
          exact ⟨by omega, l4, (t1 _).mpr ⟨j, hj, c1, hz, rfl⟩, l3⟩
        · rw [if_neg c1] at hz
          exact absurd rfl hz
      · rw [t3 0 (by decide), if_pos n0]
        exact h0
      · obtain ⟨j, j9, jp, jz, je⟩ := (t2 i).mp hi
        obtain ⟨l1, l2⟩ := hg j j9
        obtain ⟨l3, l4⟩ := l2 jz
        rcases je with je | je
        · rw [je] at l1 l4 jz
          rw [hs.k l1]
          exact ⟨by omega, by omega, l4⟩
        · obtain ⟨-, -, -, -, -, -, -, -, -, -, -, hc, -⟩ := hE (g j) (by omega) l1
          obtain ⟨c1, c2, c3⟩ := hc i je
          rw [hs.k (show i ≤ N by omega)]
          exact ⟨c1, by omega, c3⟩
      · exact (t2 1).mpr ⟨0, by decide, n0, by omega, Or.inl h0⟩
      · have fe : fFn k t (N + 1) gd g = if k = 7 then g else va_up g (kyk k t) (N + 1) := by
          unfold fFn
          rw [if_neg hG]
        rw [fe]
        by_cases c2 : k = 7
        · rw [if_pos c2]
          have w := hgood hG c2
          refine ⟨3 + u, by omega, ?_⟩
          have l := (hg (3 + u) (by omega)).2 w
          by_cases c3 : g (3 + u) = 1
          · have l1 := l.1
            rw [c3, kyN_1 z1] at l1
            omega
          · omega
        · rw [if_neg c2]
          have k9 : kyk k t < 9 := by
            unfold kyk
            split
            · omega
            · split
              · omega
              · split <;> omega
          exact ⟨kyk k t, k9, by rw [va_up_self]; omega⟩
/-! the class's walk over the keys -/
def tka (E : Ed) (g : Nat → Nat) (k : Nat) (q : Int64 × Int64 × (Nat → Nat)) : Int64 × Int64 × (Nat → Nat) := if g k = 0 then q else (q.1 ||| bitN (g k), q.2.1 ||| (bitN (g k) ||| eC E (g k)), va_up q.2.2 k (g k))
def tkA (E : Ed) (g : Nat → Nat) (u k t : Nat) : Int64 × Int64 × (Nat → Nat) :=
  if k = 1 ∨ k = 2 then tka E g 2 (if 1 ≤ k ∧ k ≤ 4 then tka E g (3 + t) (tka E g (3 + u) (tka E g 1 (tka E g 0 (0, 0, fun _ => 0)))) else tka E g (3 + u) (tka E g 1 (tka E g 0 (0, 0, fun _ => 0)))) else (if 1 ≤ k ∧ k ≤ 4 then tka E g (3 + t) (tka E g (3 + u) (tka E g 1 (tka E g 0 (0, 0, fun _ => 0)))) else tka E g (3 + u) (tka E g 1 (tka E g 0 (0, 0, fun _ => 0))))
theorem Tk_0 : Tk E g (fun _ => false) (0, 0, fun _ => 0) := by
  refine ⟨fun i => ?_, fun i => ?_, fun j hj => ?_⟩
  · rw [hb_0]
    constructor
    · intro h; cases h
    · rintro ⟨j, -, h, -⟩; cases h
  · rw [hb_0]
    constructor
    · intro h; cases h
    · rintro ⟨j, -, h, -⟩; cases h
  · rfl
theorem Tk_s (hg : gle g N) (hN : N ≤ 40) {p : Nat → Bool} {q : Int64 × Int64 × (Nat → Nat)} (h : Tk E g p q) {k : Nat} (hk : k < 9) : Tk E g (fun j => p j || decide (j = k)) (tka E g k q) := by
  obtain ⟨t1, t2, t3⟩ := h
  have l := hg k hk
  unfold tka
  by_cases c : g k = 0
  · rw [if_pos c]
    refine ⟨fun i => ?_, fun i => ?_, fun j hj => ?_⟩
    · rw [t1]
      constructor
      · rintro ⟨j, a, b, d⟩
        exact ⟨j, a, by simp [b], d⟩
      · rintro ⟨j, a, b, d, e⟩
        refine ⟨j, a, ?_, d, e⟩
        by_cases jk : j = k
        · subst jk; exact absurd c d
        · simpa [jk] using b
    · rw [t2]
      constructor
      · rintro ⟨j, a, b, d⟩
        exact ⟨j, a, by simp [b], d⟩
      · rintro ⟨j, a, b, d, e⟩
        refine ⟨j, a, ?_, d, e⟩
        by_cases jk : j = k
        · subst jk; exact absurd c d
        · simpa [jk] using b
    · rw [t3 j hj]
      by_cases jk : j = k
      · subst jk
        rw [c]
        simp
      · simp [jk]
  · rw [if_neg c]
    refine ⟨fun i => ?_, fun i => ?_, fun j hj => ?_⟩
    · show hb (q.1 ||| bitN (g k)) i = true ↔ _
      rw [hb_or, Bool.or_eq_true, t1, hb_bit (by omega), decide_eq_true_eq]
      constructor
      · rintro (⟨j, a, b, d⟩ | e)
        · exact ⟨j, a, by simp [b], d⟩
        · exact ⟨k, hk, by simp, c, e.symm⟩
      · rintro ⟨j, a, b, d, e⟩
        by_cases jk : j = k
        · subst jk; exact Or.inr e.symm
        · exact Or.inl ⟨j, a, by simpa [jk] using b, d, e⟩
    · show hb (q.2.1 ||| (bitN (g k) ||| eC E (g k))) i = true ↔ _
      rw [hb_or, hb_or, Bool.or_eq_true, Bool.or_eq_true, t2, hb_bit (by omega), decide_eq_true_eq]
      constructor
      · rintro (⟨j, a, b, d⟩ | e | e)
        · exact ⟨j, a, by simp [b], d⟩
        · exact ⟨k, hk, by simp, c, Or.inl e.symm⟩
        · exact ⟨k, hk, by simp, c, Or.inr e⟩
      · rintro ⟨j, a, b, d, e⟩
        by_cases jk : j = k
        · subst jk
          rcases e with e | e
          · exact Or.inr (Or.inl e.symm)
          · exact Or.inr (Or.inr e)
        · exact Or.inl ⟨j, a, by simpa [jk] using b, d, e⟩
    · show va_up q.2.2 k (g k) j = _
      by_cases jk : j = k
      · subst jk
        rw [va_up_self]
        simp
      · rw [va_up_ne _ _ jk, t3 j hj]
        simp [jk]
theorem Tk_p {p p' : Nat → Bool} {q : Int64 × Int64 × (Nat → Nat)} (h : Tk E g p q) (hp : ∀ j, j < 9 → p j = p' j) : Tk E g p' q := by
  obtain ⟨t1, t2, t3⟩ := h
  refine ⟨fun i => ?_, fun i => ?_, fun j hj => ?_⟩
  · rw [t1]
    constructor
    · rintro ⟨j, a, b, d⟩
      exact ⟨j, a, by rw [← hp j a]; exact b, d⟩
    · rintro ⟨j, a, b, d⟩
      exact ⟨j, a, by rw [hp j a]; exact b, d⟩
  · rw [t2]
    constructor
    · rintro ⟨j, a, b, d⟩
      exact ⟨j, a, by rw [← hp j a]; exact b, d⟩
    · rintro ⟨j, a, b, d⟩
      exact ⟨j, a, by rw [hp j a]; exact b, d⟩
  · rw [t3 j hj, hp j hj]
theorem tkA_tk (hg : gle g N) (hN : N ≤ 40) {u k t : Nat} (hu : u < 6) (ht : t < 6) (k1 : 1 ≤ k) (k7 : k ≤ 7) : Tk E g (nmd u k t) (tkA E g u k t) := by
  have a3 := Tk_s hg hN (Tk_s hg hN (Tk_s hg hN (Tk_0 (E := E) (g := g)) (show 0 < 9 by decide)) (show 1 < 9 by decide)) (show 3 + u < 9 by omega)
  have a4 := Tk_s hg hN a3 (show 3 + t < 9 by omega)
  unfold tkA
  have hp : ∀ j, nmd u k t j = (decide (j < 2) || (decide (j = 3 + u) || ((decide (k ≤ 4) && decide (j = 3 + t)) || (decide (j = 2) && (decide (k = 1) || decide (k = 2)))))) := fun j => rfl
  by_cases c1 : k = 1 ∨ k = 2
  · have c2 : 1 ≤ k ∧ k ≤ 4 := by omega
    rw [if_pos c1, if_pos c2]
    refine Tk_p (Tk_s hg hN a4 (show 2 < 9 by decide)) (fun j hj => ?_)
    rw [hp]
    have c4 : k ≤ 4 := c2.2
    have c5 : (decide (k = 1) || decide (k = 2)) = true := by simpa using c1
    rw [c5, decide_eq_true c4]
    rw [Bool.eq_iff_iff]
    simp
    omega
  · rw [if_neg c1]
    have c5 : (decide (k = 1) || decide (k = 2)) = false := by simpa using c1
    by_cases c2 : 1 ≤ k ∧ k ≤ 4
    · rw [if_pos c2]
      refine Tk_p a4 (fun j hj => ?_)
      rw [hp, c5, decide_eq_true c2.2, Bool.eq_iff_iff]
      simp
      omega
    · rw [if_neg c2]
      refine Tk_p a3 (fun j hj => ?_)
      have c4 : ¬ k ≤ 4 := by omega
      rw [hp, c5, decide_eq_false c4, Bool.eq_iff_iff]
      simp
      omega
/-! the reference's walk -/
theorem aut_hb (hg : gle g N) (hN : N ≤ 40) {p : Nat → Bool} (i : Nat) : ∀ (d j : Nat) (m : Int64), j + d = 9 → (hb (aut g p j d m) i = true ↔ hb m i = true ∨ ∃ l, j ≤ l ∧ l < 9 ∧ p l = true ∧ g l ≠ 0 ∧ g l = i) := by
  intro d
  induction d with
  | zero =>
    intro j m hj
    refine ⟨fun h => Or.inl h, fun h => ?_⟩
    rcases h with h | ⟨l, a, b, -⟩
    · exact h
    · omega
  | succ d ih =>
    intro j m hj
    show hb (aut g p (j + 1) d (if p j = true then (if g j = 0 then m else m ||| bitN (g j)) else m)) i = true ↔ _
    rw [ih _ _ (by omega)]
    have key : ∀ m' : Int64, (hb m' i = true ↔ hb m i = true ∨ (p j = true ∧ g j ≠ 0 ∧ g j = i)) → ((hb m' i = true ∨ ∃ l, j + 1 ≤ l ∧ l < 9 ∧ p l = true ∧ g l ≠ 0 ∧ g l = i) ↔ (hb m i = true ∨ ∃ l, j ≤ l ∧ l < 9 ∧ p l = true ∧ g l ≠ 0 ∧ g l = i)) := by
      intro m' hm
      rw [hm]
      constructor
      · rintro ((h | h) | ⟨l, a, b⟩)
        · exact Or.inl h
        · exact Or.inr ⟨j, by omega, by omega, h⟩
        · exact Or.inr ⟨l, by omega, b⟩
      · rintro (h | ⟨l, a, b⟩)
        · exact Or.inl (Or.inl h)
        · by_cases e : l = j
          · subst e
            exact Or.inl (Or.inr b.2)
          · exact Or.inr ⟨l, by omega, b⟩
    apply key
    by_cases c1 : p j = true
    · rw [if_pos c1]
      by_cases c2 : g j = 0
      · rw [if_pos c2]
        simp [c2]
      · rw [if_neg c2, hb_or, Bool.or_eq_true, hb_bit (by have := hg j (by omega); omega), decide_eq_true_eq]
        constructor
        · rintro (h | h)
          · exact Or.inl h
          · exact Or.inr ⟨c1, c2, h.symm⟩
        · rintro (h | h)
          · exact Or.inl h
          · exact Or.inr h.2.2.symm
    · rw [if_neg c1]
      simp [c1]
theorem chn_hb {A : Int64} (i : Nat) : ∀ (d n : Nat) (m : Int64), hb (chn E A n d m) i = true ↔ hb m i = true ∨ ∃ a, n ≤ a ∧ a < n + d ∧ hb A a = true ∧ hb (eC E a) i = true := by
  intro d
  induction d with
  | zero =>
    intro n m
    refine ⟨fun h => Or.inl h, fun h => ?_⟩
    rcases h with h | ⟨l, a, b, -⟩
    · exact h
    · omega
  | succ d ih =>
    intro n m
    show hb (chn E A (n + 1) d (if hb A n = true then m ||| eC E n else m)) i = true ↔ _
    rw [ih]
    by_cases c : hb A n = true
    · rw [if_pos c, hb_or, Bool.or_eq_true]
      constructor
      · rintro ((h | h) | ⟨l, a, b, r⟩)
        · exact Or.inl h
        · exact Or.inr ⟨n, by omega, by omega, c, h⟩
        · exact Or.inr ⟨l, by omega, by omega, r⟩
      · rintro (h | ⟨l, a, b, r1, r2⟩)
        · exact Or.inl (Or.inl h)
        · by_cases e : l = n
          · subst e
            exact Or.inl (Or.inr r2)
          · exact Or.inr ⟨l, by omega, by omega, r1, r2⟩
    · rw [if_neg c]
      constructor
      · rintro (h | ⟨l, a, b, r⟩)
        · exact Or.inl h
        · exact Or.inr ⟨l, by omega, by omega, r⟩
      · rintro (h | ⟨l, a, b, r1, r2⟩)
        · exact Or.inl h
        · by_cases e : l = n
          · subst e
            exact absurd r1 c
          · exact Or.inr ⟨l, by omega, by omega, r1, r2⟩
/-- the two walks gather the same -/
theorem aut_eq (hg : gle g N) (hN : N ≤ 40) {p : Nat → Bool} {q : Int64 × Int64 × (Nat → Nat)} (h : Tk E g p q) : aut g p 0 9 0 = q.1 := by
  refine hb_ext (fun i _ => ?_)
  rw [Bool.eq_iff_iff, aut_hb hg hN i 9 0 0 (by decide), h.1, hb_0]
  constructor
  · rintro (h | ⟨l, -, r⟩)
    · cases h
    · exact ⟨l, r⟩
  · rintro ⟨l, r⟩
    exact Or.inr ⟨l, by omega, r⟩
theorem chn_eq (hg : gle g N) (hN : N ≤ 40) {p : Nat → Bool} {q : Int64 × Int64 × (Nat → Nat)} (h : Tk E g p q) : chn E (aut g p 0 9 0) 1 N (aut g p 0 9 0) = q.2.1 := by
  rw [aut_eq hg hN h]
  refine hb_ext (fun i _ => ?_)
  rw [Bool.eq_iff_iff, chn_hb, h.2.1, h.1]
  constructor
  · rintro (⟨j, a, b, d, e⟩ | ⟨a, a1, a2, a3, a4⟩)
    · exact ⟨j, a, b, d, Or.inl e⟩
    · obtain ⟨j, b1, b2, b3, b4⟩ := (h.1 a).mp a3
      refine ⟨j, b1, b2, b3, Or.inr ?_⟩
      rw [b4]
      exact a4
  · rintro ⟨j, a, b, d, e | e⟩
    · exact Or.inl ⟨j, a, b, d, e⟩
    · have l := hg j a
      exact Or.inr ⟨g j, by omega, by omega, (h.1 _).mpr ⟨j, a, b, d, rfl⟩, e⟩
/-! servers -/
theorem SvOk.ext {q : Sv} (h : SvOk E N q) (hs : Sam E E' N) : SvOk E' (N + 1) q := by
  obtain ⟨a, b, c⟩ := h
  refine ⟨fun n hn => ?_, fun n hn => ?_, fun n hn => ?_⟩
  · obtain ⟨⟨x, y⟩, z⟩ := a n hn
    exact ⟨⟨x, by omega⟩, z⟩
  · obtain ⟨⟨x, y⟩, z⟩ := b n hn
    rw [(hs n y).2.1.1]
    exact ⟨⟨x, by omega⟩, z⟩
  · obtain ⟨⟨x, y⟩, z⟩ := c n hn
    rw [(hs n y).2.1.1]
    exact ⟨⟨x, by omega⟩, z⟩
theorem flw_hb {m : Int64} (i : Nat) : ∀ (d n : Nat) (x : Int64), hb (flw E m n d x) i = true ↔ hb x i = true ∨ ∃ a, n ≤ a ∧ a < n + d ∧ hb m a = true ∧ hb (eP E a) i = true := by
  intro d
  induction d with
  | zero =>
    intro n m
    refine ⟨fun h => Or.inl h, fun h => ?_⟩
    rcases h with h | ⟨l, a, b, -⟩
    · exact h
    · omega
  | succ d ih =>
    intro n x
    show hb (flw E m (n + 1) d (if hb m n = true then x ||| eP E n else x)) i = true ↔ _
    rw [ih]
    by_cases c : hb m n = true
    · rw [if_pos c, hb_or, Bool.or_eq_true]
      constructor
      · rintro ((h | h) | ⟨l, a, b, r⟩)
        · exact Or.inl h
        · exact Or.inr ⟨n, by omega, by omega, c, h⟩
        · exact Or.inr ⟨l, by omega, by omega, r⟩
      · rintro (h | ⟨l, a, b, r1, r2⟩)
        · exact Or.inl (Or.inl h)
        · by_cases e : l = n
          · subst e
            exact Or.inl (Or.inr r2)
          · exact Or.inr ⟨l, by omega, by omega, r1, r2⟩
    · rw [if_neg c]
      constructor
      · rintro (h | ⟨l, a, b, r⟩)
        · exact Or.inl h
        · exact Or.inr ⟨l, by omega, by omega, r⟩
      · rintro (h | ⟨l, a, b, r1, r2⟩)
        · exact Or.inl h
        · by_cases e : l = n
          · subst e
            exact absurd r1 c
          · exact Or.inr ⟨l, by omega, by omega, r1, r2⟩
def SvI (E : Ed) (N : Nat) (q : Sv) : Prop := SvOk E N q ∧ hb q.2.1 1 = true ∧ hb q.2.1 2 = true
def edq (E : Ed) (N : Nat) (q : Sv) : Int64 := q.2.1 &&& (flw E q.2.1 1 N 0 ^^^ (-1))
theorem bigN (p : Nat → Bool) : ∀ N, (∀ n, p n = true → n ≤ N) → (∃ n, p n = true) → ∃ m, p m = true ∧ ∀ i, p i = true → i ≤ m := by
  intro N
  induction N with
  | zero =>
    rintro ho ⟨n, hn⟩
    exact ⟨n, hn, fun i hi => by have := ho i hi; omega⟩
  | succ N ih =>
    intro ho hx
    by_cases c : p (N + 1) = true
    · exact ⟨N + 1, c, ho⟩
    · refine ih (fun n hn => ?_) hx
      have := ho n hn
      by_cases e : n = N + 1
      · subst e
        exact absurd hn c
      · omega
theorem ends_src (h : InV E N) {q : Sv} (hq : SvI E N q) : SrcOk E N (edq E N q) := by
  obtain ⟨⟨s1, s2, s3⟩, q1, q2⟩ := hq
  have hN := h.1.2
  have hbq : ∀ n, hb (edq E N q) n = true → hb q.2.1 n = true := fun n hn => by
    unfold edq at hn
    rw [hb_and, Bool.and_eq_true] at hn
    exact hn.1
  refine ⟨?_, fun n hn => s2 n (hbq n hn), Or.inl (fun n hn => ?_)⟩
  · obtain ⟨m, m1, m2⟩ := bigN (fun n => hb q.2.1 n) N (fun n hn => (s2 n hn).1.2) ⟨1, q1⟩
    refine ⟨m, ?_⟩
    have hm := s2 m m1
    unfold edq
    rw [hb_and, Bool.and_eq_true]
    refine ⟨m1, ?_⟩
    rw [hb_not (by omega)]
    cases c : hb (flw E q.2.1 1 N 0) m
    · rfl
    · exfalso
      rcases (flw_hb m N 1 0).mp c with z | ⟨a, a1, a2, a3, a4⟩
      · rw [hb_0] at z
        cases z
      · have l := (h.pok a a1 (by omega) m a4).2
        have := m2 a a3
        omega
  · by_cases c : n = 1
    · exfalso
      subst c
      unfold edq at hn
      rw [hb_and, Bool.and_eq_true] at hn
      have f1 : hb (flw E q.2.1 1 N 0) 1 = true := (flw_hb 1 N 1 0).mpr (Or.inr ⟨2, by omega, by have := h.1.1; omega, q2, h.2.2.1.2.2.2⟩)
      have h2 := hn.2
      rw [hb_not (by decide), f1] at h2
      cases h2
    · have := (s2 n (hbq n hn)).1
      omega
theorem one_src {q : Sv} (hN : N ≤ 40) (hq : SvI E N q) {s : Nat} (hs : hb q.2.1 s = true) : SrcOk E N (bitN s) := by
  obtain ⟨⟨s1, s2, s3⟩, q1, q2⟩ := hq
  have h := s2 s hs
  have e : ∀ n, hb (bitN s) n = true → n = s := fun n hn => by
    rw [hb_bit (by omega)] at hn
    exact of_decide_eq_true hn
  refine ⟨⟨s, by rw [hb_bit (by omega)]; simp⟩, fun n hn => ?_, Or.inr ⟨s, e⟩⟩
  rw [e n hn]
  exact h
end EXT
