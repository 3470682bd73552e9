/-! The resolver's cells. ad: 0 history, 1 its events, 2 resolver, 3 agreed, 4 agreedState, 5 its array, 6 trial, 7 its array, 8 mainline, 9 places, 10 the result's State, 11 its array. ea: an event's address; sa, saA: its auths' State and array; sf, sfA: the state behind it. -/
abbrev Pa : Type := (Nat → Nat) × (Nat → Nat) × (Nat → Nat) × (Nat → Nat) × (Nat → Nat) × (Nat → Nat)
def pd (P : Pa) : Nat → Nat := P.1
def pe (P : Pa) : Nat → Nat := P.2.1
def psa (P : Pa) : Nat → Nat := P.2.2.1
def psA (P : Pa) : Nat → Nat := P.2.2.2.1
def psf (P : Pa) : Nat → Nat := P.2.2.2.2.1
def psF (P : Pa) : Nat → Nat := P.2.2.2.2.2
def ArE (σ : Hp) (ea : Nat → Nat) (a : Nat) (g : Nat → Nat) : Prop := ∃ f, σ.2.2 a = some (.inl (3, 9, .inr (.inr f))) ∧ ∀ j, j < 9 → f j = er ea (g j)
/-- what does not change: the places are apart, the events' data are sound -/
def RS (P : Pa) (E : Ed) (N : Nat) : Prop := N ≤ 40 ∧ (pd P 5 ≠ pd P 7 ∧ pd P 5 ≠ pd P 11 ∧ pd P 7 ≠ pd P 11) ∧ pd P 8 ≠ pd P 9 ∧ (∀ n, 1 ≤ n → n ≤ N → (psA P n ≠ pd P 5 ∧ psA P n ≠ pd P 7 ∧ psA P n ≠ pd P 11) ∧ (psF P n ≠ pd P 5 ∧ psF P n ≠ pd P 7 ∧ psF P n ≠ pd P 11) ∧ gle (eA E n) N ∧ gle (eF E n) N ∧ eK E n ≤ 7 ∧ eS E n < 6 ∧ eT E n < 6) ∧ ∀ a b, 1 ≤ a → a ≤ N → 1 ≤ b → b ≤ N → pe P a = pe P b → a = b
def RV (σ : Hp) (P : Pa) (E : Ed) (N : Nat) (ag : Nat → Int32) (gA gT gR : Nat → Nat) (ml pl : Nat → Int32) : Prop :=
  HiR σ (pd P 0) (pd P 1) (pe P) N ∧ σ.2.2 (pd P 2) = some (.inr (4, [sA (some (pd P 0)), sA (some (pd P 3)), sA (some (pd P 4)), sA (some (pd P 6)), sA (some (pd P 8)), sA (some (pd P 9))])) ∧
  σ.2.2 (pd P 3) = some (.inl (2, 9, .inl ag)) ∧ σ.2.2 (pd P 4) = some (.inr (6, [sA (some (pd P 5))])) ∧ ArE σ (pe P) (pd P 5) gA ∧ σ.2.2 (pd P 6) = some (.inr (6, [sA (some (pd P 7))])) ∧ ArE σ (pe P) (pd P 7) gT ∧
  σ.2.2 (pd P 8) = some (.inl (0, 41, .inl ml)) ∧ σ.2.2 (pd P 9) = some (.inl (0, 41, .inl pl)) ∧ σ.2.2 (pd P 10) = some (.inr (6, [sA (some (pd P 11))])) ∧ ArE σ (pe P) (pd P 11) gR ∧
  ∀ n, 1 ≤ n → n ≤ N → (∃ sb, σ.2.2 (pe P n) = some (evc E n sb (psa P n) (psf P n))) ∧ (σ.2.2 (psa P n) = some (.inr (6, [sA (some (psA P n))])) ∧ ArE σ (pe P) (psA P n) (eA E n)) ∧ (σ.2.2 (psf P n) = some (.inr (6, [sA (some (psF P n))])) ∧ ArE σ (pe P) (psF P n) (eF E n))
theorem kp {σ : Hp} {a b : Nat} {c d x : Cl} (ha : σ.2.2 a = some d) (hb : σ.2.2 b = some c) (hne : c ≠ d) : (hput σ a x).2.2 b = some c := by
  rw [hput_ne]
  · exact hb
  · intro e
    rw [e, ha] at hb
    exact hne (Option.some.inj hb).symm
theorem ArE.keep {σ : Hp} {ea : Nat → Nat} {a b : Nat} {g : Nat → Nat} {x : Cl} (h : ArE σ ea b g) (hne : b ≠ a) : ArE (hput σ a x) ea b g := by
  obtain ⟨f, h1, h2⟩ := h
  exact ⟨f, by rw [hput_ne hne]; exact h1, h2⟩
theorem ArE.off {σ : Hp} {ea : Nat → Nat} {a b k n : Nat} {c : Ac} {g : Nat → Nat} {x : Cl} (ha : σ.2.2 a = some (.inl (k, n, c))) (h : ArE σ ea b g) (hne : ¬ (3 = k ∧ 9 = n)) : ArE (hput σ a x) ea b g := by
  obtain ⟨f, h1, h2⟩ := h
  refine ⟨f, kp ha h1 (fun e => ?_), h2⟩
  injection e with e
  injection e with e1 e2
  injection e2 with e2 e3
  exact hne ⟨e1, e2⟩
theorem ArE.put {σ : Hp} {ea : Nat → Nat} {a k : Nat} {g : Nat → Nat} (h : ArE σ ea a g) (hk : k < 9) {x : Option Nat} {n : Nat} (hx : x = er ea n) (ho : rok σ x 1 = true) : ∃ c, asA σ (some a) (nI k) x = some (hput σ a (.inl c)) ∧ ArE (hput σ a (.inl c)) ea a (va_up g k n) := by
  obtain ⟨f, h1, h2⟩ := h
  refine ⟨_, asA_o h1 rfl hk (by decide) ho, _, hput_same _ _ _, fun j hj => ?_⟩
  by_cases e : j = k
  · subst e
    rw [va_up_self, va_up_self]
    exact hx
  · rw [va_up_ne _ _ e, va_up_ne _ _ e]
    exact h2 j hj
theorem ArE.at {σ : Hp} {ea : Nat → Nat} {a k : Nat} {g : Nat → Nat} (h : ArE σ ea a g) (hk : k < 9) : alA σ (some a) (nI k) = some (er ea (g k)) := by
  obtain ⟨f, h1, h2⟩ := h
  rw [alA_o h1 rfl hk (by decide), h2 k hk]
section RV
variable {σ : Hp} {P : Pa} {E : Ed} {N k : Nat} {ag ml pl : Nat → Int32} {gA gT gR : Nat → Nat}
theorem RV.wG (h : RV σ P E N ag gA gT gR ml pl) (hS : RS P E N) (hk : k < 9) {x : Int32} (hx : x = 0 ∨ x = 1) : ∃ σ1, asZ σ (some (pd P 3)) (nI k) x = some σ1 ∧ RV σ1 P E N (va_up ag k x) gA gT gR ml pl ∧ (∃ c, σ1 = hput σ (pd P 3) c) := by
  obtain ⟨r0, r2, r3, r4, r5, r6, r7, r8, r9, r10, r11, rn⟩ := h
  have hc := r3
  exact ⟨_, asZ_o r3 hk (by decide) hx, ⟨⟨kp hc r0.1 (by intro q; cases q), r0.2.choose, kp hc r0.2.choose_spec.1 (by intro q; injection q with q; injection q with q1 q2; exact absurd q1 (by decide)), r0.2.choose_spec.2⟩, kp hc r2 (by intro q; cases q), hput_same _ _ _, kp hc r4 (by intro q; cases q), ArE.off hc r5 (by decide), kp hc r6 (by intro q; cases q), ArE.off hc r7 (by decide), kp hc r8 (by intro q; injection q with q; injection q with q1 q2; exact absurd q1 (by decide)), kp hc r9 (by intro q; injection q with q; injection q with q1 q2; exact absurd q1 (by decide)), kp hc r10 (by intro q; cases q), ArE.off hc r11 (by decide), fun n h1 h2 => ⟨⟨(rn n h1 h2).1.choose, kp hc (rn n h1 h2).1.choose_spec (by intro q; cases q)⟩, ⟨kp hc (rn n h1 h2).2.1.1 (by intro q; cases q), ArE.off hc (rn n h1 h2).2.1.2 (by decide)⟩, ⟨kp hc (rn n h1 h2).2.2.1 (by intro q; cases q), ArE.off hc (rn n h1 h2).2.2.2 (by decide)⟩⟩⟩, _, rfl⟩
theorem RV.wA (h : RV σ P E N ag gA gT gR ml pl) (hS : RS P E N) (hk : k < 9) {x : Option Nat} {n : Nat} (hx : x = er (pe P) n) (ho : rok σ x 1 = true) : ∃ σ1, asA σ (some (pd P 5)) (nI k) x = some σ1 ∧ RV σ1 P E N ag (va_up gA k n) gT gR ml pl ∧ (∃ c, σ1 = hput σ (pd P 5) c) := by
  obtain ⟨r0, r2, r3, r4, r5, r6, r7, r8, r9, r10, r11, rn⟩ := h
  have hc := r5.choose_spec.1
  obtain ⟨c, e1, e2⟩ := r5.put hk hx ho
  exact ⟨_, e1, ⟨⟨kp hc r0.1 (by intro q; cases q), r0.2.choose, kp hc r0.2.choose_spec.1 (by intro q; injection q with q; injection q with q1 q2; injection q2 with q2 q3; exact absurd q2 (by decide)), r0.2.choose_spec.2⟩, kp hc r2 (by intro q; cases q), kp hc r3 (by intro q; injection q with q; injection q with q1 q2; exact absurd q1 (by decide)), kp hc r4 (by intro q; cases q), e2, kp hc r6 (by intro q; cases q), r7.keep hS.2.1.1.symm, kp hc r8 (by intro q; injection q with q; injection q with q1 q2; exact absurd q1 (by decide)), kp hc r9 (by intro q; injection q with q; injection q with q1 q2; exact absurd q1 (by decide)), kp hc r10 (by intro q; cases q), r11.keep hS.2.1.2.1.symm, fun n h1 h2 => ⟨⟨(rn n h1 h2).1.choose, kp hc (rn n h1 h2).1.choose_spec (by intro q; cases q)⟩, ⟨kp hc (rn n h1 h2).2.1.1 (by intro q; cases q), (rn n h1 h2).2.1.2.keep (hS.2.2.2.1 n h1 h2).1.1⟩, ⟨kp hc (rn n h1 h2).2.2.1 (by intro q; cases q), (rn n h1 h2).2.2.2.keep (hS.2.2.2.1 n h1 h2).2.1.1⟩⟩⟩, _, rfl⟩
theorem RV.wT (h : RV σ P E N ag gA gT gR ml pl) (hS : RS P E N) (hk : k < 9) {x : Option Nat} {n : Nat} (hx : x = er (pe P) n) (ho : rok σ x 1 = true) : ∃ σ1, asA σ (some (pd P 7)) (nI k) x = some σ1 ∧ RV σ1 P E N ag gA (va_up gT k n) gR ml pl ∧ (∃ c, σ1 = hput σ (pd P 7) c) := by
  obtain ⟨r0, r2, r3, r4, r5, r6, r7, r8, r9, r10, r11, rn⟩ := h
  have hc := r7.choose_spec.1
  obtain ⟨c, e1, e2⟩ := r7.put hk hx ho
  exact ⟨_, e1, ⟨⟨kp hc r0.1 (by intro q; cases q), r0.2.choose, kp hc r0.2.choose_spec.1 (by intro q; injection q with q; injection q with q1 q2; injection q2 with q2 q3; exact absurd q2 (by decide)), r0.2.choose_spec.2⟩, kp hc r2 (by intro q; cases q), kp hc r3 (by intro q; injection q with q; injection q with q1 q2; exact absurd q1 (by decide)), kp hc r4 (by intro q; cases q), r5.keep hS.2.1.1, kp hc r6 (by intro q; cases q), e2, kp hc r8 (by intro q; injection q with q; injection q with q1 q2; exact absurd q1 (by decide)), kp hc r9 (by intro q; injection q with q; injection q with q1 q2; exact absurd q1 (by decide)), kp hc r10 (by intro q; cases q), r11.keep hS.2.1.2.2.symm, fun n h1 h2 => ⟨⟨(rn n h1 h2).1.choose, kp hc (rn n h1 h2).1.choose_spec (by intro q; cases q)⟩, ⟨kp hc (rn n h1 h2).2.1.1 (by intro q; cases q), (rn n h1 h2).2.1.2.keep (hS.2.2.2.1 n h1 h2).1.2.1⟩, ⟨kp hc (rn n h1 h2).2.2.1 (by intro q; cases q), (rn n h1 h2).2.2.2.keep (hS.2.2.2.1 n h1 h2).2.1.2.1⟩⟩⟩, _, rfl⟩
theorem RV.wR (h : RV σ P E N ag gA gT gR ml pl) (hS : RS P E N) (hk : k < 9) {x : Option Nat} {n : Nat} (hx : x = er (pe P) n) (ho : rok σ x 1 = true) : ∃ σ1, asA σ (some (pd P 11)) (nI k) x = some σ1 ∧ RV σ1 P E N ag gA gT (va_up gR k n) ml pl ∧ (∃ c, σ1 = hput σ (pd P 11) c) := by
  obtain ⟨r0, r2, r3, r4, r5, r6, r7, r8, r9, r10, r11, rn⟩ := h
  have hc := r11.choose_spec.1
  obtain ⟨c, e1, e2⟩ := r11.put hk hx ho
  exact ⟨_, e1, ⟨⟨kp hc r0.1 (by intro q; cases q), r0.2.choose, kp hc r0.2.choose_spec.1 (by intro q; injection q with q; injection q with q1 q2; injection q2 with q2 q3; exact absurd q2 (by decide)), r0.2.choose_spec.2⟩, kp hc r2 (by intro q; cases q), kp hc r3 (by intro q; injection q with q; injection q with q1 q2; exact absurd q1 (by decide)), kp hc r4 (by intro q; cases q), r5.keep hS.2.1.2.1, kp hc r6 (by intro q; cases q), r7.keep hS.2.1.2.2, kp hc r8 (by intro q; injection q with q; injection q with q1 q2; exact absurd q1 (by decide)), kp hc r9 (by intro q; injection q with q; injection q with q1 q2; exact absurd q1 (by decide)), kp hc r10 (by intro q; cases q), e2, fun n h1 h2 => ⟨⟨(rn n h1 h2).1.choose, kp hc (rn n h1 h2).1.choose_spec (by intro q; cases q)⟩, ⟨kp hc (rn n h1 h2).2.1.1 (by intro q; cases q), (rn n h1 h2).2.1.2.keep (hS.2.2.2.1 n h1 h2).1.2.2⟩, ⟨kp hc (rn n h1 h2).2.2.1 (by intro q; cases q), (rn n h1 h2).2.2.2.keep (hS.2.2.2.1 n h1 h2).2.1.2.2⟩⟩⟩, _, rfl⟩
theorem RV.wM (h : RV σ P E N ag gA gT gR ml pl) (hS : RS P E N) (hk : k < 41) (x : Int32) : ∃ σ1, asI σ (some (pd P 8)) (nI k) x = some σ1 ∧ RV σ1 P E N ag gA gT gR (va_up ml k x) pl ∧ (∃ c, σ1 = hput σ (pd P 8) c) := by
  obtain ⟨r0, r2, r3, r4, r5, r6, r7, r8, r9, r10, r11, rn⟩ := h
  have hc := r8
  exact ⟨_, asI_o r8 hk (by decide), ⟨⟨kp hc r0.1 (by intro q; cases q), r0.2.choose, kp hc r0.2.choose_spec.1 (by intro q; injection q with q; injection q with q1 q2; exact absurd q1 (by decide)), r0.2.choose_spec.2⟩, kp hc r2 (by intro q; cases q), kp hc r3 (by intro q; injection q with q; injection q with q1 q2; exact absurd q1 (by decide)), kp hc r4 (by intro q; cases q), ArE.off hc r5 (by decide), kp hc r6 (by intro q; cases q), ArE.off hc r7 (by decide), hput_same _ _ _, (by rw [hput_ne hS.2.2.1.symm]; exact r9), kp hc r10 (by intro q; cases q), ArE.off hc r11 (by decide), fun n h1 h2 => ⟨⟨(rn n h1 h2).1.choose, kp hc (rn n h1 h2).1.choose_spec (by intro q; cases q)⟩, ⟨kp hc (rn n h1 h2).2.1.1 (by intro q; cases q), ArE.off hc (rn n h1 h2).2.1.2 (by decide)⟩, ⟨kp hc (rn n h1 h2).2.2.1 (by intro q; cases q), ArE.off hc (rn n h1 h2).2.2.2 (by decide)⟩⟩⟩, _, rfl⟩
theorem RV.wP (h : RV σ P E N ag gA gT gR ml pl) (hS : RS P E N) (hk : k < 41) (x : Int32) : ∃ σ1, asI σ (some (pd P 9)) (nI k) x = some σ1 ∧ RV σ1 P E N ag gA gT gR ml (va_up pl k x) ∧ (∃ c, σ1 = hput σ (pd P 9) c) := by
  obtain ⟨r0, r2, r3, r4, r5, r6, r7, r8, r9, r10, r11, rn⟩ := h
  have hc := r9
  exact ⟨_, asI_o r9 hk (by decide), ⟨⟨kp hc r0.1 (by intro q; cases q), r0.2.choose, kp hc r0.2.choose_spec.1 (by intro q; injection q with q; injection q with q1 q2; exact absurd q1 (by decide)), r0.2.choose_spec.2⟩, kp hc r2 (by intro q; cases q), kp hc r3 (by intro q; injection q with q; injection q with q1 q2; exact absurd q1 (by decide)), kp hc r4 (by intro q; cases q), ArE.off hc r5 (by decide), kp hc r6 (by intro q; cases q), ArE.off hc r7 (by decide), (by rw [hput_ne hS.2.2.1]; exact r8), hput_same _ _ _, kp hc r10 (by intro q; cases q), ArE.off hc r11 (by decide), fun n h1 h2 => ⟨⟨(rn n h1 h2).1.choose, kp hc (rn n h1 h2).1.choose_spec (by intro q; cases q)⟩, ⟨kp hc (rn n h1 h2).2.1.1 (by intro q; cases q), ArE.off hc (rn n h1 h2).2.1.2 (by decide)⟩, ⟨kp hc (rn n h1 h2).2.2.1 (by intro q; cases q), ArE.off hc (rn n h1 h2).2.2.2 (by decide)⟩⟩⟩, _, rfl⟩
theorem RV.pA (h : RV σ P E N ag gA gT gR ml pl) (hS : RS P E N) {g : Nat → Nat} {f : Nat → Option Nat} (hf : ∀ j, j < 9 → f j = er (pe P) (g j)) : RV (hput σ (pd P 5) (.inl (3, 9, .inr (.inr f)))) P E N ag g gT gR ml pl := by
  obtain ⟨r0, r2, r3, r4, r5, r6, r7, r8, r9, r10, r11, rn⟩ := h
  have hc := r5.choose_spec.1
  exact ⟨⟨kp hc r0.1 (by intro q; cases q), r0.2.choose, kp hc r0.2.choose_spec.1 (by intro q; injection q with q; injection q with q1 q2; injection q2 with q2 q3; exact absurd q2 (by decide)), r0.2.choose_spec.2⟩, kp hc r2 (by intro q; cases q), kp hc r3 (by intro q; injection q with q; injection q with q1 q2; exact absurd q1 (by decide)), kp hc r4 (by intro q; cases q), ⟨f, hput_same _ _ _, hf⟩, kp hc r6 (by intro q; cases q), r7.keep hS.2.1.1.symm, kp hc r8 (by intro q; injection q with q; injection q with q1 q2; exact absurd q1 (by decide)), kp hc r9 (by intro q; injection q with q; injection q with q1 q2; exact absurd q1 (by decide)), kp hc r10 (by intro q; cases q), r11.keep hS.2.1.2.1.symm, fun n h1 h2 => ⟨⟨(rn n h1 h2).1.choose, kp hc (rn n h1 h2).1.choose_spec (by intro q; cases q)⟩, ⟨kp hc (rn n h1 h2).2.1.1 (by intro q; cases q), (rn n h1 h2).2.1.2.keep (hS.2.2.2.1 n h1 h2).1.1⟩, ⟨kp hc (rn n h1 h2).2.2.1 (by intro q; cases q), (rn n h1 h2).2.2.2.keep (hS.2.2.2.1 n h1 h2).2.1.1⟩⟩⟩
theorem RV.pT (h : RV σ P E N ag gA gT gR ml pl) (hS : RS P E N) {g : Nat → Nat} {f : Nat → Option Nat} (hf : ∀ j, j < 9 → f j = er (pe P) (g j)) : RV (hput σ (pd P 7) (.inl (3, 9, .inr (.inr f)))) P E N ag gA g gR ml pl := by
  obtain ⟨r0, r2, r3, r4, r5, r6, r7, r8, r9, r10, r11, rn⟩ := h
  have hc := r7.choose_spec.1
  exact ⟨⟨kp hc r0.1 (by intro q; cases q), r0.2.choose, kp hc r0.2.choose_spec.1 (by intro q; injection q with q; injection q with q1 q2; injection q2 with q2 q3; exact absurd q2 (by decide)), r0.2.choose_spec.2⟩, kp hc r2 (by intro q; cases q), kp hc r3 (by intro q; injection q with q; injection q with q1 q2; exact absurd q1 (by decide)), kp hc r4 (by intro q; cases q), r5.keep hS.2.1.1, kp hc r6 (by intro q; cases q), ⟨f, hput_same _ _ _, hf⟩, kp hc r8 (by intro q; injection q with q; injection q with q1 q2; exact absurd q1 (by decide)), kp hc r9 (by intro q; injection q with q; injection q with q1 q2; exact absurd q1 (by decide)), kp hc r10 (by intro q; cases q), r11.keep hS.2.1.2.2.symm, fun n h1 h2 => ⟨⟨(rn n h1 h2).1.choose, kp hc (rn n h1 h2).1.choose_spec (by intro q; cases q)⟩, ⟨kp hc (rn n h1 h2).2.1.1 (by intro q; cases q), (rn n h1 h2).2.1.2.keep (hS.2.2.2.1 n h1 h2).1.2.1⟩, ⟨kp hc (rn n h1 h2).2.2.1 (by intro q; cases q), (rn n h1 h2).2.2.2.keep (hS.2.2.2.1 n h1 h2).2.1.2.1⟩⟩⟩
theorem RV.pR (h : RV σ P E N ag gA gT gR ml pl) (hS : RS P E N) {g : Nat → Nat} {f : Nat → Option Nat} (hf : ∀ j, j < 9 → f j = er (pe P) (g j)) : RV (hput σ (pd P 11) (.inl (3, 9, .inr (.inr f)))) P E N ag gA gT g ml pl := by
  obtain ⟨r0, r2, r3, r4, r5, r6, r7, r8, r9, r10, r11, rn⟩ := h
  have hc := r11.choose_spec.1
  exact ⟨⟨kp hc r0.1 (by intro q; cases q), r0.2.choose, kp hc r0.2.choose_spec.1 (by intro q; injection q with q; injection q with q1 q2; injection q2 with q2 q3; exact absurd q2 (by decide)), r0.2.choose_spec.2⟩, kp hc r2 (by intro q; cases q), kp hc r3 (by intro q; injection q with q; injection q with q1 q2; exact absurd q1 (by decide)), kp hc r4 (by intro q; cases q), r5.keep hS.2.1.2.1, kp hc r6 (by intro q; cases q), r7.keep hS.2.1.2.2, kp hc r8 (by intro q; injection q with q; injection q with q1 q2; exact absurd q1 (by decide)), kp hc r9 (by intro q; injection q with q; injection q with q1 q2; exact absurd q1 (by decide)), kp hc r10 (by intro q; cases q), ⟨f, hput_same _ _ _, hf⟩, fun n h1 h2 => ⟨⟨(rn n h1 h2).1.choose, kp hc (rn n h1 h2).1.choose_spec (by intro q; cases q)⟩, ⟨kp hc (rn n h1 h2).2.1.1 (by intro q; cases q), (rn n h1 h2).2.1.2.keep (hS.2.2.2.1 n h1 h2).1.2.2⟩, ⟨kp hc (rn n h1 h2).2.2.1 (by intro q; cases q), (rn n h1 h2).2.2.2.keep (hS.2.2.2.1 n h1 h2).2.1.2.2⟩⟩⟩
theorem RV.pM (h : RV σ P E N ag gA gT gR ml pl) (hS : RS P E N) (m2 : Nat → Int32) : RV (hput σ (pd P 8) (.inl (0, 41, .inl m2))) P E N ag gA gT gR m2 pl := by
  obtain ⟨r0, r2, r3, r4, r5, r6, r7, r8, r9, r10, r11, rn⟩ := h
  have hc := r8
  exact ⟨⟨kp hc r0.1 (by intro q; cases q), r0.2.choose, kp hc r0.2.choose_spec.1 (by intro q; injection q with q; injection q with q1 q2; exact absurd q1 (by decide)), r0.2.choose_spec.2⟩, kp hc r2 (by intro q; cases q), kp hc r3 (by intro q; injection q with q; injection q with q1 q2; exact absurd q1 (by decide)), kp hc r4 (by intro q; cases q), ArE.off hc r5 (by decide), kp hc r6 (by intro q; cases q), ArE.off hc r7 (by decide), hput_same _ _ _, (by rw [hput_ne hS.2.2.1.symm]; exact r9), kp hc r10 (by intro q; cases q), ArE.off hc r11 (by decide), fun n h1 h2 => ⟨⟨(rn n h1 h2).1.choose, kp hc (rn n h1 h2).1.choose_spec (by intro q; cases q)⟩, ⟨kp hc (rn n h1 h2).2.1.1 (by intro q; cases q), ArE.off hc (rn n h1 h2).2.1.2 (by decide)⟩, ⟨kp hc (rn n h1 h2).2.2.1 (by intro q; cases q), ArE.off hc (rn n h1 h2).2.2.2 (by decide)⟩⟩⟩
theorem RV.hi (h : RV σ P E N ag gA gT gR ml pl) : HiR σ (pd P 0) (pd P 1) (pe P) N := h.1
theorem RV.f0 (h : RV σ P E N ag gA gT gR ml pl) : gfA σ (some (pd P 2)) 4 0 = some (some (pd P 0)) := gfA_o h.2.1 rfl
theorem RV.f1 (h : RV σ P E N ag gA gT gR ml pl) : gfA σ (some (pd P 2)) 4 1 = some (some (pd P 3)) := gfA_o h.2.1 rfl
theorem RV.f2 (h : RV σ P E N ag gA gT gR ml pl) : gfA σ (some (pd P 2)) 4 2 = some (some (pd P 4)) := gfA_o h.2.1 rfl
theorem RV.f3 (h : RV σ P E N ag gA gT gR ml pl) : gfA σ (some (pd P 2)) 4 3 = some (some (pd P 6)) := gfA_o h.2.1 rfl
theorem RV.f4 (h : RV σ P E N ag gA gT gR ml pl) : gfA σ (some (pd P 2)) 4 4 = some (some (pd P 8)) := gfA_o h.2.1 rfl
theorem RV.f5 (h : RV σ P E N ag gA gT gR ml pl) : gfA σ (some (pd P 2)) 4 5 = some (some (pd P 9)) := gfA_o h.2.1 rfl
theorem RV.rc (h : RV σ P E N ag gA gT gR ml pl) (t : List sv) : rcv σ (sA (some (pd P 2)) :: t) 4 = some (pd P 2) := rcv_o h.2.1
theorem RV.g4 (h : RV σ P E N ag gA gT gR ml pl) : gfA σ (some (pd P 4)) 6 0 = some (some (pd P 5)) := gfA_o h.2.2.2.1 rfl
theorem RV.g6 (h : RV σ P E N ag gA gT gR ml pl) : gfA σ (some (pd P 6)) 6 0 = some (some (pd P 7)) := gfA_o h.2.2.2.2.2.1 rfl
theorem RV.g10 (h : RV σ P E N ag gA gT gR ml pl) : gfA σ (some (pd P 10)) 6 0 = some (some (pd P 11)) := gfA_o h.2.2.2.2.2.2.2.2.2.1 rfl
theorem RV.rag (h : RV σ P E N ag gA gT gR ml pl) (hk : k < 9) : alZ σ (some (pd P 3)) (nI k) = some (ag k) := alZ_o h.2.2.1 hk (by decide)
theorem RV.aA (h : RV σ P E N ag gA gT gR ml pl) (hk : k < 9) : alA σ (some (pd P 5)) (nI k) = some (er (pe P) (gA k)) := h.2.2.2.2.1.at hk
theorem RV.aT (h : RV σ P E N ag gA gT gR ml pl) (hk : k < 9) : alA σ (some (pd P 7)) (nI k) = some (er (pe P) (gT k)) := h.2.2.2.2.2.2.1.at hk
theorem RV.aR (h : RV σ P E N ag gA gT gR ml pl) (hk : k < 9) : alA σ (some (pd P 11)) (nI k) = some (er (pe P) (gR k)) := h.2.2.2.2.2.2.2.2.2.2.1.at hk
theorem RV.rml (h : RV σ P E N ag gA gT gR ml pl) (hk : k < 41) : alI σ (some (pd P 8)) (nI k) = some (ml k) := alI_o h.2.2.2.2.2.2.2.1 hk (by decide)
theorem RV.rpl (h : RV σ P E N ag gA gT gR ml pl) (hk : k < 41) : alI σ (some (pd P 9)) (nI k) = some (pl k) := alI_o h.2.2.2.2.2.2.2.2.1 hk (by decide)
theorem RV.stA (h : RV σ P E N ag gA gT gR ml pl) : StR σ (pe P) (pd P 4) gA := ⟨_, h.2.2.2.1, h.2.2.2.2.1⟩
theorem RV.stT (h : RV σ P E N ag gA gT gR ml pl) : StR σ (pe P) (pd P 6) gT := ⟨_, h.2.2.2.2.2.1, h.2.2.2.2.2.2.1⟩
theorem RV.stR (h : RV σ P E N ag gA gT gR ml pl) : StR σ (pe P) (pd P 10) gR := ⟨_, h.2.2.2.2.2.2.2.2.2.1, h.2.2.2.2.2.2.2.2.2.2.1⟩
theorem RV.ev (h : RV σ P E N ag gA gT gR ml pl) : EvA σ (pe P) E N := fun n h1 h2 => by
  obtain ⟨sb, hs⟩ := (h.2.2.2.2.2.2.2.2.2.2.2 n h1 h2).1
  exact ⟨sb, _, _, hs⟩
theorem RV.s6 (h : RV σ P E N ag gA gT gR ml pl) {n : Nat} (h1 : 1 ≤ n) (h2 : n ≤ N) : gfA σ (some (pe P n)) 1 6 = some (some (psa P n)) := by
  obtain ⟨sb, hs⟩ := (h.2.2.2.2.2.2.2.2.2.2.2 n h1 h2).1
  exact gfA_o hs rfl
theorem RV.s7 (h : RV σ P E N ag gA gT gR ml pl) {n : Nat} (h1 : 1 ≤ n) (h2 : n ≤ N) : gfA σ (some (pe P n)) 1 7 = some (some (psf P n)) := by
  obtain ⟨sb, hs⟩ := (h.2.2.2.2.2.2.2.2.2.2.2 n h1 h2).1
  exact gfA_o hs rfl
theorem RV.sta (h : RV σ P E N ag gA gT gR ml pl) {n : Nat} (h1 : 1 ≤ n) (h2 : n ≤ N) : StR σ (pe P) (psa P n) (eA E n) := ⟨_, (h.2.2.2.2.2.2.2.2.2.2.2 n h1 h2).2.1⟩
theorem RV.stf (h : RV σ P E N ag gA gT gR ml pl) {n : Nat} (h1 : 1 ≤ n) (h2 : n ≤ N) : StR σ (pe P) (psf P n) (eF E n) := ⟨_, (h.2.2.2.2.2.2.2.2.2.2.2 n h1 h2).2.2⟩
theorem RV.ok (h : RV σ P E N ag gA gT gR ml pl) {n : Nat} (hn : n ≤ N) : rok σ (er (pe P) n) 1 = true := by
  by_cases h0 : n = 0
  · rw [h0]; rfl
  · rw [er_n h0]
    exact (h.ev n (by omega) hn).ok
theorem er_inj (hS : RS P E N) {a b : Nat} (ha : a ≤ N) (hb : b ≤ N) : er (pe P) a = er (pe P) b ↔ a = b := by
  constructor
  · intro q
    by_cases h0 : a = 0
    · by_cases h1 : b = 0
      · omega
      · rw [h0, er_0, er_n h1] at q
        cases q
    · by_cases h1 : b = 0
      · rw [h1, er_0, er_n h0] at q
        cases q
      · rw [er_n h0, er_n h1] at q
        exact hS.2.2.2.2 a b (by omega) ha (by omega) hb (Option.some.inj q)
  · intro q
    rw [q]
end RV
