/-! Rows for reasoning about runs: reads and writes of the abstract heap. -/
theorem hput_get (σ : Hp) (a : Nat) (c : Cl) (b : Nat) : (hput σ a c).2.2 b = if b = a then some c else σ.2.2 b := rfl
theorem hput_same (σ : Hp) (a : Nat) (c : Cl) : (hput σ a c).2.2 a = some c := va_up_self _ _ _
theorem hput_ne {σ : Hp} {a b : Nat} {c : Cl} (h : b ≠ a) : (hput σ a c).2.2 b = σ.2.2 b := va_up_ne _ _ h
theorem hput_1 (σ : Hp) (a : Nat) (c : Cl) : (hput σ a c).1 = σ.1 := rfl
theorem hput_2 (σ : Hp) (a : Nat) (c : Cl) : (hput σ a c).2.1 = σ.2.1 := rfl
theorem up_up {α : Type} (f : Nat → α) (a : Nat) (c d : α) : va_up (va_up f a c) a d = va_up f a d := by
  funext j
  by_cases h : j = a <;> simp [va_up, h]
theorem up_comm {α : Type} (f : Nat → α) {a b : Nat} (c d : α) (h : a ≠ b) : va_up (va_up f a c) b d = va_up (va_up f b d) a c := by
  funext j
  by_cases h1 : j = a
  · subst h1
    simp [va_up, h]
  · by_cases h2 : j = b
    · subst h2
      simp [va_up, h1]
    · simp [va_up, h1, h2]
theorem up_id {α : Type} {f : Nat → α} {a : Nat} {c : α} (h : f a = c) : va_up f a c = f := by
  funext j
  by_cases h1 : j = a
  · subst h1
    simp [va_up, h]
  · simp [va_up, h1]
theorem hput_hput (σ : Hp) (a : Nat) (c d : Cl) : hput (hput σ a c) a d = hput σ a d := by
  unfold hput
  rw [up_up]
theorem hput_comm (σ : Hp) {a b : Nat} (c d : Cl) (h : a ≠ b) : hput (hput σ a c) b d = hput (hput σ b d) a c := by
  unfold hput
  rw [up_comm _ _ _ h]
theorem hput_self {σ : Hp} {a : Nat} {c : Cl} (h : σ.2.2 a = some c) : hput σ a c = σ := by
  unfold hput
  rw [up_id h]
theorem ob_o {σ : Hp} {a ci : Nat} {fs : List sv} (h : σ.2.2 a = some (.inr (ci, fs))) : ob σ (some a) ci = some (a, fs) := by
  simp [ob, h]
theorem ar_o {σ : Hp} {a : Nat} {q : Nat × Nat × Ac} (h : σ.2.2 a = some (.inl q)) : ar σ (some a) = some (a, q) := by
  simp [ar, h]
theorem gfI_o {σ : Hp} {a ci k : Nat} {fs : List sv} {x : Int32} (h : σ.2.2 a = some (.inr (ci, fs))) (hk : fs[k]? = some (sI x)) : gfI σ (some a) ci k = some x := by
  simp [gfI, gf, ob_o h, hk, vI]
theorem gfJ_o {σ : Hp} {a ci k : Nat} {fs : List sv} {x : Int64} (h : σ.2.2 a = some (.inr (ci, fs))) (hk : fs[k]? = some (sJ x)) : gfJ σ (some a) ci k = some x := by
  simp [gfJ, gf, ob_o h, hk, vJ]
theorem gfA_o {σ : Hp} {a ci k : Nat} {fs : List sv} {x : Option Nat} (h : σ.2.2 a = some (.inr (ci, fs))) (hk : fs[k]? = some (sA x)) : gfA σ (some a) ci k = some x := by
  simp [gfA, gf, ob_o h, hk, vA]
theorem pf_o {σ : Hp} {a ci k : Nat} {fs : List sv} {v : sv} (h : σ.2.2 a = some (.inr (ci, fs))) : pf σ (some a) ci k v = some (hput σ a (.inr (ci, fs.set k v))) := by
  simp [pf, ob_o h]
theorem rcv_o {σ : Hp} {a ci : Nat} {fs t : List sv} (h : σ.2.2 a = some (.inr (ci, fs))) : rcv σ (sA (some a) :: t) ci = some a := by
  simp [rcv, ob_o h]
theorem inb_nI {j n : Nat} (h : j < n) (hn : n < 2 ^ 31) : inb (nI j) n = true := by
  have h1 := nI_pos (n := j) (by omega)
  simp [inb, nI_clamp (n := j) (by omega), h, h1]
theorem alI_o {σ : Hp} {a n j : Nat} {f : Nat → Int32} (h : σ.2.2 a = some (.inl (0, n, .inl f))) (hj : j < n) (hn : n < 2 ^ 31) : alI σ (some a) (nI j) = some (f j) := by
  simp [alI, ar_o h, inb_nI hj hn, nI_clamp (n := j) (by omega)]
theorem alX_o {σ : Hp} {a n j : Nat} {f : Nat → Int32} (h : σ.2.2 a = some (.inl (99, n, .inl f))) (hj : j < n) (hn : n < 2 ^ 31) : alI σ (some a) (nI j) = some (f j) := by
  simp [alI, ar_o h, inb_nI hj hn, nI_clamp (n := j) (by omega)]
theorem alZ_o {σ : Hp} {a n j : Nat} {f : Nat → Int32} (h : σ.2.2 a = some (.inl (2, n, .inl f))) (hj : j < n) (hn : n < 2 ^ 31) : alZ σ (some a) (nI j) = some (f j) := by
  simp [alZ, ar_o h, inb_nI hj hn, nI_clamp (n := j) (by omega)]
theorem alJ_o {σ : Hp} {a n j : Nat} {f : Nat → Int64} (h : σ.2.2 a = some (.inl (1, n, .inr (.inl f)))) (hj : j < n) (hn : n < 2 ^ 31) : alJ σ (some a) (nI j) = some (f j) := by
  simp [alJ, ar_o h, inb_nI hj hn, nI_clamp (n := j) (by omega)]
theorem alA_o {σ : Hp} {a k n j ci : Nat} {f : Nat → Option Nat} (h : σ.2.2 a = some (.inl (k, n, .inr (.inr f)))) (hk : aec k = some ci) (hj : j < n) (hn : n < 2 ^ 31) : alA σ (some a) (nI j) = some (f j) := by
  simp [alA, ar_o h, hk, inb_nI hj hn, nI_clamp (n := j) (by omega)]
theorem asI_o {σ : Hp} {a n j : Nat} {f : Nat → Int32} {x : Int32} (h : σ.2.2 a = some (.inl (0, n, .inl f))) (hj : j < n) (hn : n < 2 ^ 31) : asI σ (some a) (nI j) x = some (hput σ a (.inl (0, n, .inl (va_up f j x)))) := by
  simp [asI, ar_o h, inb_nI hj hn, nI_clamp (n := j) (by omega)]
theorem asZ_o {σ : Hp} {a n j : Nat} {f : Nat → Int32} {x : Int32} (h : σ.2.2 a = some (.inl (2, n, .inl f))) (hj : j < n) (hn : n < 2 ^ 31) (hx : x = 0 ∨ x = 1) : asZ σ (some a) (nI j) x = some (hput σ a (.inl (2, n, .inl (va_up f j x)))) := by
  simp [asZ, ar_o h, inb_nI hj hn, nI_clamp (n := j) (by omega), hx]
theorem asJ_o {σ : Hp} {a n j : Nat} {f : Nat → Int64} {x : Int64} (h : σ.2.2 a = some (.inl (1, n, .inr (.inl f)))) (hj : j < n) (hn : n < 2 ^ 31) : asJ σ (some a) (nI j) x = some (hput σ a (.inl (1, n, .inr (.inl (va_up f j x))))) := by
  simp [asJ, ar_o h, inb_nI hj hn, nI_clamp (n := j) (by omega)]
theorem asA_o {σ : Hp} {a k n j ci : Nat} {f : Nat → Option Nat} {x : Option Nat} (h : σ.2.2 a = some (.inl (k, n, .inr (.inr f)))) (hk : aec k = some ci) (hj : j < n) (hn : n < 2 ^ 31) (hx : rok σ x ci = true) : asA σ (some a) (nI j) x = some (hput σ a (.inl (k, n, .inr (.inr (va_up f j x))))) := by
  simp [asA, ar_o h, hk, inb_nI hj hn, nI_clamp (n := j) (by omega), hx]
theorem rok_n (σ : Hp) (ci : Nat) : rok σ none ci = true := rfl
theorem rok_o {σ : Hp} {a ci : Nat} {fs : List sv} (h : σ.2.2 a = some (.inr (ci, fs))) : rok σ (some a) ci = true := by
  simp [rok, ob_o h]
theorem rz_1 (σ : Hp) : rz 1 σ = some (some (sI 1), σ) := rfl
theorem rz_0 (σ : Hp) : rz 0 σ = some (some (sI 0), σ) := rfl
/-! calls, from the equation of the entry -/
theorem cI_of {M : Nat} {a : List sv} {σ σ' : Hp} {v : Int32} (h : rF (mtd M, 0, sargs 0 a, [], σ) = some (some (sI v), σ')) : cI rF M a σ = some (v, σ') := by
  unfold cI ent
  rw [h]
  rfl
theorem cJ_of {M : Nat} {a : List sv} {σ σ' : Hp} {v : Int64} (h : rF (mtd M, 0, sargs 0 a, [], σ) = some (some (sJ v), σ')) : cJ rF M a σ = some (v, σ') := by
  unfold cJ ent
  rw [h]
  rfl
theorem cA_of {M : Nat} {a : List sv} {σ σ' : Hp} {v : Option Nat} (h : rF (mtd M, 0, sargs 0 a, [], σ) = some (some (sA v), σ')) : cA rF M a σ = some (v, σ') := by
  unfold cA ent
  rw [h]
  rfl
theorem cV_of {M : Nat} {a : List sv} {σ σ' : Hp} (h : rF (mtd M, 0, sargs 0 a, [], σ) = some (none, σ')) : cV rF M a σ = some σ' := by
  unfold cV ent
  rw [h]
  rfl
