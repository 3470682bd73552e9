/-! The history and the servers. -/
def HiR (σ : Hp) (hi ev : Nat) (ea : Nat → Nat) (N : Nat) : Prop := σ.2.2 hi = some (.inr (2, [sA (some ev), sI (nI N)])) ∧ ∃ f, σ.2.2 ev = some (.inl (3, 41, .inr (.inr f))) ∧ ∀ n, 1 ≤ n → n ≤ N → f n = some (ea n)
section HI
variable {σ : Hp} {hi ev N n : Nat} {ea : Nat → Nat}
theorem HiR.made (h : HiR σ hi ev ea N) : gfI σ (some hi) 2 1 = some (nI N) := gfI_o h.1 rfl
theorem HiR.rc (h : HiR σ hi ev ea N) (t : List sv) : rcv σ (sA (some hi) :: t) 2 = some hi := rcv_o h.1
theorem HiR.arr (h : HiR σ hi ev ea N) : gfA σ (some hi) 2 0 = some (some ev) := gfA_o h.1 rfl
theorem HiR.at (h : HiR σ hi ev ea N) (h1 : 1 ≤ n) (h2 : n ≤ N) (hN : N ≤ 40) : alA σ (some ev) (nI n) = some (some (ea n)) := by
  obtain ⟨-, f, hf, hn⟩ := h
  rw [alA_o hf rfl (show n < 41 by omega) (by decide), hn n h1 h2]
theorem Hi_has (h : HiR σ hi ev ea N) (x : Int32) : cI rF nHi_has [sA (some hi), sI x] σ = some (if x < 1 then 0 else if nI N < x then 0 else 1, σ) := by
  refine cI_of ((eHi_has (some hi) x σ).trans ?_)
  simp only [h.made, Option.bind_some, eHi_has_17, eHi_has_18, rz_0, rz_1]
  split
  · rfl
  · split <;> rfl
theorem in_N {N : Nat} (hN : N ≤ 40) {x : Int32} (h1 : ¬ x < 1) (h2 : ¬ nI N < x) : ∃ n, 1 ≤ n ∧ n ≤ N ∧ x = nI n := by
  have e1 : (1 : Int32).toInt = 1 := by decide
  have e2 : (nI N).toInt = (N : Int) := nI_toInt (by omega)
  rw [Int32.lt_iff_toInt_lt, e1] at h1
  rw [Int32.lt_iff_toInt_lt, e2] at h2
  obtain ⟨j, hj, rfl⟩ := nI_of (x := x) (by rw [Int32.lt_iff_toInt_lt]; show ¬ x.toInt < 0; omega)
  rw [nI_toInt hj] at h1 h2
  exact ⟨j, by omega, by omega, rfl⟩
theorem of_N {N n : Nat} (hN : N ≤ 40) (h1 : 1 ≤ n) (h2 : n ≤ N) : ¬ nI n < 1 ∧ ¬ nI N < nI n := by
  have e1 := nI_ltI (a := n) (b := 1) (by omega) (by decide)
  have e2 := nI_ltI (a := N) (b := n) (by omega) (by omega)
  exact ⟨fun q => by have := e1.mp q; omega, fun q => by have := e2.mp q; omega⟩
theorem Hi_find (h : HiR σ hi ev ea N) (hN : N ≤ 40) (h1 : 1 ≤ n) (h2 : n ≤ N) : cA rF nHi_find [sA (some hi), sI (nI n)] σ = some (some (ea n), σ) := by
  refine cA_of ((eHi_find (some hi) (nI n) σ).trans ?_)
  obtain ⟨c1, c2⟩ := of_N hN h1 h2
  simp only [h.rc, Hi_has h, h.arr, h.at h1 h2 hN, Option.bind_some, eHi_find_18, if_neg c1, if_neg c2]
  rw [if_neg (by decide)]
theorem Hi_find_no (h : HiR σ hi ev ea N) {x : Int32} (hx : x < 1 ∨ nI N < x) : cA rF nHi_find [sA (some hi), sI x] σ = some (none, σ) := by
  refine cA_of ((eHi_find (some hi) x σ).trans ?_)
  simp only [h.rc, Hi_has h, Option.bind_some, eHi_find_18]
  rw [if_pos]
  rcases hx with hx | hx
  · rw [if_pos hx]
  · by_cases h1 : x < 1
    · rw [if_pos h1]
    · rw [if_neg h1, if_pos hx]
theorem Hi_pick (h : HiR σ hi ev ea N) (hN : N ≤ 40) (h1 : 1 ≤ n) (h2 : n ≤ N) (m : Int64) : cA rF nHi_pick [sA (some hi), sI (nI n), sJ m] σ = some (if hb m n = true then some (ea n) else none, σ) := by
  refine cA_of ((eHi_pick (some hi) (nI n) m σ).trans ?_)
  simp only [Rm_isIn (m := m) (show n < 64 by omega), h.rc, Hi_find h hN h1 h2, Option.bind_some, eHi_pick_17]
  cases hb m n
  · simp
  · simp
end HI
/-- a server: pending, held, refused, offset of its clock -/
def sec (q : Int64 × Int64 × Int64 × Int32) : Cl := .inr (5, [sJ q.1, sJ q.2.1, sJ q.2.2.1, sI q.2.2.2])
section SE
variable {σ : Hp} {x n : Nat} {q : Int64 × Int64 × Int64 × Int32}
def stn (q : Int64 × Int64 × Int64 × Int32) (n : Nat) : Int32 := if hb q.2.1 n = true then 2 else if hb q.2.2.1 n = true then 3 else if hb q.1 n = true then 1 else 0
theorem Se_standingOf (h : σ.2.2 x = some (sec q)) (hn : n < 64) : cI rF nSe_standingOf [sA (some x), sI (nI n)] σ = some (stn q n, σ) := by
  refine cI_of ((eSe_standingOf (some x) (nI n) σ).trans ?_)
  have j0 : gfJ σ (some x) 5 0 = some q.1 := gfJ_o h rfl
  have j1 : gfJ σ (some x) 5 1 = some q.2.1 := gfJ_o h rfl
  have j2 : gfJ σ (some x) 5 2 = some q.2.2.1 := gfJ_o h rfl
  simp only [j0, j1, j2, Rm_isIn hn, Option.bind_some, eSe_standingOf_42]
  unfold stn
  cases hb q.2.1 n <;> cases hb q.2.2.1 n <;> cases hb q.1 n <;> simp
theorem Se_isSettled (h : σ.2.2 x = some (sec q)) (hn : n < 64) : cI rF nSe_isSettled [sA (some x), sI (nI n)] σ = some (if (hb q.2.1 n || hb q.2.2.1 n) = true then 1 else 0, σ) := by
  refine cI_of ((eSe_isSettled (some x) (nI n) σ).trans ?_)
  have j1 : gfJ σ (some x) 5 1 = some q.2.1 := gfJ_o h rfl
  have j2 : gfJ σ (some x) 5 2 = some q.2.2.1 := gfJ_o h rfl
  simp only [j1, j2, Rm_isIn hn, Option.bind_some, hb_or]
  cases (hb q.2.1 n || hb q.2.2.1 n)
  · exact rz_0 σ
  · exact rz_1 σ
theorem Se_unsettled (h : σ.2.2 x = some (sec q)) (m : Int64) : cJ rF nSe_unsettled [sA (some x), sJ m] σ = some (m &&& ((q.2.1 ||| q.2.2.1) ^^^ (-1)), σ) := by
  refine cJ_of ((eSe_unsettled (some x) m σ).trans ?_)
  have j1 : gfJ σ (some x) 5 1 = some q.2.1 := gfJ_o h rfl
  have j2 : gfJ σ (some x) 5 2 = some q.2.2.1 := gfJ_o h rfl
  simp only [j1, j2, Option.bind_some]
/-- an event is settled: held if it is good, refused if not; pending no more -/
def stl (q : Int64 × Int64 × Int64 × Int32) (e : Nat) (gd : Int32) : Int64 × Int64 × Int64 × Int32 := if gd = 0 then (q.1 &&& (bitN e ^^^ (-1)), q.2.1, q.2.2.1 ||| bitN e, q.2.2.2) else (q.1 &&& (bitN e ^^^ (-1)), q.2.1 ||| bitN e, q.2.2.1, q.2.2.2)
theorem Se_settle {y e : Nat} {E : Ed} (h : σ.2.2 x = some (sec q)) (hy : EvO σ y E e) : cV rF nSe_settle [sA (some x), sA (some y)] σ = some (hput σ x (sec (stl q e (eG E e)))) := by
  refine cV_of ((eSe_settle (some x) (some y) σ).trans ?_)
  have hne : y ≠ x := by
    obtain ⟨sb, sa, sf, hy⟩ := hy
    intro e0
    rw [e0, h] at hy
    cases hy
  have j0 : gfJ σ (some x) 5 0 = some q.1 := gfJ_o h rfl
  have p0 : pfJ σ (some x) 5 0 (q.1 &&& (bitN e ^^^ (-1))) = some (hput σ x (sec (q.1 &&& (bitN e ^^^ (-1)), q.2.1, q.2.2.1, q.2.2.2))) := pf_o h
  have b0 : ∀ τ, cJ rF nRm_bit [sI (nI e)] τ = some (bitN e, τ) := fun τ => Rm_bit e τ
  have h1 : (hput σ x (sec (q.1 &&& (bitN e ^^^ (-1)), q.2.1, q.2.2.1, q.2.2.2))).2.2 x = some (sec (q.1 &&& (bitN e ^^^ (-1)), q.2.1, q.2.2.1, q.2.2.2)) := hput_same _ _ _
  have hy1 : EvO (hput σ x (sec (q.1 &&& (bitN e ^^^ (-1)), q.2.1, q.2.2.1, q.2.2.2))) y E e := hy.ne hne
  simp only [j0, hy.num, b0, p0, Option.bind_some, hy1.gd, hy1.num]
  have j1 : gfJ (hput σ x (sec (q.1 &&& (bitN e ^^^ (-1)), q.2.1, q.2.2.1, q.2.2.2))) (some x) 5 1 = some q.2.1 := gfJ_o h1 rfl
  have j2 : gfJ (hput σ x (sec (q.1 &&& (bitN e ^^^ (-1)), q.2.1, q.2.2.1, q.2.2.2))) (some x) 5 2 = some q.2.2.1 := gfJ_o h1 rfl
  have p1 : pfJ (hput σ x (sec (q.1 &&& (bitN e ^^^ (-1)), q.2.1, q.2.2.1, q.2.2.2))) (some x) 5 1 (q.2.1 ||| bitN e) = some (hput (hput σ x (sec (q.1 &&& (bitN e ^^^ (-1)), q.2.1, q.2.2.1, q.2.2.2))) x (sec (q.1 &&& (bitN e ^^^ (-1)), q.2.1 ||| bitN e, q.2.2.1, q.2.2.2))) := pf_o h1
  have p2 : pfJ (hput σ x (sec (q.1 &&& (bitN e ^^^ (-1)), q.2.1, q.2.2.1, q.2.2.2))) (some x) 5 2 (q.2.2.1 ||| bitN e) = some (hput (hput σ x (sec (q.1 &&& (bitN e ^^^ (-1)), q.2.1, q.2.2.1, q.2.2.2))) x (sec (q.1 &&& (bitN e ^^^ (-1)), q.2.1, q.2.2.1 ||| bitN e, q.2.2.2))) := pf_o h1
  simp only [j1, j2, p1, p2, Option.bind_some, eSe_settle_62, hput_hput]
  unfold stl
  split <;> rfl
end SE
