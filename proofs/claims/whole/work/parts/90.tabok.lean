/-! The tables are right (printed by wip/gen/tabs.py). -/
theorem lk2_mem {α : Type} {l : List (Nat × α)} {k : Nat} {v : α} (h : lk2 l k = some v) : (k, v) ∈ l := by
  induction l with
  | nil => cases h
  | cons q t ih =>
    unfold lk2 at h
    cases e : Nat.beq q.1 k with
    | true =>
      rw [e] at h
      cases h
      have := beq_eq' e
      subst this
      exact List.mem_cons_self
    | false =>
      rw [e] at h
      exact List.mem_cons_of_mem _ (ih h)
theorem nin_mem {l : List Nat} {k : Nat} (h : nin l k = true) : k ∈ l := by
  induction l with
  | nil => cases h
  | cons q t ih =>
    unfold nin at h
    cases e : Nat.beq q k with
    | true =>
      have := beq_eq' e
      subst this
      exact List.mem_cons_self
    | false =>
      rw [e] at h
      exact List.mem_cons_of_mem _ (ih h)
def cdx (b : ByteArray) (pc : Nat) (o : Option (Instr × Nat × Nat)) : Bool := match o with
  | none => true
  | some q => decide (decode b pc = .ok (q.1, q.2.1)) && ilo pc q
def cdk (b : ByteArray) (f : Nat → Option (Instr × Nat × Nat)) (n : Nat) : Bool := (List.range n).all fun pc => cdx b pc (f pc)
theorem cd_of {M n : Nat} (t : Nat → Option (Instr × Nat × Nat)) (ht : ∀ pc, mcod (mtd M) pc = bif Nat.ble pc n then t pc else none) (h : cdk (byt M) (mcod (mtd M)) (n + 1) = true) : CdOk M := by
  intro pc q hq
  by_cases hl : pc < n + 1
  · have h1 := List.all_eq_true.mp h pc (List.mem_range.mpr hl)
    unfold cdx at h1
    rw [hq] at h1
    simp only [Bool.and_eq_true, decide_eq_true_eq] at h1
    exact h1
  · rw [ht] at hq
    have hb : Nat.ble pc n = false := by
      cases e : Nat.ble pc n with
      | false => rfl
      | true => exact absurd (Nat.le_of_ble_eq_true e) (by omega)
    rw [hb] at hq
    cases hq
theorem pl_of {α : Type} {f : Nat → Nat → Option α} {l : List (List (Nat × α))} (ht : ∀ o x, (Nat.ble o 11 && Nat.ble x 511) = false → f o x = none) (h : ∀ o, o < 12 → ∀ x, x < 512 → f o x = lk2 (nth [] l o) x) {o x : Nat} {e : α} (hf : f o x = some e) : (x, e) ∈ nth [] l o := by
  have hb : (Nat.ble o 11 && Nat.ble x 511) = true := by
    cases q : (Nat.ble o 11 && Nat.ble x 511) with
    | true => rfl
    | false =>
      rw [ht _ _ q] at hf
      cases hf
  rw [Bool.and_eq_true] at hb
  have h1 := Nat.le_of_ble_eq_true hb.1
  have h2 := Nat.le_of_ble_eq_true hb.2
  rw [h o (by omega) x (by omega)] at hf
  exact lk2_mem hf
theorem lay0 : ∀ k, k < 6 → u_lay (ccl0).1 (ccl0).2.1 k ∈ gws := by
  intro k hk
  match k, hk with
  | 0, _ => exact gws_of (List.mem_of_getElem? (i := 291) (by decide +kernel)) (by decide +kernel)
  | 1, _ => exact gws_of (List.mem_of_getElem? (i := 293) (by decide +kernel)) (by decide +kernel)
  | 2, _ => exact gws_of (List.mem_of_getElem? (i := 295) (by decide +kernel)) (by decide +kernel)
  | 3, _ => exact gws_of (List.mem_of_getElem? (i := 297) (by decide +kernel)) (by decide +kernel)
  | 4, _ => exact gws_of (List.mem_of_getElem? (i := 299) (by decide +kernel)) (by decide +kernel)
  | 5, _ => exact gws_of (List.mem_of_getElem? (i := 301) (by decide +kernel)) (by decide +kernel)
  | j + 6, hk => exact absurd hk (by omega)
theorem cok0 : ClOk 0 ccl0 := by
  refine ⟨fun w hw => ?_, ⟨fun k => nth .int ctl0 k, by decide +kernel, fun j hj => ?_⟩, by decide +kernel, rfl, gws_of (List.mem_of_getElem? (i := 70) (by decide +kernel)) (by decide +kernel), gws_of (List.mem_of_getElem? (i := 58) (by decide +kernel)) (by decide +kernel)⟩
  · obtain ⟨j, hj, rfl⟩ := List.mem_map.mp hw
    exact lay0 j (List.mem_range.mp hj)
  · match j, hj with
    | 0, _ => rfl
    | 1, _ => rfl
    | 2, _ => rfl
    | 3, _ => rfl
    | 4, _ => rfl
    | 5, _ => rfl
    | j + 6, hj => exact absurd (show j + 6 < 6 from hj) (by omega)
theorem lay1 : ∀ k, k < 13 → u_lay (ccl1).1 (ccl1).2.1 k ∈ gws := by
  intro k hk
  match k, hk with
  | 0, _ => exact gws_of (List.mem_of_getElem? (i := 201) (by decide +kernel)) (by decide +kernel)
  | 1, _ => exact gws_of (List.mem_of_getElem? (i := 203) (by decide +kernel)) (by decide +kernel)
  | 2, _ => exact gws_of (List.mem_of_getElem? (i := 205) (by decide +kernel)) (by decide +kernel)
  | 3, _ => exact gws_of (List.mem_of_getElem? (i := 207) (by decide +kernel)) (by decide +kernel)
  | 4, _ => exact gws_of (List.mem_of_getElem? (i := 209) (by decide +kernel)) (by decide +kernel)
  | 5, _ => exact gws_of (List.mem_of_getElem? (i := 211) (by decide +kernel)) (by decide +kernel)
  | 6, _ => exact gws_of (List.mem_of_getElem? (i := 213) (by decide +kernel)) (by decide +kernel)
  | 7, _ => exact gws_of (List.mem_of_getElem? (i := 215) (by decide +kernel)) (by decide +kernel)
  | 8, _ => exact gws_of (List.mem_of_getElem? (i := 217) (by decide +kernel)) (by decide +kernel)
  | 9, _ => exact gws_of (List.mem_of_getElem? (i := 219) (by decide +kernel)) (by decide +kernel)
  | 10, _ => exact gws_of (List.mem_of_getElem? (i := 221) (by decide +kernel)) (by decide +kernel)
  | 11, _ => exact gws_of (List.mem_of_getElem? (i := 223) (by decide +kernel)) (by decide +kernel)
  | 12, _ => exact gws_of (List.mem_of_getElem? (i := 225) (by decide +kernel)) (by decide +kernel)
  | j + 13, hk => exact absurd hk (by omega)
theorem cok1 : ClOk 1 ccl1 := by
  refine ⟨fun w hw => ?_, ⟨fun k => nth .int ctl1 k, by decide +kernel, fun j hj => ?_⟩, by decide +kernel, rfl, gws_of (List.mem_of_getElem? (i := 155) (by decide +kernel)) (by decide +kernel), gws_of (List.mem_of_getElem? (i := 63) (by decide +kernel)) (by decide +kernel)⟩
  · obtain ⟨j, hj, rfl⟩ := List.mem_map.mp hw
    exact lay1 j (List.mem_range.mp hj)
  · match j, hj with
    | 0, _ => rfl
    | 1, _ => rfl
    | 2, _ => rfl
    | 3, _ => rfl
    | 4, _ => rfl
    | 5, _ => rfl
    | 6, _ => rfl
    | 7, _ => rfl
    | 8, _ => rfl
    | 9, _ => rfl
    | 10, _ => rfl
    | 11, _ => rfl
    | 12, _ => rfl
    | j + 13, hj => exact absurd (show j + 13 < 13 from hj) (by omega)
theorem lay2 : ∀ k, k < 2 → u_lay (ccl2).1 (ccl2).2.1 k ∈ gws := by
  intro k hk
  match k, hk with
  | 0, _ => exact gws_of (List.mem_of_getElem? (i := 89) (by decide +kernel)) (by decide +kernel)
  | 1, _ => exact gws_of (List.mem_of_getElem? (i := 91) (by decide +kernel)) (by decide +kernel)
  | j + 2, hk => exact absurd hk (by omega)
theorem cok2 : ClOk 2 ccl2 := by
  refine ⟨fun w hw => ?_, ⟨fun k => nth .int ctl2 k, by decide +kernel, fun j hj => ?_⟩, by decide +kernel, rfl, gws_of (List.mem_of_getElem? (i := 78) (by decide +kernel)) (by decide +kernel), gws_of (List.mem_of_getElem? (i := 59) (by decide +kernel)) (by decide +kernel)⟩
  · obtain ⟨j, hj, rfl⟩ := List.mem_map.mp hw
    exact lay2 j (List.mem_range.mp hj)
  · match j, hj with
    | 0, _ => rfl
    | 1, _ => rfl
    | j + 2, hj => exact absurd (show j + 2 < 2 from hj) (by omega)
theorem lay3 : ∀ k, k < 5 → u_lay (ccl3).1 (ccl3).2.1 k ∈ gws := by
  intro k hk
  match k, hk with
  | 0, _ => exact gws_of (List.mem_of_getElem? (i := 507) (by decide +kernel)) (by decide +kernel)
  | 1, _ => exact gws_of (List.mem_of_getElem? (i := 509) (by decide +kernel)) (by decide +kernel)
  | 2, _ => exact gws_of (List.mem_of_getElem? (i := 511) (by decide +kernel)) (by decide +kernel)
  | 3, _ => exact gws_of (List.mem_of_getElem? (i := 513) (by decide +kernel)) (by decide +kernel)
  | 4, _ => exact gws_of (List.mem_of_getElem? (i := 515) (by decide +kernel)) (by decide +kernel)
  | j + 5, hk => exact absurd hk (by omega)
theorem cok3 : ClOk 3 ccl3 := by
  refine ⟨fun w hw => ?_, ⟨fun k => nth .int ctl3 k, by decide +kernel, fun j hj => ?_⟩, by decide +kernel, rfl, gws_of (List.mem_of_getElem? (i := 492) (by decide +kernel)) (by decide +kernel), gws_of (List.mem_of_getElem? (i := 67) (by decide +kernel)) (by decide +kernel)⟩
  · obtain ⟨j, hj, rfl⟩ := List.mem_map.mp hw
    exact lay3 j (List.mem_range.mp hj)
  · match j, hj with
    | 0, _ => rfl
    | 1, _ => rfl
    | 2, _ => rfl
    | 3, _ => rfl
    | 4, _ => rfl
    | j + 5, hj => exact absurd (show j + 5 < 5 from hj) (by omega)
theorem lay4 : ∀ k, k < 6 → u_lay (ccl4).1 (ccl4).2.1 k ∈ gws := by
  intro k hk
  match k, hk with
  | 0, _ => exact gws_of (List.mem_of_getElem? (i := 120) (by decide +kernel)) (by decide +kernel)
  | 1, _ => exact gws_of (List.mem_of_getElem? (i := 122) (by decide +kernel)) (by decide +kernel)
  | 2, _ => exact gws_of (List.mem_of_getElem? (i := 124) (by decide +kernel)) (by decide +kernel)
  | 3, _ => exact gws_of (List.mem_of_getElem? (i := 126) (by decide +kernel)) (by decide +kernel)
  | 4, _ => exact gws_of (List.mem_of_getElem? (i := 128) (by decide +kernel)) (by decide +kernel)
  | 5, _ => exact gws_of (List.mem_of_getElem? (i := 130) (by decide +kernel)) (by decide +kernel)
  | j + 6, hk => exact absurd hk (by omega)
theorem cok4 : ClOk 4 ccl4 := by
  refine ⟨fun w hw => ?_, ⟨fun k => nth .int ctl4 k, by decide +kernel, fun j hj => ?_⟩, by decide +kernel, rfl, gws_of (List.mem_of_getElem? (i := 95) (by decide +kernel)) (by decide +kernel), gws_of (List.mem_of_getElem? (i := 60) (by decide +kernel)) (by decide +kernel)⟩
  · obtain ⟨j, hj, rfl⟩ := List.mem_map.mp hw
    exact lay4 j (List.mem_range.mp hj)
  · match j, hj with
    | 0, _ => rfl
    | 1, _ => rfl
    | 2, _ => rfl
    | 3, _ => rfl
    | 4, _ => rfl
    | 5, _ => rfl
    | j + 6, hj => exact absurd (show j + 6 < 6 from hj) (by omega)
theorem lay5 : ∀ k, k < 4 → u_lay (ccl5).1 (ccl5).2.1 k ∈ gws := by
  intro k hk
  match k, hk with
  | 0, _ => exact gws_of (List.mem_of_getElem? (i := 276) (by decide +kernel)) (by decide +kernel)
  | 1, _ => exact gws_of (List.mem_of_getElem? (i := 278) (by decide +kernel)) (by decide +kernel)
  | 2, _ => exact gws_of (List.mem_of_getElem? (i := 280) (by decide +kernel)) (by decide +kernel)
  | 3, _ => exact gws_of (List.mem_of_getElem? (i := 282) (by decide +kernel)) (by decide +kernel)
  | j + 4, hk => exact absurd hk (by omega)
theorem cok5 : ClOk 5 ccl5 := by
  refine ⟨fun w hw => ?_, ⟨fun k => nth .int ctl5 k, by decide +kernel, fun j hj => ?_⟩, by decide +kernel, rfl, gws_of (List.mem_of_getElem? (i := 265) (by decide +kernel)) (by decide +kernel), gws_of (List.mem_of_getElem? (i := 64) (by decide +kernel)) (by decide +kernel)⟩
  · obtain ⟨j, hj, rfl⟩ := List.mem_map.mp hw
    exact lay5 j (List.mem_range.mp hj)
  · match j, hj with
    | 0, _ => rfl
    | 1, _ => rfl
    | 2, _ => rfl
    | 3, _ => rfl
    | j + 4, hj => exact absurd (show j + 4 < 4 from hj) (by omega)
theorem lay6 : ∀ k, k < 1 → u_lay (ccl6).1 (ccl6).2.1 k ∈ gws := by
  intro k hk
  match k, hk with
  | 0, _ => exact gws_of (List.mem_of_getElem? (i := 110) (by decide +kernel)) (by decide +kernel)
  | j + 1, hk => exact absurd hk (by omega)
theorem cok6 : ClOk 6 ccl6 := by
  refine ⟨fun w hw => ?_, ⟨fun k => nth .int ctl6 k, by decide +kernel, fun j hj => ?_⟩, by decide +kernel, rfl, gws_of (List.mem_of_getElem? (i := 101) (by decide +kernel)) (by decide +kernel), gws_of (List.mem_of_getElem? (i := 61) (by decide +kernel)) (by decide +kernel)⟩
  · obtain ⟨j, hj, rfl⟩ := List.mem_map.mp hw
    exact lay6 j (List.mem_range.mp hj)
  · match j, hj with
    | 0, _ => rfl
    | j + 1, hj => exact absurd (show j + 1 < 1 from hj) (by omega)
theorem lay7 : ∀ k, k < 2 → u_lay (ccl7).1 (ccl7).2.1 k ∈ gws := by
  intro k hk
  match k, hk with
  | 0, _ => exact gws_of (List.mem_of_getElem? (i := 147) (by decide +kernel)) (by decide +kernel)
  | 1, _ => exact gws_of (List.mem_of_getElem? (i := 149) (by decide +kernel)) (by decide +kernel)
  | j + 2, hk => exact absurd hk (by omega)
theorem cok7 : ClOk 7 ccl7 := by
  refine ⟨fun w hw => ?_, ⟨fun k => nth .int ctl7 k, by decide +kernel, fun j hj => ?_⟩, by decide +kernel, rfl, gws_of (List.mem_of_getElem? (i := 137) (by decide +kernel)) (by decide +kernel), gws_of (List.mem_of_getElem? (i := 62) (by decide +kernel)) (by decide +kernel)⟩
  · obtain ⟨j, hj, rfl⟩ := List.mem_map.mp hw
    exact lay7 j (List.mem_range.mp hj)
  · match j, hj with
    | 0, _ => rfl
    | 1, _ => rfl
    | j + 2, hj => exact absurd (show j + 2 < 2 from hj) (by omega)
theorem lay8 : ∀ k, k < 25 → u_lay (ccl8).1 (ccl8).2.1 k ∈ gws := by
  intro k hk
  match k, hk with
  | 0, _ => exact gws_of (List.mem_of_getElem? (i := 669) (by decide +kernel)) (by decide +kernel)
  | 1, _ => exact gws_of (List.mem_of_getElem? (i := 671) (by decide +kernel)) (by decide +kernel)
  | 2, _ => exact gws_of (List.mem_of_getElem? (i := 673) (by decide +kernel)) (by decide +kernel)
  | 3, _ => exact gws_of (List.mem_of_getElem? (i := 675) (by decide +kernel)) (by decide +kernel)
  | 4, _ => exact gws_of (List.mem_of_getElem? (i := 677) (by decide +kernel)) (by decide +kernel)
  | 5, _ => exact gws_of (List.mem_of_getElem? (i := 679) (by decide +kernel)) (by decide +kernel)
  | 6, _ => exact gws_of (List.mem_of_getElem? (i := 681) (by decide +kernel)) (by decide +kernel)
  | 7, _ => exact gws_of (List.mem_of_getElem? (i := 683) (by decide +kernel)) (by decide +kernel)
  | 8, _ => exact gws_of (List.mem_of_getElem? (i := 685) (by decide +kernel)) (by decide +kernel)
  | 9, _ => exact gws_of (List.mem_of_getElem? (i := 687) (by decide +kernel)) (by decide +kernel)
  | 10, _ => exact gws_of (List.mem_of_getElem? (i := 689) (by decide +kernel)) (by decide +kernel)
  | 11, _ => exact gws_of (List.mem_of_getElem? (i := 691) (by decide +kernel)) (by decide +kernel)
  | 12, _ => exact gws_of (List.mem_of_getElem? (i := 693) (by decide +kernel)) (by decide +kernel)
  | 13, _ => exact gws_of (List.mem_of_getElem? (i := 695) (by decide +kernel)) (by decide +kernel)
  | 14, _ => exact gws_of (List.mem_of_getElem? (i := 697) (by decide +kernel)) (by decide +kernel)
  | 15, _ => exact gws_of (List.mem_of_getElem? (i := 699) (by decide +kernel)) (by decide +kernel)
  | 16, _ => exact gws_of (List.mem_of_getElem? (i := 701) (by decide +kernel)) (by decide +kernel)
  | 17, _ => exact gws_of (List.mem_of_getElem? (i := 703) (by decide +kernel)) (by decide +kernel)
  | 18, _ => exact gws_of (List.mem_of_getElem? (i := 705) (by decide +kernel)) (by decide +kernel)
  | 19, _ => exact gws_of (List.mem_of_getElem? (i := 707) (by decide +kernel)) (by decide +kernel)
  | 20, _ => exact gws_of (List.mem_of_getElem? (i := 709) (by decide +kernel)) (by decide +kernel)
  | 21, _ => exact gws_of (List.mem_of_getElem? (i := 711) (by decide +kernel)) (by decide +kernel)
  | 22, _ => exact gws_of (List.mem_of_getElem? (i := 713) (by decide +kernel)) (by decide +kernel)
  | 23, _ => exact gws_of (List.mem_of_getElem? (i := 715) (by decide +kernel)) (by decide +kernel)
  | 24, _ => exact gws_of (List.mem_of_getElem? (i := 717) (by decide +kernel)) (by decide +kernel)
  | j + 25, hk => exact absurd hk (by omega)
theorem cok8 : ClOk 8 ccl8 := by
  refine ⟨fun w hw => ?_, ⟨fun k => nth .int ctl8 k, by decide +kernel, fun j hj => ?_⟩, by decide +kernel, rfl, gws_of (List.mem_of_getElem? (i := 638) (by decide +kernel)) (by decide +kernel), gws_of (List.mem_of_getElem? (i := 65) (by decide +kernel)) (by decide +kernel)⟩
  · obtain ⟨j, hj, rfl⟩ := List.mem_map.mp hw
    exact lay8 j (List.mem_range.mp hj)
  · match j, hj with
    | 0, _ => rfl
    | 1, _ => rfl
    | 2, _ => rfl
    | 3, _ => rfl
    | 4, _ => rfl
    | 5, _ => rfl
    | 6, _ => rfl
    | 7, _ => rfl
    | 8, _ => rfl
    | 9, _ => rfl
    | 10, _ => rfl
    | 11, _ => rfl
    | 12, _ => rfl
    | 13, _ => rfl
    | 14, _ => rfl
    | 15, _ => rfl
    | 16, _ => rfl
    | 17, _ => rfl
    | 18, _ => rfl
    | 19, _ => rfl
    | 20, _ => rfl
    | 21, _ => rfl
    | 22, _ => rfl
    | 23, _ => rfl
    | 24, _ => rfl
    | j + 25, hj => exact absurd (show j + 25 < 25 from hj) (by omega)
theorem tb_cl : ∀ ci r, scl[ci]? = some r → ClOk ci r := by
  intro ci r h
  match ci, h with
  | 0, h => cases h; exact cok0
  | 1, h => cases h; exact cok1
  | 2, h => cases h; exact cok2
  | 3, h => cases h; exact cok3
  | 4, h => cases h; exact cok4
  | 5, h => cases h; exact cok5
  | 6, h => cases h; exact cok6
  | 7, h => cases h; exact cok7
  | 8, h => cases h; exact cok8
  | j + 9, h => cases h
theorem fok_0_10 : FeOk 0 10 (0, 0, 3, true, 0) := ⟨ccl0, rfl, by decide, rfl, fun _ => rfl, gws_of (List.mem_of_getElem? (i := 285) (by decide +kernel)) (by decide +kernel), rfl, (.object "MeshRoom$History"), by decide +kernel, Or.inr (Or.inr (Or.inr ⟨rfl, Or.inl ⟨_, rfl⟩⟩))⟩
theorem fok_0_21 : FeOk 0 21 (0, 1, 3, true, 0) := ⟨ccl0, rfl, by decide, rfl, fun _ => rfl, gws_of (List.mem_of_getElem? (i := 286) (by decide +kernel)) (by decide +kernel), rfl, (.object "MeshRoom$Resolver"), by decide +kernel, Or.inr (Or.inr (Or.inr ⟨rfl, Or.inl ⟨_, rfl⟩⟩))⟩
theorem fok_0_27 : FeOk 0 27 (0, 2, 3, true, 0) := ⟨ccl0, rfl, by decide, rfl, fun _ => rfl, gws_of (List.mem_of_getElem? (i := 287) (by decide +kernel)) (by decide +kernel), rfl, (.array (.object "MeshRoom$Server")), by decide +kernel, Or.inr (Or.inr (Or.inr ⟨rfl, Or.inr ⟨_, rfl⟩⟩))⟩
theorem fok_0_34 : FeOk 0 34 (0, 3, 3, true, 0) := ⟨ccl0, rfl, by decide, rfl, fun _ => rfl, gws_of (List.mem_of_getElem? (i := 288) (by decide +kernel)) (by decide +kernel), rfl, (.object "MeshRoom$Wire"), by decide +kernel, Or.inr (Or.inr (Or.inr ⟨rfl, Or.inl ⟨_, rfl⟩⟩))⟩
theorem fok_0_41 : FeOk 0 41 (0, 4, 3, true, 0) := ⟨ccl0, rfl, by decide, rfl, fun _ => rfl, gws_of (List.mem_of_getElem? (i := 289) (by decide +kernel)) (by decide +kernel), rfl, (.object "MeshRoom$State"), by decide +kernel, Or.inr (Or.inr (Or.inr ⟨rfl, Or.inl ⟨_, rfl⟩⟩))⟩
theorem fok_0_61 : FeOk 0 61 (1, 5, 3, true, 0) := ⟨ccl1, rfl, by decide, rfl, fun _ => rfl, gws_of (List.mem_of_getElem? (i := 180) (by decide +kernel)) (by decide +kernel), rfl, (.object "MeshRoom$State"), by decide +kernel, Or.inr (Or.inr (Or.inr ⟨rfl, Or.inl ⟨_, rfl⟩⟩))⟩
theorem fok_0_64 : FeOk 0 64 (1, 7, 3, true, 0) := ⟨ccl1, rfl, by decide, rfl, fun _ => rfl, gws_of (List.mem_of_getElem? (i := 185) (by decide +kernel)) (by decide +kernel), rfl, (.object "MeshRoom$State"), by decide +kernel, Or.inr (Or.inr (Or.inr ⟨rfl, Or.inl ⟨_, rfl⟩⟩))⟩
theorem fok_0_81 : FeOk 0 81 (2, 1, 0, false, 0) := ⟨ccl2, rfl, by decide, rfl, fun _ => rfl, gws_of (List.mem_of_getElem? (i := 87) (by decide +kernel)) (by decide +kernel), rfl, .int, by decide +kernel, Or.inl ⟨rfl, rfl⟩⟩
theorem fok_0_89 : FeOk 0 89 (1, 4, 2, true, 0) := ⟨ccl1, rfl, by decide, rfl, fun _ => rfl, gws_of (List.mem_of_getElem? (i := 177) (by decide +kernel)) (by decide +kernel), rfl, .long, by decide +kernel, Or.inr (Or.inr (Or.inl ⟨rfl, rfl⟩))⟩
theorem fok_0_108 : FeOk 0 108 (1, 0, 0, true, 0) := ⟨ccl1, rfl, by decide, rfl, fun _ => rfl, gws_of (List.mem_of_getElem? (i := 163) (by decide +kernel)) (by decide +kernel), rfl, .int, by decide +kernel, Or.inl ⟨rfl, rfl⟩⟩
theorem fok_0_119 : FeOk 0 119 (0, 5, 0, false, 0) := ⟨ccl0, rfl, by decide, rfl, fun _ => rfl, gws_of (List.mem_of_getElem? (i := 290) (by decide +kernel)) (by decide +kernel), rfl, .int, by decide +kernel, Or.inl ⟨rfl, rfl⟩⟩
theorem fok_0_125 : FeOk 0 125 (5, 3, 0, false, 0) := ⟨ccl5, rfl, by decide, rfl, fun _ => rfl, gws_of (List.mem_of_getElem? (i := 275) (by decide +kernel)) (by decide +kernel), rfl, .int, by decide +kernel, Or.inl ⟨rfl, rfl⟩⟩
theorem fok_0_142 : FeOk 0 142 (3, 0, 0, true, 0) := ⟨ccl3, rfl, by decide, rfl, fun _ => rfl, gws_of (List.mem_of_getElem? (i := 498) (by decide +kernel)) (by decide +kernel), rfl, .int, by decide +kernel, Or.inl ⟨rfl, rfl⟩⟩
theorem fok_0_157 : FeOk 0 157 (3, 4, 1, false, 0) := ⟨ccl3, rfl, by decide, rfl, fun _ => rfl, gws_of (List.mem_of_getElem? (i := 506) (by decide +kernel)) (by decide +kernel), rfl, .boolean, by decide +kernel, Or.inr (Or.inl ⟨rfl, rfl⟩)⟩
theorem fok_0_161 : FeOk 0 161 (7, 1, 0, false, 0) := ⟨ccl7, rfl, by decide, rfl, fun _ => rfl, gws_of (List.mem_of_getElem? (i := 146) (by decide +kernel)) (by decide +kernel), rfl, .int, by decide +kernel, Or.inl ⟨rfl, rfl⟩⟩
theorem fok_0_186 : FeOk 0 186 (1, 1, 0, true, 0) := ⟨ccl1, rfl, by decide, rfl, fun _ => rfl, gws_of (List.mem_of_getElem? (i := 169) (by decide +kernel)) (by decide +kernel), rfl, .int, by decide +kernel, Or.inl ⟨rfl, rfl⟩⟩
theorem fok_0_187 : FeOk 0 187 (1, 2, 0, true, 0) := ⟨ccl1, rfl, by decide, rfl, fun _ => rfl, gws_of (List.mem_of_getElem? (i := 172) (by decide +kernel)) (by decide +kernel), rfl, .int, by decide +kernel, Or.inl ⟨rfl, rfl⟩⟩
theorem fok_0_190 : FeOk 0 190 (1, 3, 0, true, 0) := ⟨ccl1, rfl, by decide, rfl, fun _ => rfl, gws_of (List.mem_of_getElem? (i := 175) (by decide +kernel)) (by decide +kernel), rfl, .int, by decide +kernel, Or.inl ⟨rfl, rfl⟩⟩
theorem fok_0_193 : FeOk 0 193 (1, 8, 0, false, 0) := ⟨ccl1, rfl, by decide, rfl, fun _ => rfl, gws_of (List.mem_of_getElem? (i := 189) (by decide +kernel)) (by decide +kernel), rfl, .int, by decide +kernel, Or.inl ⟨rfl, rfl⟩⟩
theorem fok_0_196 : FeOk 0 196 (1, 9, 0, false, 0) := ⟨ccl1, rfl, by decide, rfl, fun _ => rfl, gws_of (List.mem_of_getElem? (i := 191) (by decide +kernel)) (by decide +kernel), rfl, .int, by decide +kernel, Or.inl ⟨rfl, rfl⟩⟩
theorem fok_0_199 : FeOk 0 199 (1, 10, 2, false, 0) := ⟨ccl1, rfl, by decide, rfl, fun _ => rfl, gws_of (List.mem_of_getElem? (i := 193) (by decide +kernel)) (by decide +kernel), rfl, .long, by decide +kernel, Or.inr (Or.inr (Or.inl ⟨rfl, rfl⟩))⟩
theorem fok_0_202 : FeOk 0 202 (1, 11, 2, false, 0) := ⟨ccl1, rfl, by decide, rfl, fun _ => rfl, gws_of (List.mem_of_getElem? (i := 197) (by decide +kernel)) (by decide +kernel), rfl, .long, by decide +kernel, Or.inr (Or.inr (Or.inl ⟨rfl, rfl⟩))⟩
theorem fok_0_205 : FeOk 0 205 (1, 12, 1, false, 0) := ⟨ccl1, rfl, by decide, rfl, fun _ => rfl, gws_of (List.mem_of_getElem? (i := 200) (by decide +kernel)) (by decide +kernel), rfl, .boolean, by decide +kernel, Or.inr (Or.inl ⟨rfl, rfl⟩)⟩
theorem fok_0_212 : FeOk 0 212 (1, 6, 3, true, 0) := ⟨ccl1, rfl, by decide, rfl, fun _ => rfl, gws_of (List.mem_of_getElem? (i := 183) (by decide +kernel)) (by decide +kernel), rfl, (.object "MeshRoom$State"), by decide +kernel, Or.inr (Or.inr (Or.inr ⟨rfl, Or.inl ⟨_, rfl⟩⟩))⟩
theorem fok_0_230 : FeOk 0 230 (5, 0, 2, false, 0) := ⟨ccl5, rfl, by decide, rfl, fun _ => rfl, gws_of (List.mem_of_getElem? (i := 271) (by decide +kernel)) (by decide +kernel), rfl, .long, by decide +kernel, Or.inr (Or.inr (Or.inl ⟨rfl, rfl⟩))⟩
theorem fok_0_241 : FeOk 0 241 (5, 1, 2, false, 0) := ⟨ccl5, rfl, by decide, rfl, fun _ => rfl, gws_of (List.mem_of_getElem? (i := 273) (by decide +kernel)) (by decide +kernel), rfl, .long, by decide +kernel, Or.inr (Or.inr (Or.inl ⟨rfl, rfl⟩))⟩
theorem fok_0_246 : FeOk 0 246 (3, 3, 0, true, 0) := ⟨ccl3, rfl, by decide, rfl, fun _ => rfl, gws_of (List.mem_of_getElem? (i := 504) (by decide +kernel)) (by decide +kernel), rfl, .int, by decide +kernel, Or.inl ⟨rfl, rfl⟩⟩
theorem fok_0_249 : FeOk 0 249 (3, 1, 0, true, 0) := ⟨ccl3, rfl, by decide, rfl, fun _ => rfl, gws_of (List.mem_of_getElem? (i := 500) (by decide +kernel)) (by decide +kernel), rfl, .int, by decide +kernel, Or.inl ⟨rfl, rfl⟩⟩
theorem fok_0_253 : FeOk 0 253 (3, 2, 0, true, 0) := ⟨ccl3, rfl, by decide, rfl, fun _ => rfl, gws_of (List.mem_of_getElem? (i := 502) (by decide +kernel)) (by decide +kernel), rfl, .int, by decide +kernel, Or.inl ⟨rfl, rfl⟩⟩
theorem fok_1_12 : FeOk 1 12 (1, 5, 3, true, 0) := ⟨ccl1, rfl, by decide, rfl, fun _ => rfl, gws_of (List.mem_of_getElem? (i := 179) (by decide +kernel)) (by decide +kernel), rfl, (.object "MeshRoom$State"), by decide +kernel, Or.inr (Or.inr (Or.inr ⟨rfl, Or.inl ⟨_, rfl⟩⟩))⟩
theorem fok_1_18 : FeOk 1 18 (1, 6, 3, true, 0) := ⟨ccl1, rfl, by decide, rfl, fun _ => rfl, gws_of (List.mem_of_getElem? (i := 181) (by decide +kernel)) (by decide +kernel), rfl, (.object "MeshRoom$State"), by decide +kernel, Or.inr (Or.inr (Or.inr ⟨rfl, Or.inl ⟨_, rfl⟩⟩))⟩
theorem fok_1_21 : FeOk 1 21 (1, 7, 3, true, 0) := ⟨ccl1, rfl, by decide, rfl, fun _ => rfl, gws_of (List.mem_of_getElem? (i := 184) (by decide +kernel)) (by decide +kernel), rfl, (.object "MeshRoom$State"), by decide +kernel, Or.inr (Or.inr (Or.inr ⟨rfl, Or.inl ⟨_, rfl⟩⟩))⟩
theorem fok_1_24 : FeOk 1 24 (1, 0, 0, true, 0) := ⟨ccl1, rfl, by decide, rfl, fun _ => rfl, gws_of (List.mem_of_getElem? (i := 162) (by decide +kernel)) (by decide +kernel), rfl, .int, by decide +kernel, Or.inl ⟨rfl, rfl⟩⟩
theorem fok_1_28 : FeOk 1 28 (1, 1, 0, true, 0) := ⟨ccl1, rfl, by decide, rfl, fun _ => rfl, gws_of (List.mem_of_getElem? (i := 167) (by decide +kernel)) (by decide +kernel), rfl, .int, by decide +kernel, Or.inl ⟨rfl, rfl⟩⟩
theorem fok_1_31 : FeOk 1 31 (1, 2, 0, true, 0) := ⟨ccl1, rfl, by decide, rfl, fun _ => rfl, gws_of (List.mem_of_getElem? (i := 170) (by decide +kernel)) (by decide +kernel), rfl, .int, by decide +kernel, Or.inl ⟨rfl, rfl⟩⟩
theorem fok_1_34 : FeOk 1 34 (1, 3, 0, true, 0) := ⟨ccl1, rfl, by decide, rfl, fun _ => rfl, gws_of (List.mem_of_getElem? (i := 173) (by decide +kernel)) (by decide +kernel), rfl, .int, by decide +kernel, Or.inl ⟨rfl, rfl⟩⟩
theorem fok_1_37 : FeOk 1 37 (1, 4, 2, true, 0) := ⟨ccl1, rfl, by decide, rfl, fun _ => rfl, gws_of (List.mem_of_getElem? (i := 176) (by decide +kernel)) (by decide +kernel), rfl, .long, by decide +kernel, Or.inr (Or.inr (Or.inl ⟨rfl, rfl⟩))⟩
theorem fok_1_49 : FeOk 1 49 (1, 8, 0, false, 0) := ⟨ccl1, rfl, by decide, rfl, fun _ => rfl, gws_of (List.mem_of_getElem? (i := 188) (by decide +kernel)) (by decide +kernel), rfl, .int, by decide +kernel, Or.inl ⟨rfl, rfl⟩⟩
theorem fok_1_60 : FeOk 1 60 (6, 0, 3, true, 0) := ⟨ccl6, rfl, by decide, rfl, fun _ => rfl, gws_of (List.mem_of_getElem? (i := 109) (by decide +kernel)) (by decide +kernel), rfl, (.array (.object "MeshRoom$Event")), by decide +kernel, Or.inr (Or.inr (Or.inr ⟨rfl, Or.inr ⟨_, rfl⟩⟩))⟩
theorem fok_1_64 : FeOk 1 64 (1, 10, 2, false, 0) := ⟨ccl1, rfl, by decide, rfl, fun _ => rfl, gws_of (List.mem_of_getElem? (i := 192) (by decide +kernel)) (by decide +kernel), rfl, .long, by decide +kernel, Or.inr (Or.inr (Or.inl ⟨rfl, rfl⟩))⟩
theorem fok_1_71 : FeOk 1 71 (1, 11, 2, false, 0) := ⟨ccl1, rfl, by decide, rfl, fun _ => rfl, gws_of (List.mem_of_getElem? (i := 195) (by decide +kernel)) (by decide +kernel), rfl, .long, by decide +kernel, Or.inr (Or.inr (Or.inl ⟨rfl, rfl⟩))⟩
theorem fok_1_74 : FeOk 1 74 (1, 12, 1, false, 0) := ⟨ccl1, rfl, by decide, rfl, fun _ => rfl, gws_of (List.mem_of_getElem? (i := 199) (by decide +kernel)) (by decide +kernel), rfl, .boolean, by decide +kernel, Or.inr (Or.inl ⟨rfl, rfl⟩)⟩
theorem fok_2_11 : FeOk 2 11 (2, 0, 3, true, 0) := ⟨ccl2, rfl, by decide, rfl, fun _ => rfl, gws_of (List.mem_of_getElem? (i := 85) (by decide +kernel)) (by decide +kernel), rfl, (.array (.object "MeshRoom$Event")), by decide +kernel, Or.inr (Or.inr (Or.inr ⟨rfl, Or.inr ⟨_, rfl⟩⟩))⟩
theorem fok_2_17 : FeOk 2 17 (2, 1, 0, false, 0) := ⟨ccl2, rfl, by decide, rfl, fun _ => rfl, gws_of (List.mem_of_getElem? (i := 86) (by decide +kernel)) (by decide +kernel), rfl, .int, by decide +kernel, Or.inl ⟨rfl, rfl⟩⟩
theorem fok_3_7 : FeOk 3 7 (3, 0, 0, true, 0) := ⟨ccl3, rfl, by decide, rfl, fun _ => rfl, gws_of (List.mem_of_getElem? (i := 497) (by decide +kernel)) (by decide +kernel), rfl, .int, by decide +kernel, Or.inl ⟨rfl, rfl⟩⟩
theorem fok_3_13 : FeOk 3 13 (3, 1, 0, true, 0) := ⟨ccl3, rfl, by decide, rfl, fun _ => rfl, gws_of (List.mem_of_getElem? (i := 499) (by decide +kernel)) (by decide +kernel), rfl, .int, by decide +kernel, Or.inl ⟨rfl, rfl⟩⟩
theorem fok_3_16 : FeOk 3 16 (3, 2, 0, true, 0) := ⟨ccl3, rfl, by decide, rfl, fun _ => rfl, gws_of (List.mem_of_getElem? (i := 501) (by decide +kernel)) (by decide +kernel), rfl, .int, by decide +kernel, Or.inl ⟨rfl, rfl⟩⟩
theorem fok_3_19 : FeOk 3 19 (3, 3, 0, true, 0) := ⟨ccl3, rfl, by decide, rfl, fun _ => rfl, gws_of (List.mem_of_getElem? (i := 503) (by decide +kernel)) (by decide +kernel), rfl, .int, by decide +kernel, Or.inl ⟨rfl, rfl⟩⟩
theorem fok_3_22 : FeOk 3 22 (3, 4, 1, false, 0) := ⟨ccl3, rfl, by decide, rfl, fun _ => rfl, gws_of (List.mem_of_getElem? (i := 505) (by decide +kernel)) (by decide +kernel), rfl, .boolean, by decide +kernel, Or.inr (Or.inl ⟨rfl, rfl⟩)⟩
theorem fok_4_9 : FeOk 4 9 (4, 1, 3, true, 0) := ⟨ccl4, rfl, by decide, rfl, fun _ => rfl, gws_of (List.mem_of_getElem? (i := 115) (by decide +kernel)) (by decide +kernel), rfl, (.array .boolean), by decide +kernel, Or.inr (Or.inr (Or.inr ⟨rfl, Or.inr ⟨_, rfl⟩⟩))⟩
theorem fok_4_18 : FeOk 4 18 (4, 2, 3, true, 0) := ⟨ccl4, rfl, by decide, rfl, fun _ => rfl, gws_of (List.mem_of_getElem? (i := 116) (by decide +kernel)) (by decide +kernel), rfl, (.object "MeshRoom$State"), by decide +kernel, Or.inr (Or.inr (Or.inr ⟨rfl, Or.inl ⟨_, rfl⟩⟩))⟩
theorem fok_4_22 : FeOk 4 22 (4, 3, 3, true, 0) := ⟨ccl4, rfl, by decide, rfl, fun _ => rfl, gws_of (List.mem_of_getElem? (i := 117) (by decide +kernel)) (by decide +kernel), rfl, (.object "MeshRoom$State"), by decide +kernel, Or.inr (Or.inr (Or.inr ⟨rfl, Or.inl ⟨_, rfl⟩⟩))⟩
theorem fok_4_25 : FeOk 4 25 (4, 4, 3, true, 0) := ⟨ccl4, rfl, by decide, rfl, fun _ => rfl, gws_of (List.mem_of_getElem? (i := 118) (by decide +kernel)) (by decide +kernel), rfl, (.array .int), by decide +kernel, Or.inr (Or.inr (Or.inr ⟨rfl, Or.inr ⟨_, rfl⟩⟩))⟩
theorem fok_4_29 : FeOk 4 29 (4, 5, 3, true, 0) := ⟨ccl4, rfl, by decide, rfl, fun _ => rfl, gws_of (List.mem_of_getElem? (i := 119) (by decide +kernel)) (by decide +kernel), rfl, (.array .int), by decide +kernel, Or.inr (Or.inr (Or.inr ⟨rfl, Or.inr ⟨_, rfl⟩⟩))⟩
theorem fok_4_32 : FeOk 4 32 (4, 0, 3, true, 0) := ⟨ccl4, rfl, by decide, rfl, fun _ => rfl, gws_of (List.mem_of_getElem? (i := 114) (by decide +kernel)) (by decide +kernel), rfl, (.object "MeshRoom$History"), by decide +kernel, Or.inr (Or.inr (Or.inr ⟨rfl, Or.inl ⟨_, rfl⟩⟩))⟩
theorem fok_4_70 : FeOk 4 70 (6, 0, 3, true, 0) := ⟨ccl6, rfl, by decide, rfl, fun _ => rfl, gws_of (List.mem_of_getElem? (i := 108) (by decide +kernel)) (by decide +kernel), rfl, (.array (.object "MeshRoom$Event")), by decide +kernel, Or.inr (Or.inr (Or.inr ⟨rfl, Or.inr ⟨_, rfl⟩⟩))⟩
theorem fok_4_74 : FeOk 4 74 (2, 1, 0, false, 0) := ⟨ccl2, rfl, by decide, rfl, fun _ => rfl, gws_of (List.mem_of_getElem? (i := 88) (by decide +kernel)) (by decide +kernel), rfl, .int, by decide +kernel, Or.inl ⟨rfl, rfl⟩⟩
theorem fok_4_84 : FeOk 4 84 (1, 7, 3, true, 0) := ⟨ccl1, rfl, by decide, rfl, fun _ => rfl, gws_of (List.mem_of_getElem? (i := 186) (by decide +kernel)) (by decide +kernel), rfl, (.object "MeshRoom$State"), by decide +kernel, Or.inr (Or.inr (Or.inr ⟨rfl, Or.inl ⟨_, rfl⟩⟩))⟩
theorem fok_4_100 : FeOk 4 100 (1, 0, 0, true, 0) := ⟨ccl1, rfl, by decide, rfl, fun _ => rfl, gws_of (List.mem_of_getElem? (i := 166) (by decide +kernel)) (by decide +kernel), rfl, .int, by decide +kernel, Or.inl ⟨rfl, rfl⟩⟩
theorem fok_4_111 : FeOk 4 111 (1, 11, 2, false, 0) := ⟨ccl1, rfl, by decide, rfl, fun _ => rfl, gws_of (List.mem_of_getElem? (i := 194) (by decide +kernel)) (by decide +kernel), rfl, .long, by decide +kernel, Or.inr (Or.inr (Or.inl ⟨rfl, rfl⟩))⟩
theorem fok_4_123 : FeOk 4 123 (1, 9, 0, false, 0) := ⟨ccl1, rfl, by decide, rfl, fun _ => rfl, gws_of (List.mem_of_getElem? (i := 190) (by decide +kernel)) (by decide +kernel), rfl, .int, by decide +kernel, Or.inl ⟨rfl, rfl⟩⟩
theorem fok_4_129 : FeOk 4 129 (1, 6, 3, true, 0) := ⟨ccl1, rfl, by decide, rfl, fun _ => rfl, gws_of (List.mem_of_getElem? (i := 182) (by decide +kernel)) (by decide +kernel), rfl, (.object "MeshRoom$State"), by decide +kernel, Or.inr (Or.inr (Or.inr ⟨rfl, Or.inl ⟨_, rfl⟩⟩))⟩
theorem fok_5_9 : FeOk 5 9 (5, 1, 2, false, 0) := ⟨ccl5, rfl, by decide, rfl, fun _ => rfl, gws_of (List.mem_of_getElem? (i := 272) (by decide +kernel)) (by decide +kernel), rfl, .long, by decide +kernel, Or.inr (Or.inr (Or.inl ⟨rfl, rfl⟩))⟩
theorem fok_5_19 : FeOk 5 19 (5, 2, 2, false, 0) := ⟨ccl5, rfl, by decide, rfl, fun _ => rfl, gws_of (List.mem_of_getElem? (i := 274) (by decide +kernel)) (by decide +kernel), rfl, .long, by decide +kernel, Or.inr (Or.inr (Or.inl ⟨rfl, rfl⟩))⟩
theorem fok_5_22 : FeOk 5 22 (5, 0, 2, false, 0) := ⟨ccl5, rfl, by decide, rfl, fun _ => rfl, gws_of (List.mem_of_getElem? (i := 270) (by decide +kernel)) (by decide +kernel), rfl, .long, by decide +kernel, Or.inr (Or.inr (Or.inl ⟨rfl, rfl⟩))⟩
theorem fok_5_27 : FeOk 5 27 (1, 0, 0, true, 0) := ⟨ccl1, rfl, by decide, rfl, fun _ => rfl, gws_of (List.mem_of_getElem? (i := 165) (by decide +kernel)) (by decide +kernel), rfl, .int, by decide +kernel, Or.inl ⟨rfl, rfl⟩⟩
theorem fok_5_37 : FeOk 5 37 (1, 12, 1, false, 0) := ⟨ccl1, rfl, by decide, rfl, fun _ => rfl, gws_of (List.mem_of_getElem? (i := 198) (by decide +kernel)) (by decide +kernel), rfl, .boolean, by decide +kernel, Or.inr (Or.inl ⟨rfl, rfl⟩)⟩
theorem fok_6_11 : FeOk 6 11 (6, 0, 3, true, 0) := ⟨ccl6, rfl, by decide, rfl, fun _ => rfl, gws_of (List.mem_of_getElem? (i := 107) (by decide +kernel)) (by decide +kernel), rfl, (.array (.object "MeshRoom$Event")), by decide +kernel, Or.inr (Or.inr (Or.inr ⟨rfl, Or.inr ⟨_, rfl⟩⟩))⟩
theorem fok_6_21 : FeOk 6 21 (1, 0, 0, true, 0) := ⟨ccl1, rfl, by decide, rfl, fun _ => rfl, gws_of (List.mem_of_getElem? (i := 164) (by decide +kernel)) (by decide +kernel), rfl, .int, by decide +kernel, Or.inl ⟨rfl, rfl⟩⟩
theorem fok_6_25 : FeOk 6 25 (1, 1, 0, true, 0) := ⟨ccl1, rfl, by decide, rfl, fun _ => rfl, gws_of (List.mem_of_getElem? (i := 168) (by decide +kernel)) (by decide +kernel), rfl, .int, by decide +kernel, Or.inl ⟨rfl, rfl⟩⟩
theorem fok_6_28 : FeOk 6 28 (1, 8, 0, false, 0) := ⟨ccl1, rfl, by decide, rfl, fun _ => rfl, gws_of (List.mem_of_getElem? (i := 187) (by decide +kernel)) (by decide +kernel), rfl, .int, by decide +kernel, Or.inl ⟨rfl, rfl⟩⟩
theorem fok_6_31 : FeOk 6 31 (1, 2, 0, true, 0) := ⟨ccl1, rfl, by decide, rfl, fun _ => rfl, gws_of (List.mem_of_getElem? (i := 171) (by decide +kernel)) (by decide +kernel), rfl, .int, by decide +kernel, Or.inl ⟨rfl, rfl⟩⟩
theorem fok_6_38 : FeOk 6 38 (1, 11, 2, false, 0) := ⟨ccl1, rfl, by decide, rfl, fun _ => rfl, gws_of (List.mem_of_getElem? (i := 196) (by decide +kernel)) (by decide +kernel), rfl, .long, by decide +kernel, Or.inr (Or.inr (Or.inl ⟨rfl, rfl⟩))⟩
theorem fok_6_52 : FeOk 6 52 (1, 3, 0, true, 0) := ⟨ccl1, rfl, by decide, rfl, fun _ => rfl, gws_of (List.mem_of_getElem? (i := 174) (by decide +kernel)) (by decide +kernel), rfl, .int, by decide +kernel, Or.inl ⟨rfl, rfl⟩⟩
theorem fok_6_76 : FeOk 6 76 (1, 4, 2, true, 0) := ⟨ccl1, rfl, by decide, rfl, fun _ => rfl, gws_of (List.mem_of_getElem? (i := 178) (by decide +kernel)) (by decide +kernel), rfl, .long, by decide +kernel, Or.inr (Or.inr (Or.inl ⟨rfl, rfl⟩))⟩
theorem fok_7_11 : FeOk 7 11 (7, 0, 3, true, 0) := ⟨ccl7, rfl, by decide, rfl, fun _ => rfl, gws_of (List.mem_of_getElem? (i := 144) (by decide +kernel)) (by decide +kernel), rfl, (.array (.object "MeshRoom$Message")), by decide +kernel, Or.inr (Or.inr (Or.inr ⟨rfl, Or.inr ⟨_, rfl⟩⟩))⟩
theorem fok_7_17 : FeOk 7 17 (7, 1, 0, false, 0) := ⟨ccl7, rfl, by decide, rfl, fun _ => rfl, gws_of (List.mem_of_getElem? (i := 145) (by decide +kernel)) (by decide +kernel), rfl, .int, by decide +kernel, Or.inl ⟨rfl, rfl⟩⟩
theorem fok_8_7 : FeOk 8 7 (8, 1, 3, true, 0) := ⟨ccl8, rfl, by decide, rfl, fun _ => rfl, gws_of (List.mem_of_getElem? (i := 645) (by decide +kernel)) (by decide +kernel), rfl, (.array .int), by decide +kernel, Or.inr (Or.inr (Or.inr ⟨rfl, Or.inr ⟨_, rfl⟩⟩))⟩
theorem fok_8_13 : FeOk 8 13 (8, 3, 3, true, 0) := ⟨ccl8, rfl, by decide, rfl, fun _ => rfl, gws_of (List.mem_of_getElem? (i := 647) (by decide +kernel)) (by decide +kernel), rfl, (.array .int), by decide +kernel, Or.inr (Or.inr (Or.inr ⟨rfl, Or.inr ⟨_, rfl⟩⟩))⟩
theorem fok_8_16 : FeOk 8 16 (8, 4, 3, true, 0) := ⟨ccl8, rfl, by decide, rfl, fun _ => rfl, gws_of (List.mem_of_getElem? (i := 648) (by decide +kernel)) (by decide +kernel), rfl, (.array .int), by decide +kernel, Or.inr (Or.inr (Or.inr ⟨rfl, Or.inr ⟨_, rfl⟩⟩))⟩
theorem fok_8_19 : FeOk 8 19 (8, 5, 3, true, 0) := ⟨ccl8, rfl, by decide, rfl, fun _ => rfl, gws_of (List.mem_of_getElem? (i := 649) (by decide +kernel)) (by decide +kernel), rfl, (.array .int), by decide +kernel, Or.inr (Or.inr (Or.inr ⟨rfl, Or.inr ⟨_, rfl⟩⟩))⟩
theorem fok_8_22 : FeOk 8 22 (8, 6, 3, true, 0) := ⟨ccl8, rfl, by decide, rfl, fun _ => rfl, gws_of (List.mem_of_getElem? (i := 650) (by decide +kernel)) (by decide +kernel), rfl, (.array .int), by decide +kernel, Or.inr (Or.inr (Or.inr ⟨rfl, Or.inr ⟨_, rfl⟩⟩))⟩
theorem fok_8_25 : FeOk 8 25 (8, 7, 3, true, 0) := ⟨ccl8, rfl, by decide, rfl, fun _ => rfl, gws_of (List.mem_of_getElem? (i := 651) (by decide +kernel)) (by decide +kernel), rfl, (.array .int), by decide +kernel, Or.inr (Or.inr (Or.inr ⟨rfl, Or.inr ⟨_, rfl⟩⟩))⟩
theorem fok_8_28 : FeOk 8 28 (8, 8, 3, true, 0) := ⟨ccl8, rfl, by decide, rfl, fun _ => rfl, gws_of (List.mem_of_getElem? (i := 652) (by decide +kernel)) (by decide +kernel), rfl, (.array .long), by decide +kernel, Or.inr (Or.inr (Or.inr ⟨rfl, Or.inr ⟨_, rfl⟩⟩))⟩
theorem fok_8_32 : FeOk 8 32 (8, 9, 3, true, 0) := ⟨ccl8, rfl, by decide, rfl, fun _ => rfl, gws_of (List.mem_of_getElem? (i := 653) (by decide +kernel)) (by decide +kernel), rfl, (.array .long), by decide +kernel, Or.inr (Or.inr (Or.inr ⟨rfl, Or.inr ⟨_, rfl⟩⟩))⟩
theorem fok_8_35 : FeOk 8 35 (8, 10, 3, true, 0) := ⟨ccl8, rfl, by decide, rfl, fun _ => rfl, gws_of (List.mem_of_getElem? (i := 654) (by decide +kernel)) (by decide +kernel), rfl, (.array .long), by decide +kernel, Or.inr (Or.inr (Or.inr ⟨rfl, Or.inr ⟨_, rfl⟩⟩))⟩
theorem fok_8_38 : FeOk 8 38 (8, 11, 3, true, 0) := ⟨ccl8, rfl, by decide, rfl, fun _ => rfl, gws_of (List.mem_of_getElem? (i := 655) (by decide +kernel)) (by decide +kernel), rfl, (.array .boolean), by decide +kernel, Or.inr (Or.inr (Or.inr ⟨rfl, Or.inr ⟨_, rfl⟩⟩))⟩
theorem fok_8_42 : FeOk 8 42 (8, 12, 3, true, 0) := ⟨ccl8, rfl, by decide, rfl, fun _ => rfl, gws_of (List.mem_of_getElem? (i := 656) (by decide +kernel)) (by decide +kernel), rfl, (.array .int), by decide +kernel, Or.inr (Or.inr (Or.inr ⟨rfl, Or.inr ⟨_, rfl⟩⟩))⟩
theorem fok_8_45 : FeOk 8 45 (8, 13, 3, true, 0) := ⟨ccl8, rfl, by decide, rfl, fun _ => rfl, gws_of (List.mem_of_getElem? (i := 657) (by decide +kernel)) (by decide +kernel), rfl, (.array .int), by decide +kernel, Or.inr (Or.inr (Or.inr ⟨rfl, Or.inr ⟨_, rfl⟩⟩))⟩
theorem fok_8_48 : FeOk 8 48 (8, 14, 3, true, 0) := ⟨ccl8, rfl, by decide, rfl, fun _ => rfl, gws_of (List.mem_of_getElem? (i := 658) (by decide +kernel)) (by decide +kernel), rfl, (.array .int), by decide +kernel, Or.inr (Or.inr (Or.inr ⟨rfl, Or.inr ⟨_, rfl⟩⟩))⟩
theorem fok_8_51 : FeOk 8 51 (8, 15, 3, true, 0) := ⟨ccl8, rfl, by decide, rfl, fun _ => rfl, gws_of (List.mem_of_getElem? (i := 659) (by decide +kernel)) (by decide +kernel), rfl, (.array .int), by decide +kernel, Or.inr (Or.inr (Or.inr ⟨rfl, Or.inr ⟨_, rfl⟩⟩))⟩
theorem fok_8_54 : FeOk 8 54 (8, 16, 3, true, 0) := ⟨ccl8, rfl, by decide, rfl, fun _ => rfl, gws_of (List.mem_of_getElem? (i := 660) (by decide +kernel)) (by decide +kernel), rfl, (.array .boolean), by decide +kernel, Or.inr (Or.inr (Or.inr ⟨rfl, Or.inr ⟨_, rfl⟩⟩))⟩
theorem fok_8_57 : FeOk 8 57 (8, 17, 3, true, 0) := ⟨ccl8, rfl, by decide, rfl, fun _ => rfl, gws_of (List.mem_of_getElem? (i := 661) (by decide +kernel)) (by decide +kernel), rfl, (.array .int), by decide +kernel, Or.inr (Or.inr (Or.inr ⟨rfl, Or.inr ⟨_, rfl⟩⟩))⟩
theorem fok_8_60 : FeOk 8 60 (8, 18, 3, true, 0) := ⟨ccl8, rfl, by decide, rfl, fun _ => rfl, gws_of (List.mem_of_getElem? (i := 662) (by decide +kernel)) (by decide +kernel), rfl, (.array .int), by decide +kernel, Or.inr (Or.inr (Or.inr ⟨rfl, Or.inr ⟨_, rfl⟩⟩))⟩
theorem fok_8_63 : FeOk 8 63 (8, 20, 3, true, 0) := ⟨ccl8, rfl, by decide, rfl, fun _ => rfl, gws_of (List.mem_of_getElem? (i := 664) (by decide +kernel)) (by decide +kernel), rfl, (.array .int), by decide +kernel, Or.inr (Or.inr (Or.inr ⟨rfl, Or.inr ⟨_, rfl⟩⟩))⟩
theorem fok_8_66 : FeOk 8 66 (8, 21, 3, true, 0) := ⟨ccl8, rfl, by decide, rfl, fun _ => rfl, gws_of (List.mem_of_getElem? (i := 665) (by decide +kernel)) (by decide +kernel), rfl, (.array .int), by decide +kernel, Or.inr (Or.inr (Or.inr ⟨rfl, Or.inr ⟨_, rfl⟩⟩))⟩
theorem fok_8_69 : FeOk 8 69 (8, 22, 3, true, 0) := ⟨ccl8, rfl, by decide, rfl, fun _ => rfl, gws_of (List.mem_of_getElem? (i := 666) (by decide +kernel)) (by decide +kernel), rfl, (.array .int), by decide +kernel, Or.inr (Or.inr (Or.inr ⟨rfl, Or.inr ⟨_, rfl⟩⟩))⟩
theorem fok_8_72 : FeOk 8 72 (8, 23, 3, true, 0) := ⟨ccl8, rfl, by decide, rfl, fun _ => rfl, gws_of (List.mem_of_getElem? (i := 667) (by decide +kernel)) (by decide +kernel), rfl, (.array .int), by decide +kernel, Or.inr (Or.inr (Or.inr ⟨rfl, Or.inr ⟨_, rfl⟩⟩))⟩
theorem fok_8_75 : FeOk 8 75 (8, 24, 3, true, 0) := ⟨ccl8, rfl, by decide, rfl, fun _ => rfl, gws_of (List.mem_of_getElem? (i := 668) (by decide +kernel)) (by decide +kernel), rfl, (.array .boolean), by decide +kernel, Or.inr (Or.inr (Or.inr ⟨rfl, Or.inr ⟨_, rfl⟩⟩))⟩
theorem fok_8_78 : FeOk 8 78 (8, 2, 0, false, 0) := ⟨ccl8, rfl, by decide, rfl, fun _ => rfl, gws_of (List.mem_of_getElem? (i := 646) (by decide +kernel)) (by decide +kernel), rfl, .int, by decide +kernel, Or.inl ⟨rfl, rfl⟩⟩
theorem fok_8_158 : FeOk 8 158 (8, 0, 0, false, 0) := ⟨ccl8, rfl, by decide, rfl, fun _ => rfl, gws_of (List.mem_of_getElem? (i := 644) (by decide +kernel)) (by decide +kernel), rfl, .int, by decide +kernel, Or.inl ⟨rfl, rfl⟩⟩
theorem fok_8_191 : FeOk 8 191 (8, 19, 0, false, 0) := ⟨ccl8, rfl, by decide, rfl, fun _ => rfl, gws_of (List.mem_of_getElem? (i := 663) (by decide +kernel)) (by decide +kernel), rfl, .int, by decide +kernel, Or.inl ⟨rfl, rfl⟩⟩
def fq (a b : Option Fe) : Bool := match a, b with
  | none, none => true
  | some x, some y => Nat.beq x.1 y.1 && (Nat.beq x.2.1 y.2.1 && (Nat.beq x.2.2.1 y.2.2.1 && ((x.2.2.2.1 == y.2.2.2.1) && Nat.beq x.2.2.2.2 y.2.2.2.2)))
  | _, _ => false
theorem fq_eq {a b : Option Fe} (h : fq a b = true) : a = b := by
  match a, b, h with
  | none, none, _ => rfl
  | some (a1, a2, a3, a4, a5), some (b1, b2, b3, b4, b5), h =>
    replace h : (Nat.beq a1 b1 && (Nat.beq a2 b2 && (Nat.beq a3 b3 && ((a4 == b4) && Nat.beq a5 b5)))) = true := h
    rw [Bool.and_eq_true, Bool.and_eq_true, Bool.and_eq_true, Bool.and_eq_true] at h
    obtain ⟨h1, h2, h3, h4, h5⟩ := h
    have e1 := Nat.eq_of_beq_eq_true h1
    have e2 := Nat.eq_of_beq_eq_true h2
    have e3 := Nat.eq_of_beq_eq_true h3
    have e4 := eq_of_beq h4
    have e5 := Nat.eq_of_beq_eq_true h5
    rw [e1, e2, e3, e4, e5]
theorem fq_all : ∀ o, o < 12 → ∀ x, x < 512 → fq (fle o x) (lk2 (nth [] flel o) x) = true := by decide +kernel
theorem tb_fe : ∀ o x e, fle o x = some e → FeOk o x e := by
  intro o x e h
  have h := pl_of (f := fle) (l := flel) (fun o x q => by
    unfold fle
    rw [q]
    rfl) (fun o ho x hx => fq_eq (fq_all o ho x hx)) h
  match o, h with
  | 0, h =>
    have h : (x, e) ∈ nth [] flel 0 := h
    simp only [flel, nth, List.mem_cons, Prod.mk.injEq, List.not_mem_nil, or_false] at h
    rcases h with ⟨rfl, rfl⟩ | ⟨rfl, rfl⟩ | ⟨rfl, rfl⟩ | ⟨rfl, rfl⟩ | ⟨rfl, rfl⟩ | ⟨rfl, rfl⟩ | ⟨rfl, rfl⟩ | ⟨rfl, rfl⟩ | ⟨rfl, rfl⟩ | ⟨rfl, rfl⟩ | ⟨rfl, rfl⟩ | ⟨rfl, rfl⟩ | ⟨rfl, rfl⟩ | ⟨rfl, rfl⟩ | ⟨rfl, rfl⟩ | ⟨rfl, rfl⟩ | ⟨rfl, rfl⟩ | ⟨rfl, rfl⟩ | ⟨rfl, rfl⟩ | ⟨rfl, rfl⟩ | ⟨rfl, rfl⟩ | ⟨rfl, rfl⟩ | ⟨rfl, rfl⟩ | ⟨rfl, rfl⟩ | ⟨rfl, rfl⟩ | ⟨rfl, rfl⟩ | ⟨rfl, rfl⟩ | ⟨rfl, rfl⟩ | ⟨rfl, rfl⟩
    · exact fok_0_10
    · exact fok_0_21
    · exact fok_0_27
    · exact fok_0_34
    · exact fok_0_41
    · exact fok_0_61
    · exact fok_0_64
    · exact fok_0_81
    · exact fok_0_89
    · exact fok_0_108
    · exact fok_0_119
    · exact fok_0_125
    · exact fok_0_142
    · exact fok_0_157
    · exact fok_0_161
    · exact fok_0_186
    · exact fok_0_187
    · exact fok_0_190
    · exact fok_0_193
    · exact fok_0_196
    · exact fok_0_199
    · exact fok_0_202
    · exact fok_0_205
    · exact fok_0_212
    · exact fok_0_230
    · exact fok_0_241
    · exact fok_0_246
    · exact fok_0_249
    · exact fok_0_253
  | 1, h =>
    have h : (x, e) ∈ nth [] flel 1 := h
    simp only [flel, nth, List.mem_cons, Prod.mk.injEq, List.not_mem_nil, or_false] at h
    rcases h with ⟨rfl, rfl⟩ | ⟨rfl, rfl⟩ | ⟨rfl, rfl⟩ | ⟨rfl, rfl⟩ | ⟨rfl, rfl⟩ | ⟨rfl, rfl⟩ | ⟨rfl, rfl⟩ | ⟨rfl, rfl⟩ | ⟨rfl, rfl⟩ | ⟨rfl, rfl⟩ | ⟨rfl, rfl⟩ | ⟨rfl, rfl⟩ | ⟨rfl, rfl⟩
    · exact fok_1_12
    · exact fok_1_18
    · exact fok_1_21
    · exact fok_1_24
    · exact fok_1_28
    · exact fok_1_31
    · exact fok_1_34
    · exact fok_1_37
    · exact fok_1_49
    · exact fok_1_60
    · exact fok_1_64
    · exact fok_1_71
    · exact fok_1_74
  | 2, h =>
    have h : (x, e) ∈ nth [] flel 2 := h
    simp only [flel, nth, List.mem_cons, Prod.mk.injEq, List.not_mem_nil, or_false] at h
    rcases h with ⟨rfl, rfl⟩ | ⟨rfl, rfl⟩
    · exact fok_2_11
    · exact fok_2_17
  | 3, h =>
    have h : (x, e) ∈ nth [] flel 3 := h
    simp only [flel, nth, List.mem_cons, Prod.mk.injEq, List.not_mem_nil, or_false] at h
    rcases h with ⟨rfl, rfl⟩ | ⟨rfl, rfl⟩ | ⟨rfl, rfl⟩ | ⟨rfl, rfl⟩ | ⟨rfl, rfl⟩
    · exact fok_3_7
    · exact fok_3_13
    · exact fok_3_16
    · exact fok_3_19
    · exact fok_3_22
  | 4, h =>
    have h : (x, e) ∈ nth [] flel 4 := h
    simp only [flel, nth, List.mem_cons, Prod.mk.injEq, List.not_mem_nil, or_false] at h
    rcases h with ⟨rfl, rfl⟩ | ⟨rfl, rfl⟩ | ⟨rfl, rfl⟩ | ⟨rfl, rfl⟩ | ⟨rfl, rfl⟩ | ⟨rfl, rfl⟩ | ⟨rfl, rfl⟩ | ⟨rfl, rfl⟩ | ⟨rfl, rfl⟩ | ⟨rfl, rfl⟩ | ⟨rfl, rfl⟩ | ⟨rfl, rfl⟩ | ⟨rfl, rfl⟩
    · exact fok_4_9
    · exact fok_4_18
    · exact fok_4_22
    · exact fok_4_25
    · exact fok_4_29
    · exact fok_4_32
    · exact fok_4_70
    · exact fok_4_74
    · exact fok_4_84
    · exact fok_4_100
    · exact fok_4_111
    · exact fok_4_123
    · exact fok_4_129
  | 5, h =>
    have h : (x, e) ∈ nth [] flel 5 := h
    simp only [flel, nth, List.mem_cons, Prod.mk.injEq, List.not_mem_nil, or_false] at h
    rcases h with ⟨rfl, rfl⟩ | ⟨rfl, rfl⟩ | ⟨rfl, rfl⟩ | ⟨rfl, rfl⟩ | ⟨rfl, rfl⟩
    · exact fok_5_9
    · exact fok_5_19
    · exact fok_5_22
    · exact fok_5_27
    · exact fok_5_37
  | 6, h =>
    have h : (x, e) ∈ nth [] flel 6 := h
    simp only [flel, nth, List.mem_cons, Prod.mk.injEq, List.not_mem_nil, or_false] at h
    rcases h with ⟨rfl, rfl⟩ | ⟨rfl, rfl⟩ | ⟨rfl, rfl⟩ | ⟨rfl, rfl⟩ | ⟨rfl, rfl⟩ | ⟨rfl, rfl⟩ | ⟨rfl, rfl⟩ | ⟨rfl, rfl⟩
    · exact fok_6_11
    · exact fok_6_21
    · exact fok_6_25
    · exact fok_6_28
    · exact fok_6_31
    · exact fok_6_38
    · exact fok_6_52
    · exact fok_6_76
  | 7, h =>
    have h : (x, e) ∈ nth [] flel 7 := h
    simp only [flel, nth, List.mem_cons, Prod.mk.injEq, List.not_mem_nil, or_false] at h
    rcases h with ⟨rfl, rfl⟩ | ⟨rfl, rfl⟩
    · exact fok_7_11
    · exact fok_7_17
  | 8, h =>
    have h : (x, e) ∈ nth [] flel 8 := h
    simp only [flel, nth, List.mem_cons, Prod.mk.injEq, List.not_mem_nil, or_false] at h
    rcases h with ⟨rfl, rfl⟩ | ⟨rfl, rfl⟩ | ⟨rfl, rfl⟩ | ⟨rfl, rfl⟩ | ⟨rfl, rfl⟩ | ⟨rfl, rfl⟩ | ⟨rfl, rfl⟩ | ⟨rfl, rfl⟩ | ⟨rfl, rfl⟩ | ⟨rfl, rfl⟩ | ⟨rfl, rfl⟩ | ⟨rfl, rfl⟩ | ⟨rfl, rfl⟩ | ⟨rfl, rfl⟩ | ⟨rfl, rfl⟩ | ⟨rfl, rfl⟩ | ⟨rfl, rfl⟩ | ⟨rfl, rfl⟩ | ⟨rfl, rfl⟩ | ⟨rfl, rfl⟩ | ⟨rfl, rfl⟩ | ⟨rfl, rfl⟩ | ⟨rfl, rfl⟩ | ⟨rfl, rfl⟩ | ⟨rfl, rfl⟩
    · exact fok_8_7
    · exact fok_8_13
    · exact fok_8_16
    · exact fok_8_19
    · exact fok_8_22
    · exact fok_8_25
    · exact fok_8_28
    · exact fok_8_32
    · exact fok_8_35
    · exact fok_8_38
    · exact fok_8_42
    · exact fok_8_45
    · exact fok_8_48
    · exact fok_8_51
    · exact fok_8_54
    · exact fok_8_57
    · exact fok_8_60
    · exact fok_8_63
    · exact fok_8_66
    · exact fok_8_69
    · exact fok_8_72
    · exact fok_8_75
    · exact fok_8_78
    · exact fok_8_158
    · exact fok_8_191
  | 9, h => cases h
  | 10, h => cases h
  | 11, h => cases h
  | j + 12, h => cases h
theorem cd0 : CdOk 0 := cd_of tRm_init (n := 163) (fun _ => rfl) (by decide +kernel)
set_option maxRecDepth 100000 in
theorem mo0 : MtOk 0 := ⟨rfl, gws_of (List.mem_of_getElem? (i := 73) (by first | rfl | decide +kernel)) (by decide +kernel), by decide +kernel, rfl, ⟨by decide, by decide, by decide +kernel⟩, Or.inl ⟨rfl, rfl⟩, gws_of (List.mem_of_getElem? (i := 58) (by decide +kernel)) (by decide +kernel), fun _ => rfl, cd0⟩
theorem cd1 : CdOk 1 := cd_of tRm_act (n := 97) (fun _ => rfl) (by decide +kernel)
set_option maxRecDepth 100000 in
theorem mo1 : MtOk 1 := ⟨rfl, gws_of (List.mem_of_getElem? (i := 307) (by first | rfl | decide +kernel)) (by decide +kernel), by decide +kernel, rfl, ⟨by decide, by decide, by decide +kernel⟩, Or.inr (Or.inl ⟨rfl, rfl⟩), gws_of (List.mem_of_getElem? (i := 58) (by decide +kernel)) (by decide +kernel), (fun h => by cases h), cd1⟩
theorem cd2 : CdOk 2 := cd_of tRm_branch (n := 104) (fun _ => rfl) (by decide +kernel)
set_option maxRecDepth 100000 in
theorem mo2 : MtOk 2 := ⟨rfl, gws_of (List.mem_of_getElem? (i := 521) (by first | rfl | decide +kernel)) (by decide +kernel), by decide +kernel, rfl, ⟨by decide, by decide, by decide +kernel⟩, Or.inr (Or.inl ⟨rfl, rfl⟩), gws_of (List.mem_of_getElem? (i := 58) (by decide +kernel)) (by decide +kernel), (fun h => by cases h), cd2⟩
theorem cd3 : CdOk 3 := cd_of tRm_tick (n := 24) (fun _ => rfl) (by decide +kernel)
set_option maxRecDepth 100000 in
theorem mo3 : MtOk 3 := ⟨rfl, gws_of (List.mem_of_getElem? (i := 531) (by first | rfl | decide +kernel)) (by decide +kernel), by decide +kernel, rfl, ⟨by decide, by decide, by decide +kernel⟩, Or.inr (Or.inr (Or.inr (Or.inr ⟨rfl, rfl⟩))), gws_of (List.mem_of_getElem? (i := 58) (by decide +kernel)) (by decide +kernel), (fun h => by cases h), cd3⟩
theorem cd4 : CdOk 4 := cd_of tRm_offset (n := 32) (fun _ => rfl) (by decide +kernel)
set_option maxRecDepth 100000 in
theorem mo4 : MtOk 4 := ⟨rfl, gws_of (List.mem_of_getElem? (i := 535) (by first | rfl | decide +kernel)) (by decide +kernel), by decide +kernel, rfl, ⟨by decide, by decide, by decide +kernel⟩, Or.inr (Or.inr (Or.inr (Or.inr ⟨rfl, rfl⟩))), gws_of (List.mem_of_getElem? (i := 58) (by decide +kernel)) (by decide +kernel), (fun h => by cases h), cd4⟩
theorem cd5 : CdOk 5 := cd_of tRm_offer (n := 44) (fun _ => rfl) (by decide +kernel)
set_option maxRecDepth 100000 in
theorem mo5 : MtOk 5 := ⟨rfl, gws_of (List.mem_of_getElem? (i := 542) (by first | rfl | decide +kernel)) (by decide +kernel), by decide +kernel, rfl, ⟨by decide, by decide, by decide +kernel⟩, Or.inr (Or.inl ⟨rfl, rfl⟩), gws_of (List.mem_of_getElem? (i := 58) (by decide +kernel)) (by decide +kernel), (fun h => by cases h), cd5⟩
theorem cd6 : CdOk 6 := cd_of tRm_deliver (n := 40) (fun _ => rfl) (by decide +kernel)
set_option maxRecDepth 100000 in
theorem mo6 : MtOk 6 := ⟨rfl, gws_of (List.mem_of_getElem? (i := 557) (by first | rfl | decide +kernel)) (by decide +kernel), by decide +kernel, rfl, ⟨by decide, by decide, by decide +kernel⟩, Or.inr (Or.inl ⟨rfl, rfl⟩), gws_of (List.mem_of_getElem? (i := 58) (by decide +kernel)) (by decide +kernel), (fun h => by cases h), cd6⟩
theorem cd7 : CdOk 7 := cd_of tRm_lose (n := 21) (fun _ => rfl) (by decide +kernel)
set_option maxRecDepth 100000 in
theorem mo7 : MtOk 7 := ⟨rfl, gws_of (List.mem_of_getElem? (i := 582) (by first | rfl | decide +kernel)) (by decide +kernel), by decide +kernel, rfl, ⟨by decide, by decide, by decide +kernel⟩, Or.inr (Or.inl ⟨rfl, rfl⟩), gws_of (List.mem_of_getElem? (i := 58) (by decide +kernel)) (by decide +kernel), (fun h => by cases h), cd7⟩
theorem cd8 : CdOk 8 := cd_of tRm_spoil (n := 36) (fun _ => rfl) (by decide +kernel)
set_option maxRecDepth 100000 in
theorem mo8 : MtOk 8 := ⟨rfl, gws_of (List.mem_of_getElem? (i := 586) (by first | rfl | decide +kernel)) (by decide +kernel), by decide +kernel, rfl, ⟨by decide, by decide, by decide +kernel⟩, Or.inr (Or.inr (Or.inr (Or.inr ⟨rfl, rfl⟩))), gws_of (List.mem_of_getElem? (i := 58) (by decide +kernel)) (by decide +kernel), (fun h => by cases h), cd8⟩
theorem cd9 : CdOk 9 := cd_of tRm_flying (n := 7) (fun _ => rfl) (by decide +kernel)
set_option maxRecDepth 100000 in
theorem mo9 : MtOk 9 := ⟨rfl, gws_of (List.mem_of_getElem? (i := 591) (by first | rfl | decide +kernel)) (by decide +kernel), by decide +kernel, rfl, ⟨by decide, by decide, by decide +kernel⟩, Or.inr (Or.inl ⟨rfl, rfl⟩), gws_of (List.mem_of_getElem? (i := 58) (by decide +kernel)) (by decide +kernel), (fun h => by cases h), cd9⟩
theorem cd10 : CdOk 10 := cd_of tRm_message (n := 21) (fun _ => rfl) (by decide +kernel)
set_option maxRecDepth 100000 in
theorem mo10 : MtOk 10 := ⟨rfl, gws_of (List.mem_of_getElem? (i := 595) (by first | rfl | decide +kernel)) (by decide +kernel), by decide +kernel, rfl, ⟨by decide, by decide, by decide +kernel⟩, Or.inr (Or.inl ⟨rfl, rfl⟩), gws_of (List.mem_of_getElem? (i := 58) (by decide +kernel)) (by decide +kernel), (fun h => by cases h), cd10⟩
theorem cd11 : CdOk 11 := cd_of tRm_status (n := 30) (fun _ => rfl) (by decide +kernel)
set_option maxRecDepth 100000 in
theorem mo11 : MtOk 11 := ⟨rfl, gws_of (List.mem_of_getElem? (i := 603) (by first | rfl | decide +kernel)) (by decide +kernel), by decide +kernel, rfl, ⟨by decide, by decide, by decide +kernel⟩, Or.inr (Or.inl ⟨rfl, rfl⟩), gws_of (List.mem_of_getElem? (i := 58) (by decide +kernel)) (by decide +kernel), (fun h => by cases h), cd11⟩
theorem cd12 : CdOk 12 := cd_of tRm_ends (n := 24) (fun _ => rfl) (by decide +kernel)
set_option maxRecDepth 100000 in
theorem mo12 : MtOk 12 := ⟨rfl, gws_of (List.mem_of_getElem? (i := 607) (by first | rfl | decide +kernel)) (by decide +kernel), by decide +kernel, rfl, ⟨by decide, by decide, by decide +kernel⟩, Or.inr (Or.inl ⟨rfl, rfl⟩), gws_of (List.mem_of_getElem? (i := 58) (by decide +kernel)) (by decide +kernel), (fun h => by cases h), cd12⟩
theorem cd13 : CdOk 13 := cd_of tRm_current (n := 45) (fun _ => rfl) (by decide +kernel)
set_option maxRecDepth 100000 in
theorem mo13 : MtOk 13 := ⟨rfl, gws_of (List.mem_of_getElem? (i := 611) (by first | rfl | decide +kernel)) (by decide +kernel), by decide +kernel, rfl, ⟨by decide, by decide, by decide +kernel⟩, Or.inr (Or.inl ⟨rfl, rfl⟩), gws_of (List.mem_of_getElem? (i := 58) (by decide +kernel)) (by decide +kernel), (fun h => by cases h), cd13⟩
theorem cd14 : CdOk 14 := cd_of tRm_member (n := 57) (fun _ => rfl) (by decide +kernel)
set_option maxRecDepth 100000 in
theorem mo14 : MtOk 14 := ⟨rfl, gws_of (List.mem_of_getElem? (i := 622) (by first | rfl | decide +kernel)) (by decide +kernel), by decide +kernel, rfl, ⟨by decide, by decide, by decide +kernel⟩, Or.inr (Or.inl ⟨rfl, rfl⟩), gws_of (List.mem_of_getElem? (i := 58) (by decide +kernel)) (by decide +kernel), (fun h => by cases h), cd14⟩
theorem cd15 : CdOk 15 := cd_of tRm_after (n := 30) (fun _ => rfl) (by decide +kernel)
set_option maxRecDepth 100000 in
theorem mo15 : MtOk 15 := ⟨rfl, gws_of (List.mem_of_getElem? (i := 628) (by first | rfl | decide +kernel)) (by decide +kernel), by decide +kernel, rfl, ⟨by decide, by decide, by decide +kernel⟩, Or.inr (Or.inl ⟨rfl, rfl⟩), gws_of (List.mem_of_getElem? (i := 58) (by decide +kernel)) (by decide +kernel), (fun h => by cases h), cd15⟩
theorem cd16 : CdOk 16 := cd_of tRm_event (n := 131) (fun _ => rfl) (by decide +kernel)
set_option maxRecDepth 100000 in
theorem mo16 : MtOk 16 := ⟨rfl, gws_of (List.mem_of_getElem? (i := 632) (by first | rfl | decide +kernel)) (by decide +kernel), by decide +kernel, rfl, ⟨by decide, by decide, by decide +kernel⟩, Or.inr (Or.inl ⟨rfl, rfl⟩), gws_of (List.mem_of_getElem? (i := 58) (by decide +kernel)) (by decide +kernel), (fun h => by cases h), cd16⟩
theorem cd17 : CdOk 17 := cd_of tRm_linked (n := 76) (fun _ => rfl) (by decide +kernel)
set_option maxRecDepth 100000 in
theorem mo17 : MtOk 17 := ⟨rfl, gws_of (List.mem_of_getElem? (i := 636) (by first | rfl | decide +kernel)) (by decide +kernel), by decide +kernel, rfl, ⟨by decide, by decide, by decide +kernel⟩, Or.inr (Or.inl ⟨rfl, rfl⟩), gws_of (List.mem_of_getElem? (i := 58) (by decide +kernel)) (by decide +kernel), (fun h => by cases h), cd17⟩
theorem cd18 : CdOk 18 := cd_of tRm_canBeMade (n := 81) (fun _ => rfl) (by decide +kernel)
set_option maxRecDepth 100000 in
theorem mo18 : MtOk 18 := ⟨rfl, gws_of (List.mem_of_getElem? (i := 311) (by first | rfl | decide +kernel)) (by decide +kernel), by decide +kernel, rfl, ⟨by decide, by decide, by decide +kernel⟩, Or.inr (Or.inr (Or.inr (Or.inr ⟨rfl, rfl⟩))), gws_of (List.mem_of_getElem? (i := 58) (by decide +kernel)) (by decide +kernel), (fun h => by cases h), cd18⟩
theorem cd19 : CdOk 19 := cd_of tRm_publish (n := 120) (fun _ => rfl) (by decide +kernel)
set_option maxRecDepth 100000 in
theorem mo19 : MtOk 19 := ⟨rfl, gws_of (List.mem_of_getElem? (i := 469) (by first | rfl | decide +kernel)) (by decide +kernel), by decide +kernel, rfl, ⟨by decide, by decide, by decide +kernel⟩, Or.inl ⟨rfl, rfl⟩, gws_of (List.mem_of_getElem? (i := 58) (by decide +kernel)) (by decide +kernel), (fun h => by cases h), cd19⟩
theorem cd20 : CdOk 20 := cd_of tRm_lookAt (n := 33) (fun _ => rfl) (by decide +kernel)
set_option maxRecDepth 100000 in
theorem mo20 : MtOk 20 := ⟨rfl, gws_of (List.mem_of_getElem? (i := 473) (by first | rfl | decide +kernel)) (by decide +kernel), by decide +kernel, rfl, ⟨by decide, by decide, by decide +kernel⟩, Or.inl ⟨rfl, rfl⟩, gws_of (List.mem_of_getElem? (i := 58) (by decide +kernel)) (by decide +kernel), (fun h => by cases h), cd20⟩
theorem cd21 : CdOk 21 := cd_of tRm_firstReady (n := 52) (fun _ => rfl) (by decide +kernel)
set_option maxRecDepth 100000 in
theorem mo21 : MtOk 21 := ⟨rfl, gws_of (List.mem_of_getElem? (i := 483) (by first | rfl | decide +kernel)) (by decide +kernel), by decide +kernel, rfl, ⟨by decide, by decide, by decide +kernel⟩, Or.inr (Or.inr (Or.inr (Or.inl ⟨rfl, Or.inl ⟨_, rfl⟩⟩))), gws_of (List.mem_of_getElem? (i := 58) (by decide +kernel)) (by decide +kernel), (fun h => by cases h), cd21⟩
theorem cd22 : CdOk 22 := cd_of tRm_endsOf (n := 61) (fun _ => rfl) (by decide +kernel)
set_option maxRecDepth 100000 in
theorem mo22 : MtOk 22 := ⟨rfl, gws_of (List.mem_of_getElem? (i := 318) (by first | rfl | decide +kernel)) (by decide +kernel), by decide +kernel, rfl, ⟨by decide, by decide, by decide +kernel⟩, Or.inr (Or.inr (Or.inl ⟨rfl, rfl⟩)), gws_of (List.mem_of_getElem? (i := 58) (by decide +kernel)) (by decide +kernel), (fun h => by cases h), cd22⟩
theorem cd23 : CdOk 23 := cd_of tRm_receiveEvent (n := 102) (fun _ => rfl) (by decide +kernel)
set_option maxRecDepth 100000 in
theorem mo23 : MtOk 23 := ⟨rfl, gws_of (List.mem_of_getElem? (i := 577) (by first | rfl | decide +kernel)) (by decide +kernel), by decide +kernel, rfl, ⟨by decide, by decide, by decide +kernel⟩, Or.inl ⟨rfl, rfl⟩, gws_of (List.mem_of_getElem? (i := 58) (by decide +kernel)) (by decide +kernel), (fun h => by cases h), cd23⟩
theorem cd24 : CdOk 24 := cd_of tRm_answerWant (n := 39) (fun _ => rfl) (by decide +kernel)
set_option maxRecDepth 100000 in
theorem mo24 : MtOk 24 := ⟨rfl, gws_of (List.mem_of_getElem? (i := 569) (by first | rfl | decide +kernel)) (by decide +kernel), by decide +kernel, rfl, ⟨by decide, by decide, by decide +kernel⟩, Or.inl ⟨rfl, rfl⟩, gws_of (List.mem_of_getElem? (i := 58) (by decide +kernel)) (by decide +kernel), (fun h => by cases h), cd24⟩
theorem cd25 : CdOk 25 := cd_of tRm_sendAll (n := 44) (fun _ => rfl) (by decide +kernel)
set_option maxRecDepth 100000 in
theorem mo25 : MtOk 25 := ⟨rfl, gws_of (List.mem_of_getElem? (i := 546) (by first | rfl | decide +kernel)) (by decide +kernel), by decide +kernel, rfl, ⟨by decide, by decide, by decide +kernel⟩, Or.inl ⟨rfl, rfl⟩, gws_of (List.mem_of_getElem? (i := 58) (by decide +kernel)) (by decide +kernel), (fun h => by cases h), cd25⟩
theorem cd26 : CdOk 26 := cd_of tRm_isUser (n := 15) (fun _ => rfl) (by decide +kernel)
set_option maxRecDepth 100000 in
theorem mo26 : MtOk 26 := ⟨rfl, gws_of (List.mem_of_getElem? (i := 314) (by first | rfl | decide +kernel)) (by decide +kernel), by decide +kernel, rfl, ⟨by decide, by decide, by decide +kernel⟩, Or.inr (Or.inr (Or.inr (Or.inr ⟨rfl, rfl⟩))), gws_of (List.mem_of_getElem? (i := 58) (by decide +kernel)) (by decide +kernel), (fun h => by cases h), cd26⟩
theorem cd27 : CdOk 27 := cd_of tRm_isServer (n := 14) (fun _ => rfl) (by decide +kernel)
set_option maxRecDepth 100000 in
theorem mo27 : MtOk 27 := ⟨rfl, gws_of (List.mem_of_getElem? (i := 538) (by first | rfl | decide +kernel)) (by decide +kernel), by decide +kernel, rfl, ⟨by decide, by decide, by decide +kernel⟩, Or.inr (Or.inr (Or.inr (Or.inr ⟨rfl, rfl⟩))), gws_of (List.mem_of_getElem? (i := 58) (by decide +kernel)) (by decide +kernel), (fun h => by cases h), cd27⟩
theorem cd28 : CdOk 28 := cd_of tRm_isKey (n := 15) (fun _ => rfl) (by decide +kernel)
set_option maxRecDepth 100000 in
theorem mo28 : MtOk 28 := ⟨rfl, gws_of (List.mem_of_getElem? (i := 614) (by first | rfl | decide +kernel)) (by decide +kernel), by decide +kernel, rfl, ⟨by decide, by decide, by decide +kernel⟩, Or.inr (Or.inr (Or.inr (Or.inr ⟨rfl, rfl⟩))), gws_of (List.mem_of_getElem? (i := 58) (by decide +kernel)) (by decide +kernel), (fun h => by cases h), cd28⟩
theorem cd29 : CdOk 29 := cd_of tRm_bit (n := 3) (fun _ => rfl) (by decide +kernel)
set_option maxRecDepth 100000 in
theorem mo29 : MtOk 29 := ⟨rfl, gws_of (List.mem_of_getElem? (i := 250) (by first | rfl | decide +kernel)) (by decide +kernel), by decide +kernel, rfl, ⟨by decide, by decide, by decide +kernel⟩, Or.inr (Or.inr (Or.inl ⟨rfl, rfl⟩)), gws_of (List.mem_of_getElem? (i := 58) (by decide +kernel)) (by decide +kernel), (fun h => by cases h), cd29⟩
theorem cd30 : CdOk 30 := cd_of tRm_isIn (n := 15) (fun _ => rfl) (by decide +kernel)
set_option maxRecDepth 100000 in
theorem mo30 : MtOk 30 := ⟨rfl, gws_of (List.mem_of_getElem? (i := 325) (by first | rfl | decide +kernel)) (by decide +kernel), by decide +kernel, rfl, ⟨by decide, by decide, by decide +kernel⟩, Or.inr (Or.inr (Or.inr (Or.inr ⟨rfl, rfl⟩))), gws_of (List.mem_of_getElem? (i := 58) (by decide +kernel)) (by decide +kernel), (fun h => by cases h), cd30⟩
theorem cd31 : CdOk 31 := cd_of tEv_init (n := 64) (fun _ => rfl) (by decide +kernel)
set_option maxRecDepth 100000 in
theorem mo31 : MtOk 31 := ⟨rfl, gws_of (List.mem_of_getElem? (i := 158) (by first | rfl | decide +kernel)) (by decide +kernel), by decide +kernel, rfl, ⟨by decide, by decide, by decide +kernel⟩, Or.inl ⟨rfl, rfl⟩, gws_of (List.mem_of_getElem? (i := 63) (by decide +kernel)) (by decide +kernel), fun _ => rfl, cd31⟩
theorem cd32 : CdOk 32 := cd_of tEv_key (n := 66) (fun _ => rfl) (by decide +kernel)
set_option maxRecDepth 100000 in
theorem mo32 : MtOk 32 := ⟨rfl, gws_of (List.mem_of_getElem? (i := 243) (by first | rfl | decide +kernel)) (by decide +kernel), by decide +kernel, rfl, ⟨by decide, by decide, by decide +kernel⟩, Or.inr (Or.inl ⟨rfl, rfl⟩), gws_of (List.mem_of_getElem? (i := 63) (by decide +kernel)) (by decide +kernel), (fun h => by cases h), cd32⟩
theorem cd33 : CdOk 33 := cd_of tEv_isOfMembership (n := 21) (fun _ => rfl) (by decide +kernel)
set_option maxRecDepth 100000 in
theorem mo33 : MtOk 33 := ⟨rfl, gws_of (List.mem_of_getElem? (i := 264) (by first | rfl | decide +kernel)) (by decide +kernel), by decide +kernel, rfl, ⟨by decide, by decide, by decide +kernel⟩, Or.inr (Or.inr (Or.inr (Or.inr ⟨rfl, rfl⟩))), gws_of (List.mem_of_getElem? (i := 63) (by decide +kernel)) (by decide +kernel), (fun h => by cases h), cd33⟩
theorem cd34 : CdOk 34 := cd_of tEv_isHeavy (n := 49) (fun _ => rfl) (by decide +kernel)
set_option maxRecDepth 100000 in
theorem mo34 : MtOk 34 := ⟨rfl, gws_of (List.mem_of_getElem? (i := 370) (by first | rfl | decide +kernel)) (by decide +kernel), by decide +kernel, rfl, ⟨by decide, by decide, by decide +kernel⟩, Or.inr (Or.inr (Or.inr (Or.inr ⟨rfl, rfl⟩))), gws_of (List.mem_of_getElem? (i := 63) (by decide +kernel)) (by decide +kernel), (fun h => by cases h), cd34⟩
theorem cd35 : CdOk 35 := cd_of tEv_senderLevel (n := 11) (fun _ => rfl) (by decide +kernel)
set_option maxRecDepth 100000 in
theorem mo35 : MtOk 35 := ⟨rfl, gws_of (List.mem_of_getElem? (i := 381) (by first | rfl | decide +kernel)) (by decide +kernel), by decide +kernel, rfl, ⟨by decide, by decide, by decide +kernel⟩, Or.inr (Or.inl ⟨rfl, rfl⟩), gws_of (List.mem_of_getElem? (i := 63) (by decide +kernel)) (by decide +kernel), (fun h => by cases h), cd35⟩
theorem cd36 : CdOk 36 := cd_of tEv_takeValue (n := 50) (fun _ => rfl) (by decide +kernel)
set_option maxRecDepth 100000 in
theorem mo36 : MtOk 36 := ⟨rfl, gws_of (List.mem_of_getElem? (i := 460) (by first | rfl | decide +kernel)) (by decide +kernel), by decide +kernel, rfl, ⟨by decide, by decide, by decide +kernel⟩, Or.inl ⟨rfl, rfl⟩, gws_of (List.mem_of_getElem? (i := 63) (by decide +kernel)) (by decide +kernel), (fun h => by cases h), cd36⟩
theorem cd37 : CdOk 37 := cd_of tEv_takeAuths (n := 58) (fun _ => rfl) (by decide +kernel)
set_option maxRecDepth 100000 in
theorem mo37 : MtOk 37 := ⟨rfl, gws_of (List.mem_of_getElem? (i := 255) (by first | rfl | decide +kernel)) (by decide +kernel), by decide +kernel, rfl, ⟨by decide, by decide, by decide +kernel⟩, Or.inl ⟨rfl, rfl⟩, gws_of (List.mem_of_getElem? (i := 63) (by decide +kernel)) (by decide +kernel), (fun h => by cases h), cd37⟩
theorem cd38 : CdOk 38 := cd_of tEv_takeAuth (n := 61) (fun _ => rfl) (by decide +kernel)
set_option maxRecDepth 100000 in
theorem mo38 : MtOk 38 := ⟨rfl, gws_of (List.mem_of_getElem? (i := 259) (by first | rfl | decide +kernel)) (by decide +kernel), by decide +kernel, rfl, ⟨by decide, by decide, by decide +kernel⟩, Or.inl ⟨rfl, rfl⟩, gws_of (List.mem_of_getElem? (i := 63) (by decide +kernel)) (by decide +kernel), (fun h => by cases h), cd38⟩
theorem cd39 : CdOk 39 := cd_of tEv_makeGood (n := 24) (fun _ => rfl) (by decide +kernel)
set_option maxRecDepth 100000 in
theorem mo39 : MtOk 39 := ⟨rfl, gws_of (List.mem_of_getElem? (i := 231) (by first | rfl | decide +kernel)) (by decide +kernel), by decide +kernel, rfl, ⟨by decide, by decide, by decide +kernel⟩, Or.inl ⟨rfl, rfl⟩, gws_of (List.mem_of_getElem? (i := 63) (by decide +kernel)) (by decide +kernel), (fun h => by cases h), cd39⟩
theorem cd40 : CdOk 40 := cd_of tHi_init (n := 13) (fun _ => rfl) (by decide +kernel)
set_option maxRecDepth 100000 in
theorem mo40 : MtOk 40 := ⟨rfl, gws_of (List.mem_of_getElem? (i := 81) (by first | rfl | decide +kernel)) (by decide +kernel), by decide +kernel, rfl, ⟨by decide, by decide, by decide +kernel⟩, Or.inl ⟨rfl, rfl⟩, gws_of (List.mem_of_getElem? (i := 59) (by decide +kernel)) (by decide +kernel), fun _ => rfl, cd40⟩
theorem cd41 : CdOk 41 := cd_of tHi_keep (n := 29) (fun _ => rfl) (by decide +kernel)
set_option maxRecDepth 100000 in
theorem mo41 : MtOk 41 := ⟨rfl, gws_of (List.mem_of_getElem? (i := 247) (by first | rfl | decide +kernel)) (by decide +kernel), by decide +kernel, rfl, ⟨by decide, by decide, by decide +kernel⟩, Or.inl ⟨rfl, rfl⟩, gws_of (List.mem_of_getElem? (i := 59) (by decide +kernel)) (by decide +kernel), (fun h => by cases h), cd41⟩
theorem cd42 : CdOk 42 := cd_of tHi_has (n := 18) (fun _ => rfl) (by decide +kernel)
set_option maxRecDepth 100000 in
theorem mo42 : MtOk 42 := ⟨rfl, gws_of (List.mem_of_getElem? (i := 333) (by first | rfl | decide +kernel)) (by decide +kernel), by decide +kernel, rfl, ⟨by decide, by decide, by decide +kernel⟩, Or.inr (Or.inr (Or.inr (Or.inr ⟨rfl, rfl⟩))), gws_of (List.mem_of_getElem? (i := 59) (by decide +kernel)) (by decide +kernel), (fun h => by cases h), cd42⟩
theorem cd43 : CdOk 43 := cd_of tHi_find (n := 18) (fun _ => rfl) (by decide +kernel)
set_option maxRecDepth 100000 in
theorem mo43 : MtOk 43 := ⟨rfl, gws_of (List.mem_of_getElem? (i := 329) (by first | rfl | decide +kernel)) (by decide +kernel), by decide +kernel, rfl, ⟨by decide, by decide, by decide +kernel⟩, Or.inr (Or.inr (Or.inr (Or.inl ⟨rfl, Or.inl ⟨_, rfl⟩⟩))), gws_of (List.mem_of_getElem? (i := 59) (by decide +kernel)) (by decide +kernel), (fun h => by cases h), cd43⟩
theorem cd44 : CdOk 44 := cd_of tHi_pick (n := 17) (fun _ => rfl) (by decide +kernel)
set_option maxRecDepth 100000 in
theorem mo44 : MtOk 44 := ⟨rfl, gws_of (List.mem_of_getElem? (i := 322) (by first | rfl | decide +kernel)) (by decide +kernel), by decide +kernel, rfl, ⟨by decide, by decide, by decide +kernel⟩, Or.inr (Or.inr (Or.inr (Or.inl ⟨rfl, Or.inl ⟨_, rfl⟩⟩))), gws_of (List.mem_of_getElem? (i := 59) (by decide +kernel)) (by decide +kernel), (fun h => by cases h), cd44⟩
theorem cd45 : CdOk 45 := cd_of tMe_init (n := 25) (fun _ => rfl) (by decide +kernel)
set_option maxRecDepth 100000 in
theorem mo45 : MtOk 45 := ⟨rfl, gws_of (List.mem_of_getElem? (i := 495) (by first | rfl | decide +kernel)) (by decide +kernel), by decide +kernel, rfl, ⟨by decide, by decide, by decide +kernel⟩, Or.inl ⟨rfl, rfl⟩, gws_of (List.mem_of_getElem? (i := 67) (by decide +kernel)) (by decide +kernel), fun _ => rfl, cd45⟩
theorem cd46 : CdOk 46 := cd_of tMe_code (n := 45) (fun _ => rfl) (by decide +kernel)
set_option maxRecDepth 100000 in
theorem mo46 : MtOk 46 := ⟨rfl, gws_of (List.mem_of_getElem? (i := 599) (by first | rfl | decide +kernel)) (by decide +kernel), by decide +kernel, rfl, ⟨by decide, by decide, by decide +kernel⟩, Or.inr (Or.inl ⟨rfl, rfl⟩), gws_of (List.mem_of_getElem? (i := 67) (by decide +kernel)) (by decide +kernel), (fun h => by cases h), cd46⟩
theorem cd47 : CdOk 47 := cd_of tRe_init (n := 55) (fun _ => rfl) (by decide +kernel)
set_option maxRecDepth 100000 in
theorem mo47 : MtOk 47 := ⟨rfl, gws_of (List.mem_of_getElem? (i := 98) (by first | rfl | decide +kernel)) (by decide +kernel), by decide +kernel, rfl, ⟨by decide, by decide, by decide +kernel⟩, Or.inl ⟨rfl, rfl⟩, gws_of (List.mem_of_getElem? (i := 60) (by decide +kernel)) (by decide +kernel), fun _ => rfl, cd47⟩
theorem cd48 : CdOk 48 := cd_of tRe_resolve (n := 129) (fun _ => rfl) (by decide +kernel)
set_option maxRecDepth 100000 in
theorem mo48 : MtOk 48 := ⟨rfl, gws_of (List.mem_of_getElem? (i := 338) (by first | rfl | decide +kernel)) (by decide +kernel), by decide +kernel, rfl, ⟨by decide, by decide, by decide +kernel⟩, Or.inl ⟨rfl, rfl⟩, gws_of (List.mem_of_getElem? (i := 60) (by decide +kernel)) (by decide +kernel), (fun h => by cases h), cd48⟩
theorem cd49 : CdOk 49 := cd_of tRe_findAgreed (n := 98) (fun _ => rfl) (by decide +kernel)
set_option maxRecDepth 100000 in
theorem mo49 : MtOk 49 := ⟨rfl, gws_of (List.mem_of_getElem? (i := 342) (by first | rfl | decide +kernel)) (by decide +kernel), by decide +kernel, rfl, ⟨by decide, by decide, by decide +kernel⟩, Or.inl ⟨rfl, rfl⟩, gws_of (List.mem_of_getElem? (i := 60) (by decide +kernel)) (by decide +kernel), (fun h => by cases h), cd49⟩
theorem cd50 : CdOk 50 := cd_of tRe_dropDiffering (n := 49) (fun _ => rfl) (by decide +kernel)
set_option maxRecDepth 100000 in
theorem mo50 : MtOk 50 := ⟨rfl, gws_of (List.mem_of_getElem? (i := 348) (by first | rfl | decide +kernel)) (by decide +kernel), by decide +kernel, rfl, ⟨by decide, by decide, by decide +kernel⟩, Or.inl ⟨rfl, rfl⟩, gws_of (List.mem_of_getElem? (i := 60) (by decide +kernel)) (by decide +kernel), (fun h => by cases h), cd50⟩
theorem cd51 : CdOk 51 := cd_of tRe_findContested (n := 95) (fun _ => rfl) (by decide +kernel)
set_option maxRecDepth 100000 in
theorem mo51 : MtOk 51 := ⟨rfl, gws_of (List.mem_of_getElem? (i := 352) (by first | rfl | decide +kernel)) (by decide +kernel), by decide +kernel, rfl, ⟨by decide, by decide, by decide +kernel⟩, Or.inr (Or.inr (Or.inl ⟨rfl, rfl⟩)), gws_of (List.mem_of_getElem? (i := 60) (by decide +kernel)) (by decide +kernel), (fun h => by cases h), cd51⟩
theorem cd52 : CdOk 52 := cd_of tRe_disputedOf (n := 55) (fun _ => rfl) (by decide +kernel)
set_option maxRecDepth 100000 in
theorem mo52 : MtOk 52 := ⟨rfl, gws_of (List.mem_of_getElem? (i := 361) (by first | rfl | decide +kernel)) (by decide +kernel), by decide +kernel, rfl, ⟨by decide, by decide, by decide +kernel⟩, Or.inr (Or.inr (Or.inl ⟨rfl, rfl⟩)), gws_of (List.mem_of_getElem? (i := 60) (by decide +kernel)) (by decide +kernel), (fun h => by cases h), cd52⟩
theorem cd53 : CdOk 53 := cd_of tRe_heavyWithChains (n := 65) (fun _ => rfl) (by decide +kernel)
set_option maxRecDepth 100000 in
theorem mo53 : MtOk 53 := ⟨rfl, gws_of (List.mem_of_getElem? (i := 366) (by first | rfl | decide +kernel)) (by decide +kernel), by decide +kernel, rfl, ⟨by decide, by decide, by decide +kernel⟩, Or.inr (Or.inr (Or.inl ⟨rfl, rfl⟩)), gws_of (List.mem_of_getElem? (i := 60) (by decide +kernel)) (by decide +kernel), (fun h => by cases h), cd53⟩
theorem cd54 : CdOk 54 := cd_of tRe_nextHeavy (n := 69) (fun _ => rfl) (by decide +kernel)
set_option maxRecDepth 100000 in
theorem mo54 : MtOk 54 := ⟨rfl, gws_of (List.mem_of_getElem? (i := 374) (by first | rfl | decide +kernel)) (by decide +kernel), by decide +kernel, rfl, ⟨by decide, by decide, by decide +kernel⟩, Or.inr (Or.inr (Or.inr (Or.inl ⟨rfl, Or.inl ⟨_, rfl⟩⟩))), gws_of (List.mem_of_getElem? (i := 60) (by decide +kernel)) (by decide +kernel), (fun h => by cases h), cd54⟩
theorem cd55 : CdOk 55 := cd_of tRe_isOfMoreWeight (n := 36) (fun _ => rfl) (by decide +kernel)
set_option maxRecDepth 100000 in
theorem mo55 : MtOk 55 := ⟨rfl, gws_of (List.mem_of_getElem? (i := 377) (by first | rfl | decide +kernel)) (by decide +kernel), by decide +kernel, rfl, ⟨by decide, by decide, by decide +kernel⟩, Or.inr (Or.inr (Or.inr (Or.inr ⟨rfl, rfl⟩))), gws_of (List.mem_of_getElem? (i := 60) (by decide +kernel)) (by decide +kernel), (fun h => by cases h), cd55⟩
theorem cd56 : CdOk 56 := cd_of tRe_nextOther (n := 58) (fun _ => rfl) (by decide +kernel)
set_option maxRecDepth 100000 in
theorem mo56 : MtOk 56 := ⟨rfl, gws_of (List.mem_of_getElem? (i := 448) (by first | rfl | decide +kernel)) (by decide +kernel), by decide +kernel, rfl, ⟨by decide, by decide, by decide +kernel⟩, Or.inr (Or.inr (Or.inr (Or.inl ⟨rfl, Or.inl ⟨_, rfl⟩⟩))), gws_of (List.mem_of_getElem? (i := 60) (by decide +kernel)) (by decide +kernel), (fun h => by cases h), cd56⟩
theorem cd57 : CdOk 57 := cd_of tRe_isFartherBack (n := 49) (fun _ => rfl) (by decide +kernel)
set_option maxRecDepth 100000 in
theorem mo57 : MtOk 57 := ⟨rfl, gws_of (List.mem_of_getElem? (i := 452) (by first | rfl | decide +kernel)) (by decide +kernel), by decide +kernel, rfl, ⟨by decide, by decide, by decide +kernel⟩, Or.inr (Or.inr (Or.inr (Or.inr ⟨rfl, rfl⟩))), gws_of (List.mem_of_getElem? (i := 60) (by decide +kernel)) (by decide +kernel), (fun h => by cases h), cd57⟩
theorem cd58 : CdOk 58 := cd_of tRe_tryOne (n := 92) (fun _ => rfl) (by decide +kernel)
set_option maxRecDepth 100000 in
theorem mo58 : MtOk 58 := ⟨rfl, gws_of (List.mem_of_getElem? (i := 389) (by first | rfl | decide +kernel)) (by decide +kernel), by decide +kernel, rfl, ⟨by decide, by decide, by decide +kernel⟩, Or.inr (Or.inr (Or.inl ⟨rfl, rfl⟩)), gws_of (List.mem_of_getElem? (i := 60) (by decide +kernel)) (by decide +kernel), (fun h => by cases h), cd58⟩
theorem cd59 : CdOk 59 := cd_of tRe_findPlaces (n := 90) (fun _ => rfl) (by decide +kernel)
set_option maxRecDepth 100000 in
theorem mo59 : MtOk 59 := ⟨rfl, gws_of (List.mem_of_getElem? (i := 436) (by first | rfl | decide +kernel)) (by decide +kernel), by decide +kernel, rfl, ⟨by decide, by decide, by decide +kernel⟩, Or.inl ⟨rfl, rfl⟩, gws_of (List.mem_of_getElem? (i := 60) (by decide +kernel)) (by decide +kernel), (fun h => by cases h), cd59⟩
theorem cd60 : CdOk 60 := cd_of tRe_placeOf (n := 53) (fun _ => rfl) (by decide +kernel)
set_option maxRecDepth 100000 in
theorem mo60 : MtOk 60 := ⟨rfl, gws_of (List.mem_of_getElem? (i := 444) (by first | rfl | decide +kernel)) (by decide +kernel), by decide +kernel, rfl, ⟨by decide, by decide, by decide +kernel⟩, Or.inr (Or.inl ⟨rfl, rfl⟩), gws_of (List.mem_of_getElem? (i := 60) (by decide +kernel)) (by decide +kernel), (fun h => by cases h), cd60⟩
theorem cd61 : CdOk 61 := cd_of tRe_restoreAgreed (n := 38) (fun _ => rfl) (by decide +kernel)
set_option maxRecDepth 100000 in
theorem mo61 : MtOk 61 := ⟨rfl, gws_of (List.mem_of_getElem? (i := 456) (by first | rfl | decide +kernel)) (by decide +kernel), by decide +kernel, rfl, ⟨by decide, by decide, by decide +kernel⟩, Or.inl ⟨rfl, rfl⟩, gws_of (List.mem_of_getElem? (i := 60) (by decide +kernel)) (by decide +kernel), (fun h => by cases h), cd61⟩
theorem cd62 : CdOk 62 := cd_of tSe_init (n := 9) (fun _ => rfl) (by decide +kernel)
set_option maxRecDepth 100000 in
theorem mo62 : MtOk 62 := ⟨rfl, gws_of (List.mem_of_getElem? (i := 268) (by first | rfl | decide +kernel)) (by decide +kernel), by decide +kernel, rfl, ⟨by decide, by decide, by decide +kernel⟩, Or.inl ⟨rfl, rfl⟩, gws_of (List.mem_of_getElem? (i := 64) (by decide +kernel)) (by decide +kernel), fun _ => rfl, cd62⟩
theorem cd63 : CdOk 63 := cd_of tSe_standingOf (n := 42) (fun _ => rfl) (by decide +kernel)
set_option maxRecDepth 100000 in
theorem mo63 : MtOk 63 := ⟨rfl, gws_of (List.mem_of_getElem? (i := 526) (by first | rfl | decide +kernel)) (by decide +kernel), by decide +kernel, rfl, ⟨by decide, by decide, by decide +kernel⟩, Or.inr (Or.inl ⟨rfl, rfl⟩), gws_of (List.mem_of_getElem? (i := 64) (by decide +kernel)) (by decide +kernel), (fun h => by cases h), cd63⟩
theorem cd64 : CdOk 64 := cd_of tSe_isSettled (n := 13) (fun _ => rfl) (by decide +kernel)
set_option maxRecDepth 100000 in
theorem mo64 : MtOk 64 := ⟨rfl, gws_of (List.mem_of_getElem? (i := 573) (by first | rfl | decide +kernel)) (by decide +kernel), by decide +kernel, rfl, ⟨by decide, by decide, by decide +kernel⟩, Or.inr (Or.inr (Or.inr (Or.inr ⟨rfl, rfl⟩))), gws_of (List.mem_of_getElem? (i := 64) (by decide +kernel)) (by decide +kernel), (fun h => by cases h), cd64⟩
theorem cd65 : CdOk 65 := cd_of tSe_unsettled (n := 15) (fun _ => rfl) (by decide +kernel)
set_option maxRecDepth 100000 in
theorem mo65 : MtOk 65 := ⟨rfl, gws_of (List.mem_of_getElem? (i := 487) (by first | rfl | decide +kernel)) (by decide +kernel), by decide +kernel, rfl, ⟨by decide, by decide, by decide +kernel⟩, Or.inr (Or.inr (Or.inl ⟨rfl, rfl⟩)), gws_of (List.mem_of_getElem? (i := 64) (by decide +kernel)) (by decide +kernel), (fun h => by cases h), cd65⟩
theorem cd66 : CdOk 66 := cd_of tSe_settle (n := 62) (fun _ => rfl) (by decide +kernel)
set_option maxRecDepth 100000 in
theorem mo66 : MtOk 66 := ⟨rfl, gws_of (List.mem_of_getElem? (i := 477) (by first | rfl | decide +kernel)) (by decide +kernel), by decide +kernel, rfl, ⟨by decide, by decide, by decide +kernel⟩, Or.inl ⟨rfl, rfl⟩, gws_of (List.mem_of_getElem? (i := 64) (by decide +kernel)) (by decide +kernel), (fun h => by cases h), cd66⟩
theorem cd67 : CdOk 67 := cd_of tSt_init (n := 13) (fun _ => rfl) (by decide +kernel)
set_option maxRecDepth 100000 in
theorem mo67 : MtOk 67 := ⟨rfl, gws_of (List.mem_of_getElem? (i := 104) (by first | rfl | decide +kernel)) (by decide +kernel), by decide +kernel, rfl, ⟨by decide, by decide, by decide +kernel⟩, Or.inl ⟨rfl, rfl⟩, gws_of (List.mem_of_getElem? (i := 61) (by decide +kernel)) (by decide +kernel), fun _ => rfl, cd67⟩
theorem cd68 : CdOk 68 := cd_of tSt_copyFrom (n := 26) (fun _ => rfl) (by decide +kernel)
set_option maxRecDepth 100000 in
theorem mo68 : MtOk 68 := ⟨rfl, gws_of (List.mem_of_getElem? (i := 235) (by first | rfl | decide +kernel)) (by decide +kernel), by decide +kernel, rfl, ⟨by decide, by decide, by decide +kernel⟩, Or.inl ⟨rfl, rfl⟩, gws_of (List.mem_of_getElem? (i := 61) (by decide +kernel)) (by decide +kernel), (fun h => by cases h), cd68⟩
theorem cd69 : CdOk 69 := cd_of tSt_put (n := 17) (fun _ => rfl) (by decide +kernel)
set_option maxRecDepth 100000 in
theorem mo69 : MtOk 69 := ⟨rfl, gws_of (List.mem_of_getElem? (i := 239) (by first | rfl | decide +kernel)) (by decide +kernel), by decide +kernel, rfl, ⟨by decide, by decide, by decide +kernel⟩, Or.inl ⟨rfl, rfl⟩, gws_of (List.mem_of_getElem? (i := 61) (by decide +kernel)) (by decide +kernel), (fun h => by cases h), cd69⟩
theorem cd70 : CdOk 70 := cd_of tSt_numberAt (n := 22) (fun _ => rfl) (by decide +kernel)
set_option maxRecDepth 100000 in
theorem mo70 : MtOk 70 := ⟨rfl, gws_of (List.mem_of_getElem? (i := 618) (by first | rfl | decide +kernel)) (by decide +kernel), by decide +kernel, rfl, ⟨by decide, by decide, by decide +kernel⟩, Or.inr (Or.inl ⟨rfl, rfl⟩), gws_of (List.mem_of_getElem? (i := 61) (by decide +kernel)) (by decide +kernel), (fun h => by cases h), cd70⟩
theorem cd71 : CdOk 71 := cd_of tSt_membership (n := 21) (fun _ => rfl) (by decide +kernel)
set_option maxRecDepth 100000 in
theorem mo71 : MtOk 71 := ⟨rfl, gws_of (List.mem_of_getElem? (i := 401) (by first | rfl | decide +kernel)) (by decide +kernel), by decide +kernel, rfl, ⟨by decide, by decide, by decide +kernel⟩, Or.inr (Or.inl ⟨rfl, rfl⟩), gws_of (List.mem_of_getElem? (i := 61) (by decide +kernel)) (by decide +kernel), (fun h => by cases h), cd71⟩
theorem cd72 : CdOk 72 := cd_of tSt_level (n := 46) (fun _ => rfl) (by decide +kernel)
set_option maxRecDepth 100000 in
theorem mo72 : MtOk 72 := ⟨rfl, gws_of (List.mem_of_getElem? (i := 385) (by first | rfl | decide +kernel)) (by decide +kernel), by decide +kernel, rfl, ⟨by decide, by decide, by decide +kernel⟩, Or.inr (Or.inl ⟨rfl, rfl⟩), gws_of (List.mem_of_getElem? (i := 61) (by decide +kernel)) (by decide +kernel), (fun h => by cases h), cd72⟩
theorem cd73 : CdOk 73 := cd_of tSt_levelsWith (n := 43) (fun _ => rfl) (by decide +kernel)
set_option maxRecDepth 100000 in
theorem mo73 : MtOk 73 := ⟨rfl, gws_of (List.mem_of_getElem? (i := 464) (by first | rfl | decide +kernel)) (by decide +kernel), by decide +kernel, rfl, ⟨by decide, by decide, by decide +kernel⟩, Or.inr (Or.inl ⟨rfl, rfl⟩), gws_of (List.mem_of_getElem? (i := 61) (by decide +kernel)) (by decide +kernel), (fun h => by cases h), cd73⟩
theorem cd74 : CdOk 74 := cd_of tSt_isOpen (n := 24) (fun _ => rfl) (by decide +kernel)
set_option maxRecDepth 100000 in
theorem mo74 : MtOk 74 := ⟨rfl, gws_of (List.mem_of_getElem? (i := 405) (by first | rfl | decide +kernel)) (by decide +kernel), by decide +kernel, rfl, ⟨by decide, by decide, by decide +kernel⟩, Or.inr (Or.inr (Or.inr (Or.inr ⟨rfl, rfl⟩))), gws_of (List.mem_of_getElem? (i := 61) (by decide +kernel)) (by decide +kernel), (fun h => by cases h), cd74⟩
theorem cd75 : CdOk 75 := cd_of tSt_whole (n := 38) (fun _ => rfl) (by decide +kernel)
set_option maxRecDepth 100000 in
theorem mo75 : MtOk 75 := ⟨rfl, gws_of (List.mem_of_getElem? (i := 357) (by first | rfl | decide +kernel)) (by decide +kernel), by decide +kernel, rfl, ⟨by decide, by decide, by decide +kernel⟩, Or.inr (Or.inr (Or.inl ⟨rfl, rfl⟩)), gws_of (List.mem_of_getElem? (i := 61) (by decide +kernel)) (by decide +kernel), (fun h => by cases h), cd75⟩
theorem cd76 : CdOk 76 := cd_of tSt_allows (n := 121) (fun _ => rfl) (by decide +kernel)
set_option maxRecDepth 100000 in
theorem mo76 : MtOk 76 := ⟨rfl, gws_of (List.mem_of_getElem? (i := 393) (by first | rfl | decide +kernel)) (by decide +kernel), by decide +kernel, rfl, ⟨by decide, by decide, by decide +kernel⟩, Or.inr (Or.inr (Or.inr (Or.inr ⟨rfl, rfl⟩))), gws_of (List.mem_of_getElem? (i := 61) (by decide +kernel)) (by decide +kernel), (fun h => by cases h), cd76⟩
theorem cd77 : CdOk 77 := cd_of tSt_allowsJoin (n := 57) (fun _ => rfl) (by decide +kernel)
set_option maxRecDepth 100000 in
theorem mo77 : MtOk 77 := ⟨rfl, gws_of (List.mem_of_getElem? (i := 397) (by first | rfl | decide +kernel)) (by decide +kernel), by decide +kernel, rfl, ⟨by decide, by decide, by decide +kernel⟩, Or.inr (Or.inr (Or.inr (Or.inr ⟨rfl, rfl⟩))), gws_of (List.mem_of_getElem? (i := 61) (by decide +kernel)) (by decide +kernel), (fun h => by cases h), cd77⟩
theorem cd78 : CdOk 78 := cd_of tSt_isFirstJoin (n := 42) (fun _ => rfl) (by decide +kernel)
set_option maxRecDepth 100000 in
theorem mo78 : MtOk 78 := ⟨rfl, gws_of (List.mem_of_getElem? (i := 409) (by first | rfl | decide +kernel)) (by decide +kernel), by decide +kernel, rfl, ⟨by decide, by decide, by decide +kernel⟩, Or.inr (Or.inr (Or.inr (Or.inr ⟨rfl, rfl⟩))), gws_of (List.mem_of_getElem? (i := 61) (by decide +kernel)) (by decide +kernel), (fun h => by cases h), cd78⟩
theorem cd79 : CdOk 79 := cd_of tSt_allowsInvite (n := 36) (fun _ => rfl) (by decide +kernel)
set_option maxRecDepth 100000 in
theorem mo79 : MtOk 79 := ⟨rfl, gws_of (List.mem_of_getElem? (i := 414) (by first | rfl | decide +kernel)) (by decide +kernel), by decide +kernel, rfl, ⟨by decide, by decide, by decide +kernel⟩, Or.inr (Or.inr (Or.inr (Or.inr ⟨rfl, rfl⟩))), gws_of (List.mem_of_getElem? (i := 61) (by decide +kernel)) (by decide +kernel), (fun h => by cases h), cd79⟩
theorem cd80 : CdOk 80 := cd_of tSt_allowsLeave (n := 67) (fun _ => rfl) (by decide +kernel)
set_option maxRecDepth 100000 in
theorem mo80 : MtOk 80 := ⟨rfl, gws_of (List.mem_of_getElem? (i := 418) (by first | rfl | decide +kernel)) (by decide +kernel), by decide +kernel, rfl, ⟨by decide, by decide, by decide +kernel⟩, Or.inr (Or.inr (Or.inr (Or.inr ⟨rfl, rfl⟩))), gws_of (List.mem_of_getElem? (i := 61) (by decide +kernel)) (by decide +kernel), (fun h => by cases h), cd80⟩
theorem cd81 : CdOk 81 := cd_of tSt_allowsLevels (n := 97) (fun _ => rfl) (by decide +kernel)
set_option maxRecDepth 100000 in
theorem mo81 : MtOk 81 := ⟨rfl, gws_of (List.mem_of_getElem? (i := 427) (by first | rfl | decide +kernel)) (by decide +kernel), by decide +kernel, rfl, ⟨by decide, by decide, by decide +kernel⟩, Or.inr (Or.inr (Or.inr (Or.inr ⟨rfl, rfl⟩))), gws_of (List.mem_of_getElem? (i := 61) (by decide +kernel)) (by decide +kernel), (fun h => by cases h), cd81⟩
theorem cd82 : CdOk 82 := cd_of tSt_leads (n := 23) (fun _ => rfl) (by decide +kernel)
set_option maxRecDepth 100000 in
theorem mo82 : MtOk 82 := ⟨rfl, gws_of (List.mem_of_getElem? (i := 431) (by first | rfl | decide +kernel)) (by decide +kernel), by decide +kernel, rfl, ⟨by decide, by decide, by decide +kernel⟩, Or.inr (Or.inr (Or.inr (Or.inr ⟨rfl, rfl⟩))), gws_of (List.mem_of_getElem? (i := 61) (by decide +kernel)) (by decide +kernel), (fun h => by cases h), cd82⟩
theorem cd83 : CdOk 83 := cd_of tSt_hasPowerOver (n := 34) (fun _ => rfl) (by decide +kernel)
set_option maxRecDepth 100000 in
theorem mo83 : MtOk 83 := ⟨rfl, gws_of (List.mem_of_getElem? (i := 422) (by first | rfl | decide +kernel)) (by decide +kernel), by decide +kernel, rfl, ⟨by decide, by decide, by decide +kernel⟩, Or.inr (Or.inr (Or.inr (Or.inr ⟨rfl, rfl⟩))), gws_of (List.mem_of_getElem? (i := 61) (by decide +kernel)) (by decide +kernel), (fun h => by cases h), cd83⟩
theorem cd84 : CdOk 84 := cd_of tWi_init (n := 13) (fun _ => rfl) (by decide +kernel)
set_option maxRecDepth 100000 in
theorem mo84 : MtOk 84 := ⟨rfl, gws_of (List.mem_of_getElem? (i := 140) (by first | rfl | decide +kernel)) (by decide +kernel), by decide +kernel, rfl, ⟨by decide, by decide, by decide +kernel⟩, Or.inl ⟨rfl, rfl⟩, gws_of (List.mem_of_getElem? (i := 62) (by decide +kernel)) (by decide +kernel), fun _ => rfl, cd84⟩
theorem cd85 : CdOk 85 := cd_of tWi_send (n := 40) (fun _ => rfl) (by decide +kernel)
set_option maxRecDepth 100000 in
theorem mo85 : MtOk 85 := ⟨rfl, gws_of (List.mem_of_getElem? (i := 491) (by first | rfl | decide +kernel)) (by decide +kernel), by decide +kernel, rfl, ⟨by decide, by decide, by decide +kernel⟩, Or.inl ⟨rfl, rfl⟩, gws_of (List.mem_of_getElem? (i := 62) (by decide +kernel)) (by decide +kernel), (fun h => by cases h), cd85⟩
theorem cd86 : CdOk 86 := cd_of tWi_find (n := 22) (fun _ => rfl) (by decide +kernel)
set_option maxRecDepth 100000 in
theorem mo86 : MtOk 86 := ⟨rfl, gws_of (List.mem_of_getElem? (i := 565) (by first | rfl | decide +kernel)) (by decide +kernel), by decide +kernel, rfl, ⟨by decide, by decide, by decide +kernel⟩, Or.inr (Or.inr (Or.inr (Or.inl ⟨rfl, Or.inl ⟨_, rfl⟩⟩))), gws_of (List.mem_of_getElem? (i := 62) (by decide +kernel)) (by decide +kernel), (fun h => by cases h), cd86⟩
theorem cd87 : CdOk 87 := cd_of tWi_take (n := 61) (fun _ => rfl) (by decide +kernel)
set_option maxRecDepth 100000 in
theorem mo87 : MtOk 87 := ⟨rfl, gws_of (List.mem_of_getElem? (i := 561) (by first | rfl | decide +kernel)) (by decide +kernel), by decide +kernel, rfl, ⟨by decide, by decide, by decide +kernel⟩, Or.inr (Or.inr (Or.inr (Or.inl ⟨rfl, Or.inl ⟨_, rfl⟩⟩))), gws_of (List.mem_of_getElem? (i := 62) (by decide +kernel)) (by decide +kernel), (fun h => by cases h), cd87⟩
theorem cd88 : CdOk 88 := cd_of tMo_init (n := 294) (fun _ => rfl) (by decide +kernel)
set_option maxRecDepth 100000 in
theorem mo88 : MtOk 88 := ⟨rfl, gws_of (List.mem_of_getElem? (i := 641) (by first | rfl | decide +kernel)) (by decide +kernel), by decide +kernel, rfl, ⟨by decide, by decide, by decide +kernel⟩, Or.inl ⟨rfl, rfl⟩, gws_of (List.mem_of_getElem? (i := 65) (by decide +kernel)) (by decide +kernel), fun _ => rfl, cd88⟩
theorem cd89 : CdOk 89 := cd_of tMo_in (n := 15) (fun _ => rfl) (by decide +kernel)
set_option maxRecDepth 100000 in
theorem mo89 : MtOk 89 := ⟨rfl, gws_of (List.mem_of_getElem? (i := 730) (by first | rfl | decide +kernel)) (by decide +kernel), by decide +kernel, rfl, ⟨by decide, by decide, by decide +kernel⟩, Or.inr (Or.inr (Or.inr (Or.inr ⟨rfl, rfl⟩))), gws_of (List.mem_of_getElem? (i := 65) (by decide +kernel)) (by decide +kernel), (fun h => by cases h), cd89⟩
theorem cd90 : CdOk 90 := cd_of tMo_has (n := 15) (fun _ => rfl) (by decide +kernel)
set_option maxRecDepth 100000 in
theorem mo90 : MtOk 90 := ⟨rfl, gws_of (List.mem_of_getElem? (i := 742) (by first | rfl | decide +kernel)) (by decide +kernel), by decide +kernel, rfl, ⟨by decide, by decide, by decide +kernel⟩, Or.inr (Or.inr (Or.inr (Or.inr ⟨rfl, rfl⟩))), gws_of (List.mem_of_getElem? (i := 65) (by decide +kernel)) (by decide +kernel), (fun h => by cases h), cd90⟩
theorem cd91 : CdOk 91 := cd_of tMo_isEvent (n := 9) (fun _ => rfl) (by decide +kernel)
set_option maxRecDepth 100000 in
theorem mo91 : MtOk 91 := ⟨rfl, gws_of (List.mem_of_getElem? (i := 842) (by first | rfl | decide +kernel)) (by decide +kernel), by decide +kernel, rfl, ⟨by decide, by decide, by decide +kernel⟩, Or.inr (Or.inr (Or.inr (Or.inr ⟨rfl, rfl⟩))), gws_of (List.mem_of_getElem? (i := 65) (by decide +kernel)) (by decide +kernel), (fun h => by cases h), cd91⟩
theorem cd92 : CdOk 92 := cd_of tMo_key (n := 64) (fun _ => rfl) (by decide +kernel)
set_option maxRecDepth 100000 in
theorem mo92 : MtOk 92 := ⟨rfl, gws_of (List.mem_of_getElem? (i := 766) (by first | rfl | decide +kernel)) (by decide +kernel), by decide +kernel, rfl, ⟨by decide, by decide, by decide +kernel⟩, Or.inr (Or.inl ⟨rfl, rfl⟩), gws_of (List.mem_of_getElem? (i := 65) (by decide +kernel)) (by decide +kernel), (fun h => by cases h), cd92⟩
theorem cd93 : CdOk 93 := cd_of tMo_membership (n := 22) (fun _ => rfl) (by decide +kernel)
set_option maxRecDepth 100000 in
theorem mo93 : MtOk 93 := ⟨rfl, gws_of (List.mem_of_getElem? (i := 786) (by first | rfl | decide +kernel)) (by decide +kernel), by decide +kernel, rfl, ⟨by decide, by decide, by decide +kernel⟩, Or.inr (Or.inl ⟨rfl, rfl⟩), gws_of (List.mem_of_getElem? (i := 65) (by decide +kernel)) (by decide +kernel), (fun h => by cases h), cd93⟩
theorem cd94 : CdOk 94 := cd_of tMo_level (n := 32) (fun _ => rfl) (by decide +kernel)
set_option maxRecDepth 100000 in
theorem mo94 : MtOk 94 := ⟨rfl, gws_of (List.mem_of_getElem? (i := 770) (by first | rfl | decide +kernel)) (by decide +kernel), by decide +kernel, rfl, ⟨by decide, by decide, by decide +kernel⟩, Or.inr (Or.inl ⟨rfl, rfl⟩), gws_of (List.mem_of_getElem? (i := 65) (by decide +kernel)) (by decide +kernel), (fun h => by cases h), cd94⟩
theorem cd95 : CdOk 95 := cd_of tMo_joins (n := 111) (fun _ => rfl) (by decide +kernel)
set_option maxRecDepth 100000 in
theorem mo95 : MtOk 95 := ⟨rfl, gws_of (List.mem_of_getElem? (i := 790) (by first | rfl | decide +kernel)) (by decide +kernel), by decide +kernel, rfl, ⟨by decide, by decide, by decide +kernel⟩, Or.inr (Or.inr (Or.inr (Or.inr ⟨rfl, rfl⟩))), gws_of (List.mem_of_getElem? (i := 65) (by decide +kernel)) (by decide +kernel), (fun h => by cases h), cd95⟩
theorem cd96 : CdOk 96 := cd_of tMo_levels (n := 85) (fun _ => rfl) (by decide +kernel)
set_option maxRecDepth 100000 in
theorem mo96 : MtOk 96 := ⟨rfl, gws_of (List.mem_of_getElem? (i := 794) (by first | rfl | decide +kernel)) (by decide +kernel), by decide +kernel, rfl, ⟨by decide, by decide, by decide +kernel⟩, Or.inr (Or.inr (Or.inr (Or.inr ⟨rfl, rfl⟩))), gws_of (List.mem_of_getElem? (i := 65) (by decide +kernel)) (by decide +kernel), (fun h => by cases h), cd96⟩
theorem cd97 : CdOk 97 := cd_of tMo_allowed (n := 278) (fun _ => rfl) (by decide +kernel)
set_option maxRecDepth 100000 in
theorem mo97 : MtOk 97 := ⟨rfl, gws_of (List.mem_of_getElem? (i := 782) (by first | rfl | decide +kernel)) (by decide +kernel), by decide +kernel, rfl, ⟨by decide, by decide, by decide +kernel⟩, Or.inr (Or.inr (Or.inr (Or.inr ⟨rfl, rfl⟩))), gws_of (List.mem_of_getElem? (i := 65) (by decide +kernel)) (by decide +kernel), (fun h => by cases h), cd97⟩
theorem cd98 : CdOk 98 := cd_of tMo_gather (n := 59) (fun _ => rfl) (by decide +kernel)
set_option maxRecDepth 100000 in
theorem mo98 : MtOk 98 := ⟨rfl, gws_of (List.mem_of_getElem? (i := 762) (by first | rfl | decide +kernel)) (by decide +kernel), by decide +kernel, rfl, ⟨by decide, by decide, by decide +kernel⟩, Or.inl ⟨rfl, rfl⟩, gws_of (List.mem_of_getElem? (i := 65) (by decide +kernel)) (by decide +kernel), (fun h => by cases h), cd98⟩
theorem cd99 : CdOk 99 := cd_of tMo_tryIt (n := 72) (fun _ => rfl) (by decide +kernel)
set_option maxRecDepth 100000 in
theorem mo99 : MtOk 99 := ⟨rfl, gws_of (List.mem_of_getElem? (i := 778) (by first | rfl | decide +kernel)) (by decide +kernel), by decide +kernel, rfl, ⟨by decide, by decide, by decide +kernel⟩, Or.inl ⟨rfl, rfl⟩, gws_of (List.mem_of_getElem? (i := 65) (by decide +kernel)) (by decide +kernel), (fun h => by cases h), cd99⟩
theorem cd100 : CdOk 100 := cd_of tMo_heavy (n := 51) (fun _ => rfl) (by decide +kernel)
set_option maxRecDepth 100000 in
theorem mo100 : MtOk 100 := ⟨rfl, gws_of (List.mem_of_getElem? (i := 746) (by first | rfl | decide +kernel)) (by decide +kernel), by decide +kernel, rfl, ⟨by decide, by decide, by decide +kernel⟩, Or.inr (Or.inr (Or.inr (Or.inr ⟨rfl, rfl⟩))), gws_of (List.mem_of_getElem? (i := 65) (by decide +kernel)) (by decide +kernel), (fun h => by cases h), cd100⟩
theorem cd101 : CdOk 101 := cd_of tMo_standing (n := 19) (fun _ => rfl) (by decide +kernel)
set_option maxRecDepth 100000 in
theorem mo101 : MtOk 101 := ⟨rfl, gws_of (List.mem_of_getElem? (i := 758) (by first | rfl | decide +kernel)) (by decide +kernel), by decide +kernel, rfl, ⟨by decide, by decide, by decide +kernel⟩, Or.inr (Or.inl ⟨rfl, rfl⟩), gws_of (List.mem_of_getElem? (i := 65) (by decide +kernel)) (by decide +kernel), (fun h => by cases h), cd101⟩
theorem cd102 : CdOk 102 := cd_of tMo_sooner (n := 40) (fun _ => rfl) (by decide +kernel)
set_option maxRecDepth 100000 in
theorem mo102 : MtOk 102 := ⟨rfl, gws_of (List.mem_of_getElem? (i := 774) (by first | rfl | decide +kernel)) (by decide +kernel), by decide +kernel, rfl, ⟨by decide, by decide, by decide +kernel⟩, Or.inr (Or.inr (Or.inr (Or.inr ⟨rfl, rfl⟩))), gws_of (List.mem_of_getElem? (i := 65) (by decide +kernel)) (by decide +kernel), (fun h => by cases h), cd102⟩
theorem cd103 : CdOk 103 := cd_of tMo_tryHeavy (n := 132) (fun _ => rfl) (by decide +kernel)
set_option maxRecDepth 100000 in
theorem mo103 : MtOk 103 := ⟨rfl, gws_of (List.mem_of_getElem? (i := 754) (by first | rfl | decide +kernel)) (by decide +kernel), by decide +kernel, rfl, ⟨by decide, by decide, by decide +kernel⟩, Or.inl ⟨rfl, rfl⟩, gws_of (List.mem_of_getElem? (i := 65) (by decide +kernel)) (by decide +kernel), (fun h => by cases h), cd103⟩
theorem cd104 : CdOk 104 := cd_of tMo_levelsOf (n := 11) (fun _ => rfl) (by decide +kernel)
set_option maxRecDepth 100000 in
theorem mo104 : MtOk 104 := ⟨rfl, gws_of (List.mem_of_getElem? (i := 802) (by first | rfl | decide +kernel)) (by decide +kernel), by decide +kernel, rfl, ⟨by decide, by decide, by decide +kernel⟩, Or.inr (Or.inl ⟨rfl, rfl⟩), gws_of (List.mem_of_getElem? (i := 65) (by decide +kernel)) (by decide +kernel), (fun h => by cases h), cd104⟩
theorem cd105 : CdOk 105 := cd_of tMo_mainline (n := 59) (fun _ => rfl) (by decide +kernel)
set_option maxRecDepth 100000 in
theorem mo105 : MtOk 105 := ⟨rfl, gws_of (List.mem_of_getElem? (i := 798) (by first | rfl | decide +kernel)) (by decide +kernel), by decide +kernel, rfl, ⟨by decide, by decide, by decide +kernel⟩, Or.inl ⟨rfl, rfl⟩, gws_of (List.mem_of_getElem? (i := 65) (by decide +kernel)) (by decide +kernel), (fun h => by cases h), cd105⟩
theorem cd106 : CdOk 106 := cd_of tMo_placeOf (n := 43) (fun _ => rfl) (by decide +kernel)
set_option maxRecDepth 100000 in
theorem mo106 : MtOk 106 := ⟨rfl, gws_of (List.mem_of_getElem? (i := 810) (by first | rfl | decide +kernel)) (by decide +kernel), by decide +kernel, rfl, ⟨by decide, by decide, by decide +kernel⟩, Or.inr (Or.inl ⟨rfl, rfl⟩), gws_of (List.mem_of_getElem? (i := 65) (by decide +kernel)) (by decide +kernel), (fun h => by cases h), cd106⟩
theorem cd107 : CdOk 107 := cd_of tMo_tryOthers (n := 118) (fun _ => rfl) (by decide +kernel)
set_option maxRecDepth 100000 in
theorem mo107 : MtOk 107 := ⟨rfl, gws_of (List.mem_of_getElem? (i := 806) (by first | rfl | decide +kernel)) (by decide +kernel), by decide +kernel, rfl, ⟨by decide, by decide, by decide +kernel⟩, Or.inl ⟨rfl, rfl⟩, gws_of (List.mem_of_getElem? (i := 65) (by decide +kernel)) (by decide +kernel), (fun h => by cases h), cd107⟩
theorem cd108 : CdOk 108 := cd_of tMo_resolve (n := 433) (fun _ => rfl) (by decide +kernel)
set_option maxRecDepth 100000 in
theorem mo108 : MtOk 108 := ⟨rfl, gws_of (List.mem_of_getElem? (i := 739) (by first | rfl | decide +kernel)) (by decide +kernel), by decide +kernel, rfl, ⟨by decide, by decide, by decide +kernel⟩, Or.inl ⟨rfl, rfl⟩, gws_of (List.mem_of_getElem? (i := 65) (by decide +kernel)) (by decide +kernel), (fun h => by cases h), cd108⟩
theorem cd109 : CdOk 109 := cd_of tMo_agree (n := 44) (fun _ => rfl) (by decide +kernel)
set_option maxRecDepth 100000 in
theorem mo109 : MtOk 109 := ⟨rfl, gws_of (List.mem_of_getElem? (i := 750) (by first | rfl | decide +kernel)) (by decide +kernel), by decide +kernel, rfl, ⟨by decide, by decide, by decide +kernel⟩, Or.inl ⟨rfl, rfl⟩, gws_of (List.mem_of_getElem? (i := 65) (by decide +kernel)) (by decide +kernel), (fun h => by cases h), cd109⟩
theorem cd110 : CdOk 110 := cd_of tMo_known (n := 20) (fun _ => rfl) (by decide +kernel)
set_option maxRecDepth 100000 in
theorem mo110 : MtOk 110 := ⟨rfl, gws_of (List.mem_of_getElem? (i := 830) (by first | rfl | decide +kernel)) (by decide +kernel), by decide +kernel, rfl, ⟨by decide, by decide, by decide +kernel⟩, Or.inr (Or.inr (Or.inr (Or.inr ⟨rfl, rfl⟩))), gws_of (List.mem_of_getElem? (i := 65) (by decide +kernel)) (by decide +kernel), (fun h => by cases h), cd110⟩
theorem cd111 : CdOk 111 := cd_of tMo_ready (n := 39) (fun _ => rfl) (by decide +kernel)
set_option maxRecDepth 100000 in
theorem mo111 : MtOk 111 := ⟨rfl, gws_of (List.mem_of_getElem? (i := 826) (by first | rfl | decide +kernel)) (by decide +kernel), by decide +kernel, rfl, ⟨by decide, by decide, by decide +kernel⟩, Or.inr (Or.inr (Or.inr (Or.inr ⟨rfl, rfl⟩))), gws_of (List.mem_of_getElem? (i := 65) (by decide +kernel)) (by decide +kernel), (fun h => by cases h), cd111⟩
theorem cd112 : CdOk 112 := cd_of tMo_look (n := 82) (fun _ => rfl) (by decide +kernel)
set_option maxRecDepth 100000 in
theorem mo112 : MtOk 112 := ⟨rfl, gws_of (List.mem_of_getElem? (i := 822) (by first | rfl | decide +kernel)) (by decide +kernel), by decide +kernel, rfl, ⟨by decide, by decide, by decide +kernel⟩, Or.inl ⟨rfl, rfl⟩, gws_of (List.mem_of_getElem? (i := 65) (by decide +kernel)) (by decide +kernel), (fun h => by cases h), cd112⟩
theorem cd113 : CdOk 113 := cd_of tMo_endsOf (n := 66) (fun _ => rfl) (by decide +kernel)
set_option maxRecDepth 100000 in
theorem mo113 : MtOk 113 := ⟨rfl, gws_of (List.mem_of_getElem? (i := 734) (by first | rfl | decide +kernel)) (by decide +kernel), by decide +kernel, rfl, ⟨by decide, by decide, by decide +kernel⟩, Or.inr (Or.inr (Or.inl ⟨rfl, rfl⟩)), gws_of (List.mem_of_getElem? (i := 65) (by decide +kernel)) (by decide +kernel), (fun h => by cases h), cd113⟩
theorem cd114 : CdOk 114 := cd_of tMo_size (n := 33) (fun _ => rfl) (by decide +kernel)
set_option maxRecDepth 100000 in
theorem mo114 : MtOk 114 := ⟨rfl, gws_of (List.mem_of_getElem? (i := 857) (by first | rfl | decide +kernel)) (by decide +kernel), by decide +kernel, rfl, ⟨by decide, by decide, by decide +kernel⟩, Or.inr (Or.inl ⟨rfl, rfl⟩), gws_of (List.mem_of_getElem? (i := 65) (by decide +kernel)) (by decide +kernel), (fun h => by cases h), cd114⟩
theorem cd115 : CdOk 115 := cd_of tMo_fits (n := 62) (fun _ => rfl) (by decide +kernel)
set_option maxRecDepth 100000 in
theorem mo115 : MtOk 115 := ⟨rfl, gws_of (List.mem_of_getElem? (i := 727) (by first | rfl | decide +kernel)) (by decide +kernel), by decide +kernel, rfl, ⟨by decide, by decide, by decide +kernel⟩, Or.inr (Or.inr (Or.inr (Or.inr ⟨rfl, rfl⟩))), gws_of (List.mem_of_getElem? (i := 65) (by decide +kernel)) (by decide +kernel), (fun h => by cases h), cd115⟩
theorem cd116 : CdOk 116 := cd_of tMo_prepare (n := 347) (fun _ => rfl) (by decide +kernel)
set_option maxRecDepth 100000 in
theorem mo116 : MtOk 116 := ⟨rfl, gws_of (List.mem_of_getElem? (i := 814) (by first | rfl | decide +kernel)) (by decide +kernel), by decide +kernel, rfl, ⟨by decide, by decide, by decide +kernel⟩, Or.inl ⟨rfl, rfl⟩, gws_of (List.mem_of_getElem? (i := 65) (by decide +kernel)) (by decide +kernel), (fun h => by cases h), cd116⟩
theorem cd117 : CdOk 117 := cd_of tMo_finish (n := 163) (fun _ => rfl) (by decide +kernel)
set_option maxRecDepth 100000 in
theorem mo117 : MtOk 117 := ⟨rfl, gws_of (List.mem_of_getElem? (i := 818) (by first | rfl | decide +kernel)) (by decide +kernel), by decide +kernel, rfl, ⟨by decide, by decide, by decide +kernel⟩, Or.inr (Or.inl ⟨rfl, rfl⟩), gws_of (List.mem_of_getElem? (i := 65) (by decide +kernel)) (by decide +kernel), (fun h => by cases h), cd117⟩
theorem cd118 : CdOk 118 := cd_of tMo_act (n := 73) (fun _ => rfl) (by decide +kernel)
set_option maxRecDepth 100000 in
theorem mo118 : MtOk 118 := ⟨rfl, gws_of (List.mem_of_getElem? (i := 724) (by first | rfl | decide +kernel)) (by decide +kernel), by decide +kernel, rfl, ⟨by decide, by decide, by decide +kernel⟩, Or.inr (Or.inl ⟨rfl, rfl⟩), gws_of (List.mem_of_getElem? (i := 65) (by decide +kernel)) (by decide +kernel), (fun h => by cases h), cd118⟩
theorem cd119 : CdOk 119 := cd_of tMo_branch (n := 74) (fun _ => rfl) (by decide +kernel)
set_option maxRecDepth 100000 in
theorem mo119 : MtOk 119 := ⟨rfl, gws_of (List.mem_of_getElem? (i := 838) (by first | rfl | decide +kernel)) (by decide +kernel), by decide +kernel, rfl, ⟨by decide, by decide, by decide +kernel⟩, Or.inr (Or.inl ⟨rfl, rfl⟩), gws_of (List.mem_of_getElem? (i := 65) (by decide +kernel)) (by decide +kernel), (fun h => by cases h), cd119⟩
theorem cd120 : CdOk 120 := cd_of tMo_tick (n := 24) (fun _ => rfl) (by decide +kernel)
set_option maxRecDepth 100000 in
theorem mo120 : MtOk 120 := ⟨rfl, gws_of (List.mem_of_getElem? (i := 846) (by first | rfl | decide +kernel)) (by decide +kernel), by decide +kernel, rfl, ⟨by decide, by decide, by decide +kernel⟩, Or.inr (Or.inr (Or.inr (Or.inr ⟨rfl, rfl⟩))), gws_of (List.mem_of_getElem? (i := 65) (by decide +kernel)) (by decide +kernel), (fun h => by cases h), cd120⟩
theorem cd121 : CdOk 121 := cd_of tMo_offset (n := 30) (fun _ => rfl) (by decide +kernel)
set_option maxRecDepth 100000 in
theorem mo121 : MtOk 121 := ⟨rfl, gws_of (List.mem_of_getElem? (i := 850) (by first | rfl | decide +kernel)) (by decide +kernel), by decide +kernel, rfl, ⟨by decide, by decide, by decide +kernel⟩, Or.inr (Or.inr (Or.inr (Or.inr ⟨rfl, rfl⟩))), gws_of (List.mem_of_getElem? (i := 65) (by decide +kernel)) (by decide +kernel), (fun h => by cases h), cd121⟩
theorem cd122 : CdOk 122 := cd_of tMo_send (n := 71) (fun _ => rfl) (by decide +kernel)
set_option maxRecDepth 100000 in
theorem mo122 : MtOk 122 := ⟨rfl, gws_of (List.mem_of_getElem? (i := 834) (by first | rfl | decide +kernel)) (by decide +kernel), by decide +kernel, rfl, ⟨by decide, by decide, by decide +kernel⟩, Or.inl ⟨rfl, rfl⟩, gws_of (List.mem_of_getElem? (i := 65) (by decide +kernel)) (by decide +kernel), (fun h => by cases h), cd122⟩
theorem cd123 : CdOk 123 := cd_of tMo_take (n := 96) (fun _ => rfl) (by decide +kernel)
set_option maxRecDepth 100000 in
theorem mo123 : MtOk 123 := ⟨rfl, gws_of (List.mem_of_getElem? (i := 865) (by first | rfl | decide +kernel)) (by decide +kernel), by decide +kernel, rfl, ⟨by decide, by decide, by decide +kernel⟩, Or.inl ⟨rfl, rfl⟩, gws_of (List.mem_of_getElem? (i := 65) (by decide +kernel)) (by decide +kernel), (fun h => by cases h), cd123⟩
theorem cd124 : CdOk 124 := cd_of tMo_offer (n := 71) (fun _ => rfl) (by decide +kernel)
set_option maxRecDepth 100000 in
theorem mo124 : MtOk 124 := ⟨rfl, gws_of (List.mem_of_getElem? (i := 854) (by first | rfl | decide +kernel)) (by decide +kernel), by decide +kernel, rfl, ⟨by decide, by decide, by decide +kernel⟩, Or.inr (Or.inl ⟨rfl, rfl⟩), gws_of (List.mem_of_getElem? (i := 65) (by decide +kernel)) (by decide +kernel), (fun h => by cases h), cd124⟩
theorem cd125 : CdOk 125 := cd_of tMo_deliver (n := 114) (fun _ => rfl) (by decide +kernel)
set_option maxRecDepth 100000 in
theorem mo125 : MtOk 125 := ⟨rfl, gws_of (List.mem_of_getElem? (i := 861) (by first | rfl | decide +kernel)) (by decide +kernel), by decide +kernel, rfl, ⟨by decide, by decide, by decide +kernel⟩, Or.inr (Or.inl ⟨rfl, rfl⟩), gws_of (List.mem_of_getElem? (i := 65) (by decide +kernel)) (by decide +kernel), (fun h => by cases h), cd125⟩
theorem cd126 : CdOk 126 := cd_of tMo_come (n := 79) (fun _ => rfl) (by decide +kernel)
set_option maxRecDepth 100000 in
theorem mo126 : MtOk 126 := ⟨rfl, gws_of (List.mem_of_getElem? (i := 869) (by first | rfl | decide +kernel)) (by decide +kernel), by decide +kernel, rfl, ⟨by decide, by decide, by decide +kernel⟩, Or.inl ⟨rfl, rfl⟩, gws_of (List.mem_of_getElem? (i := 65) (by decide +kernel)) (by decide +kernel), (fun h => by cases h), cd126⟩
theorem cd127 : CdOk 127 := cd_of tMo_lose (n := 29) (fun _ => rfl) (by decide +kernel)
set_option maxRecDepth 100000 in
theorem mo127 : MtOk 127 := ⟨rfl, gws_of (List.mem_of_getElem? (i := 873) (by first | rfl | decide +kernel)) (by decide +kernel), by decide +kernel, rfl, ⟨by decide, by decide, by decide +kernel⟩, Or.inr (Or.inl ⟨rfl, rfl⟩), gws_of (List.mem_of_getElem? (i := 65) (by decide +kernel)) (by decide +kernel), (fun h => by cases h), cd127⟩
theorem cd128 : CdOk 128 := cd_of tMo_spoil (n := 43) (fun _ => rfl) (by decide +kernel)
set_option maxRecDepth 100000 in
theorem mo128 : MtOk 128 := ⟨rfl, gws_of (List.mem_of_getElem? (i := 877) (by first | rfl | decide +kernel)) (by decide +kernel), by decide +kernel, rfl, ⟨by decide, by decide, by decide +kernel⟩, Or.inr (Or.inr (Or.inr (Or.inr ⟨rfl, rfl⟩))), gws_of (List.mem_of_getElem? (i := 65) (by decide +kernel)) (by decide +kernel), (fun h => by cases h), cd128⟩
theorem cd129 : CdOk 129 := cd_of tMo_flying (n := 4) (fun _ => rfl) (by decide +kernel)
set_option maxRecDepth 100000 in
theorem mo129 : MtOk 129 := ⟨rfl, gws_of (List.mem_of_getElem? (i := 881) (by first | rfl | decide +kernel)) (by decide +kernel), by decide +kernel, rfl, ⟨by decide, by decide, by decide +kernel⟩, Or.inr (Or.inl ⟨rfl, rfl⟩), gws_of (List.mem_of_getElem? (i := 65) (by decide +kernel)) (by decide +kernel), (fun h => by cases h), cd129⟩
theorem cd130 : CdOk 130 := cd_of tMo_message (n := 73) (fun _ => rfl) (by decide +kernel)
set_option maxRecDepth 100000 in
theorem mo130 : MtOk 130 := ⟨rfl, gws_of (List.mem_of_getElem? (i := 885) (by first | rfl | decide +kernel)) (by decide +kernel), by decide +kernel, rfl, ⟨by decide, by decide, by decide +kernel⟩, Or.inr (Or.inl ⟨rfl, rfl⟩), gws_of (List.mem_of_getElem? (i := 65) (by decide +kernel)) (by decide +kernel), (fun h => by cases h), cd130⟩
theorem cd131 : CdOk 131 := cd_of tMo_status (n := 32) (fun _ => rfl) (by decide +kernel)
set_option maxRecDepth 100000 in
theorem mo131 : MtOk 131 := ⟨rfl, gws_of (List.mem_of_getElem? (i := 889) (by first | rfl | decide +kernel)) (by decide +kernel), by decide +kernel, rfl, ⟨by decide, by decide, by decide +kernel⟩, Or.inr (Or.inl ⟨rfl, rfl⟩), gws_of (List.mem_of_getElem? (i := 65) (by decide +kernel)) (by decide +kernel), (fun h => by cases h), cd131⟩
theorem cd132 : CdOk 132 := cd_of tMo_ends (n := 21) (fun _ => rfl) (by decide +kernel)
set_option maxRecDepth 100000 in
theorem mo132 : MtOk 132 := ⟨rfl, gws_of (List.mem_of_getElem? (i := 893) (by first | rfl | decide +kernel)) (by decide +kernel), by decide +kernel, rfl, ⟨by decide, by decide, by decide +kernel⟩, Or.inr (Or.inl ⟨rfl, rfl⟩), gws_of (List.mem_of_getElem? (i := 65) (by decide +kernel)) (by decide +kernel), (fun h => by cases h), cd132⟩
theorem cd133 : CdOk 133 := cd_of tMo_refresh (n := 11) (fun _ => rfl) (by decide +kernel)
set_option maxRecDepth 100000 in
theorem mo133 : MtOk 133 := ⟨rfl, gws_of (List.mem_of_getElem? (i := 901) (by first | rfl | decide +kernel)) (by decide +kernel), by decide +kernel, rfl, ⟨by decide, by decide, by decide +kernel⟩, Or.inl ⟨rfl, rfl⟩, gws_of (List.mem_of_getElem? (i := 65) (by decide +kernel)) (by decide +kernel), (fun h => by cases h), cd133⟩
theorem cd134 : CdOk 134 := cd_of tMo_current (n := 32) (fun _ => rfl) (by decide +kernel)
set_option maxRecDepth 100000 in
theorem mo134 : MtOk 134 := ⟨rfl, gws_of (List.mem_of_getElem? (i := 897) (by first | rfl | decide +kernel)) (by decide +kernel), by decide +kernel, rfl, ⟨by decide, by decide, by decide +kernel⟩, Or.inr (Or.inl ⟨rfl, rfl⟩), gws_of (List.mem_of_getElem? (i := 65) (by decide +kernel)) (by decide +kernel), (fun h => by cases h), cd134⟩
theorem cd135 : CdOk 135 := cd_of tMo_member (n := 47) (fun _ => rfl) (by decide +kernel)
set_option maxRecDepth 100000 in
theorem mo135 : MtOk 135 := ⟨rfl, gws_of (List.mem_of_getElem? (i := 905) (by first | rfl | decide +kernel)) (by decide +kernel), by decide +kernel, rfl, ⟨by decide, by decide, by decide +kernel⟩, Or.inr (Or.inl ⟨rfl, rfl⟩), gws_of (List.mem_of_getElem? (i := 65) (by decide +kernel)) (by decide +kernel), (fun h => by cases h), cd135⟩
theorem cd136 : CdOk 136 := cd_of tMo_after (n := 33) (fun _ => rfl) (by decide +kernel)
set_option maxRecDepth 100000 in
theorem mo136 : MtOk 136 := ⟨rfl, gws_of (List.mem_of_getElem? (i := 909) (by first | rfl | decide +kernel)) (by decide +kernel), by decide +kernel, rfl, ⟨by decide, by decide, by decide +kernel⟩, Or.inr (Or.inl ⟨rfl, rfl⟩), gws_of (List.mem_of_getElem? (i := 65) (by decide +kernel)) (by decide +kernel), (fun h => by cases h), cd136⟩
theorem cd137 : CdOk 137 := cd_of tMo_event (n := 141) (fun _ => rfl) (by decide +kernel)
set_option maxRecDepth 100000 in
theorem mo137 : MtOk 137 := ⟨rfl, gws_of (List.mem_of_getElem? (i := 913) (by first | rfl | decide +kernel)) (by decide +kernel), by decide +kernel, rfl, ⟨by decide, by decide, by decide +kernel⟩, Or.inr (Or.inl ⟨rfl, rfl⟩), gws_of (List.mem_of_getElem? (i := 65) (by decide +kernel)) (by decide +kernel), (fun h => by cases h), cd137⟩
theorem cd138 : CdOk 138 := cd_of tMo_linked (n := 76) (fun _ => rfl) (by decide +kernel)
set_option maxRecDepth 100000 in
theorem mo138 : MtOk 138 := ⟨rfl, gws_of (List.mem_of_getElem? (i := 917) (by first | rfl | decide +kernel)) (by decide +kernel), by decide +kernel, rfl, ⟨by decide, by decide, by decide +kernel⟩, Or.inr (Or.inl ⟨rfl, rfl⟩), gws_of (List.mem_of_getElem? (i := 65) (by decide +kernel)) (by decide +kernel), (fun h => by cases h), cd138⟩
theorem cd139 : CdOk 139 := cd_of tLo_bitCount (n := 60) (fun _ => rfl) (by decide +kernel)
set_option maxRecDepth 100000 in
theorem mo139 : MtOk 139 := ⟨rfl, gws_of (List.mem_of_getElem? (i := 550) (by first | rfl | decide +kernel)) (by decide +kernel), by decide +kernel, rfl, ⟨by decide, by decide, by decide +kernel⟩, Or.inr (Or.inl ⟨rfl, rfl⟩), gws_of (List.mem_of_getElem? (i := 68) (by decide +kernel)) (by decide +kernel), (fun h => by cases h), cd139⟩
theorem cd140 : CdOk 140 := cd_of tAr_fill (n := 20) (fun _ => rfl) (by decide +kernel)
set_option maxRecDepth 100000 in
theorem mo140 : MtOk 140 := ⟨rfl, gws_of (List.mem_of_getElem? (i := 439) (by first | rfl | decide +kernel)) (by decide +kernel), by decide +kernel, rfl, ⟨by decide, by decide, by decide +kernel⟩, Or.inl ⟨rfl, rfl⟩, gws_of (List.mem_of_getElem? (i := 66) (by decide +kernel)) (by decide +kernel), (fun h => by cases h), cd140⟩
theorem cd141 : CdOk 141 := cd_of tLa_law (n := 654) (fun _ => rfl) (by decide +kernel)
theorem sok_0_57 : MtOk 29 ∧ Cond.static (ynm 29) ∈ gws ∧ (Cond.methodLink (cnm 0) 57 (ynm 29) ∈ gws ∨ ∃ q ∈ nwl, q.1 = cnm 0 ∧ q.2.1 = 57 ∧ q.2.2.1 = ynm 29) := ⟨mo29, gws_of (List.mem_of_getElem? (i := 249) (by decide +kernel)) (by decide +kernel), Or.inl (gws_of (List.mem_of_getElem? (i := 248) (by decide +kernel)) (by decide +kernel))⟩
theorem sok_0_122 : MtOk 27 ∧ Cond.static (ynm 27) ∈ gws ∧ (Cond.methodLink (cnm 0) 122 (ynm 27) ∈ gws ∨ ∃ q ∈ nwl, q.1 = cnm 0 ∧ q.2.1 = 122 ∧ q.2.2.1 = ynm 27) := ⟨mo27, gws_of (List.mem_of_getElem? (i := 537) (by decide +kernel)) (by decide +kernel), Or.inl (gws_of (List.mem_of_getElem? (i := 536) (by decide +kernel)) (by decide +kernel))⟩
theorem sok_0_132 : MtOk 139 ∧ Cond.static (ynm 139) ∈ gws ∧ (Cond.methodLink (cnm 0) 132 (ynm 139) ∈ gws ∨ ∃ q ∈ nwl, q.1 = cnm 0 ∧ q.2.1 = 132 ∧ q.2.2.1 = ynm 139) := ⟨mo139, gws_of (List.mem_of_getElem? (i := 549) (by decide +kernel)) (by decide +kernel), Or.inl (gws_of (List.mem_of_getElem? (i := 548) (by decide +kernel)) (by decide +kernel))⟩
theorem sok_0_168 : MtOk 28 ∧ Cond.static (ynm 28) ∈ gws ∧ (Cond.methodLink (cnm 0) 168 (ynm 28) ∈ gws ∨ ∃ q ∈ nwl, q.1 = cnm 0 ∧ q.2.1 = 168 ∧ q.2.2.1 = ynm 28) := ⟨mo28, gws_of (List.mem_of_getElem? (i := 613) (by decide +kernel)) (by decide +kernel), Or.inl (gws_of (List.mem_of_getElem? (i := 612) (by decide +kernel)) (by decide +kernel))⟩
theorem sok_0_174 : MtOk 26 ∧ Cond.static (ynm 26) ∈ gws ∧ (Cond.methodLink (cnm 0) 174 (ynm 26) ∈ gws ∨ ∃ q ∈ nwl, q.1 = cnm 0 ∧ q.2.1 = 174 ∧ q.2.2.1 = ynm 26) := ⟨mo26, gws_of (List.mem_of_getElem? (i := 313) (by decide +kernel)) (by decide +kernel), Or.inl (gws_of (List.mem_of_getElem? (i := 312) (by decide +kernel)) (by decide +kernel))⟩
theorem sok_0_208 : MtOk 30 ∧ Cond.static (ynm 30) ∈ gws ∧ (Cond.methodLink (cnm 0) 208 (ynm 30) ∈ gws ∨ ∃ q ∈ nwl, q.1 = cnm 0 ∧ q.2.1 = 208 ∧ q.2.2.1 = ynm 30) := ⟨mo30, gws_of (List.mem_of_getElem? (i := 324) (by decide +kernel)) (by decide +kernel), Or.inl (gws_of (List.mem_of_getElem? (i := 547) (by decide +kernel)) (by decide +kernel))⟩
theorem sok_1_67 : MtOk 29 ∧ Cond.static (ynm 29) ∈ gws ∧ (Cond.methodLink (cnm 1) 67 (ynm 29) ∈ gws ∨ ∃ q ∈ nwl, q.1 = cnm 1 ∧ q.2.1 = 67 ∧ q.2.2.1 = ynm 29) := ⟨mo29, gws_of (List.mem_of_getElem? (i := 249) (by decide +kernel)) (by decide +kernel), Or.inr ⟨_, List.mem_of_getElem? (i := 5) rfl, rfl, rfl, rfl⟩⟩
theorem sok_2_25 : MtOk 30 ∧ Cond.static (ynm 30) ∈ gws ∧ (Cond.methodLink (cnm 2) 25 (ynm 30) ∈ gws ∨ ∃ q ∈ nwl, q.1 = cnm 2 ∧ q.2.1 = 25 ∧ q.2.2.1 = ynm 30) := ⟨mo30, gws_of (List.mem_of_getElem? (i := 324) (by decide +kernel)) (by decide +kernel), Or.inr ⟨_, List.mem_of_getElem? (i := 6) rfl, rfl, rfl, rfl⟩⟩
theorem sok_4_103 : MtOk 29 ∧ Cond.static (ynm 29) ∈ gws ∧ (Cond.methodLink (cnm 4) 103 (ynm 29) ∈ gws ∨ ∃ q ∈ nwl, q.1 = cnm 4 ∧ q.2.1 = 103 ∧ q.2.2.1 = ynm 29) := ⟨mo29, gws_of (List.mem_of_getElem? (i := 249) (by decide +kernel)) (by decide +kernel), Or.inr ⟨_, List.mem_of_getElem? (i := 7) rfl, rfl, rfl, rfl⟩⟩
theorem sok_4_115 : MtOk 55 ∧ Cond.static (ynm 55) ∈ gws ∧ (Cond.methodLink (cnm 4) 115 (ynm 55) ∈ gws ∨ ∃ q ∈ nwl, q.1 = cnm 4 ∧ q.2.1 = 115 ∧ q.2.2.1 = ynm 55) := ⟨mo55, gws_of (List.mem_of_getElem? (i := 376) (by decide +kernel)) (by decide +kernel), Or.inl (gws_of (List.mem_of_getElem? (i := 375) (by decide +kernel)) (by decide +kernel))⟩
theorem sok_4_140 : MtOk 140 ∧ Cond.static (ynm 140) ∈ gws ∧ (Cond.methodLink (cnm 4) 140 (ynm 140) ∈ gws ∨ ∃ q ∈ nwl, q.1 = cnm 4 ∧ q.2.1 = 140 ∧ q.2.2.1 = ynm 140) := ⟨mo140, gws_of (List.mem_of_getElem? (i := 438) (by decide +kernel)) (by decide +kernel), Or.inl (gws_of (List.mem_of_getElem? (i := 437) (by decide +kernel)) (by decide +kernel))⟩
theorem sok_5_15 : MtOk 30 ∧ Cond.static (ynm 30) ∈ gws ∧ (Cond.methodLink (cnm 5) 15 (ynm 30) ∈ gws ∨ ∃ q ∈ nwl, q.1 = cnm 5 ∧ q.2.1 = 15 ∧ q.2.2.1 = ynm 30) := ⟨mo30, gws_of (List.mem_of_getElem? (i := 324) (by decide +kernel)) (by decide +kernel), Or.inr ⟨_, List.mem_of_getElem? (i := 10) rfl, rfl, rfl, rfl⟩⟩
theorem sok_5_33 : MtOk 29 ∧ Cond.static (ynm 29) ∈ gws ∧ (Cond.methodLink (cnm 5) 33 (ynm 29) ∈ gws ∨ ∃ q ∈ nwl, q.1 = cnm 5 ∧ q.2.1 = 33 ∧ q.2.2.1 = ynm 29) := ⟨mo29, gws_of (List.mem_of_getElem? (i := 249) (by decide +kernel)) (by decide +kernel), Or.inr ⟨_, List.mem_of_getElem? (i := 9) rfl, rfl, rfl, rfl⟩⟩
theorem sok_6_79 : MtOk 29 ∧ Cond.static (ynm 29) ∈ gws ∧ (Cond.methodLink (cnm 6) 79 (ynm 29) ∈ gws ∨ ∃ q ∈ nwl, q.1 = cnm 6 ∧ q.2.1 = 79 ∧ q.2.2.1 = ynm 29) := ⟨mo29, gws_of (List.mem_of_getElem? (i := 249) (by decide +kernel)) (by decide +kernel), Or.inr ⟨_, List.mem_of_getElem? (i := 8) rfl, rfl, rfl, rfl⟩⟩
theorem sok_8_84 : MtOk 89 ∧ Cond.static (ynm 89) ∈ gws ∧ (Cond.methodLink (cnm 8) 84 (ynm 89) ∈ gws ∨ ∃ q ∈ nwl, q.1 = cnm 8 ∧ q.2.1 = 84 ∧ q.2.2.1 = ynm 89) := ⟨mo89, gws_of (List.mem_of_getElem? (i := 729) (by decide +kernel)) (by decide +kernel), Or.inl (gws_of (List.mem_of_getElem? (i := 728) (by decide +kernel)) (by decide +kernel))⟩
theorem sok_8_102 : MtOk 90 ∧ Cond.static (ynm 90) ∈ gws ∧ (Cond.methodLink (cnm 8) 102 (ynm 90) ∈ gws ∨ ∃ q ∈ nwl, q.1 = cnm 8 ∧ q.2.1 = 102 ∧ q.2.2.1 = ynm 90) := ⟨mo90, gws_of (List.mem_of_getElem? (i := 741) (by decide +kernel)) (by decide +kernel), Or.inl (gws_of (List.mem_of_getElem? (i := 740) (by decide +kernel)) (by decide +kernel))⟩
theorem sok_8_169 : MtOk 115 ∧ Cond.static (ynm 115) ∈ gws ∧ (Cond.methodLink (cnm 8) 169 (ynm 115) ∈ gws ∨ ∃ q ∈ nwl, q.1 = cnm 8 ∧ q.2.1 = 169 ∧ q.2.2.1 = ynm 115) := ⟨mo115, gws_of (List.mem_of_getElem? (i := 726) (by decide +kernel)) (by decide +kernel), Or.inl (gws_of (List.mem_of_getElem? (i := 725) (by decide +kernel)) (by decide +kernel))⟩
theorem sok_8_194 : MtOk 114 ∧ Cond.static (ynm 114) ∈ gws ∧ (Cond.methodLink (cnm 8) 194 (ynm 114) ∈ gws ∨ ∃ q ∈ nwl, q.1 = cnm 8 ∧ q.2.1 = 194 ∧ q.2.2.1 = ynm 114) := ⟨mo114, gws_of (List.mem_of_getElem? (i := 856) (by decide +kernel)) (by decide +kernel), Or.inl (gws_of (List.mem_of_getElem? (i := 855) (by decide +kernel)) (by decide +kernel))⟩
theorem tb_s : ∀ o x e, mts o x = some e → MtOk e ∧ Cond.static (ynm e) ∈ gws ∧ (Cond.methodLink (cnm o) x (ynm e) ∈ gws ∨ ∃ q ∈ nwl, q.1 = cnm o ∧ q.2.1 = x ∧ q.2.2.1 = ynm e) := by
  intro o x e h
  have h := pl_of (f := mts) (l := mtsl) (fun o x q => by
    unfold mts
    rw [q]
    rfl) (by decide +kernel) h
  match o, h with
  | 0, h =>
    have h : (x, e) ∈ nth [] mtsl 0 := h
    simp only [mtsl, nth, List.mem_cons, Prod.mk.injEq, List.not_mem_nil, or_false] at h
    rcases h with ⟨rfl, rfl⟩ | ⟨rfl, rfl⟩ | ⟨rfl, rfl⟩ | ⟨rfl, rfl⟩ | ⟨rfl, rfl⟩ | ⟨rfl, rfl⟩
    · exact sok_0_57
    · exact sok_0_122
    · exact sok_0_132
    · exact sok_0_168
    · exact sok_0_174
    · exact sok_0_208
  | 1, h =>
    have h : (x, e) ∈ nth [] mtsl 1 := h
    simp only [mtsl, nth, List.mem_cons, Prod.mk.injEq, List.not_mem_nil, or_false] at h
    obtain ⟨rfl, rfl⟩ := h
    exact sok_1_67
  | 2, h =>
    have h : (x, e) ∈ nth [] mtsl 2 := h
    simp only [mtsl, nth, List.mem_cons, Prod.mk.injEq, List.not_mem_nil, or_false] at h
    obtain ⟨rfl, rfl⟩ := h
    exact sok_2_25
  | 3, h => cases h
  | 4, h =>
    have h : (x, e) ∈ nth [] mtsl 4 := h
    simp only [mtsl, nth, List.mem_cons, Prod.mk.injEq, List.not_mem_nil, or_false] at h
    rcases h with ⟨rfl, rfl⟩ | ⟨rfl, rfl⟩ | ⟨rfl, rfl⟩
    · exact sok_4_103
    · exact sok_4_115
    · exact sok_4_140
  | 5, h =>
    have h : (x, e) ∈ nth [] mtsl 5 := h
    simp only [mtsl, nth, List.mem_cons, Prod.mk.injEq, List.not_mem_nil, or_false] at h
    rcases h with ⟨rfl, rfl⟩ | ⟨rfl, rfl⟩
    · exact sok_5_15
    · exact sok_5_33
  | 6, h =>
    have h : (x, e) ∈ nth [] mtsl 6 := h
    simp only [mtsl, nth, List.mem_cons, Prod.mk.injEq, List.not_mem_nil, or_false] at h
    obtain ⟨rfl, rfl⟩ := h
    exact sok_6_79
  | 7, h => cases h
  | 8, h =>
    have h : (x, e) ∈ nth [] mtsl 8 := h
    simp only [mtsl, nth, List.mem_cons, Prod.mk.injEq, List.not_mem_nil, or_false] at h
    rcases h with ⟨rfl, rfl⟩ | ⟨rfl, rfl⟩ | ⟨rfl, rfl⟩ | ⟨rfl, rfl⟩
    · exact sok_8_84
    · exact sok_8_102
    · exact sok_8_169
    · exact sok_8_194
  | 9, h => cases h
  | 10, h => cases h
  | 11, h => cases h
  | j + 12, h => cases h
theorem vok_0_50 : MtOk 39 ∧ Cond.methodLink (cnm 0) 50 (ynm 39) ∈ gws ∧ Cond.instanceMethod (ynm 39) ∈ gws ∧ Cond.selects (ynm 39).cls (ynm 39) (ynm 39) ∈ gws ∧ ∃ r, scl[mown (mtd 39)]? = some r ∧ r.1 = (ynm 39).cls := ⟨mo39, gws_of (List.mem_of_getElem? (i := 228) (by decide +kernel)) (by decide +kernel), gws_of (List.mem_of_getElem? (i := 229) (by decide +kernel)) (by decide +kernel), gws_of (List.mem_of_getElem? (i := 230) (by decide +kernel)) (by decide +kernel), ccl1, rfl, rfl⟩
theorem vok_0_53 : MtOk 41 ∧ Cond.methodLink (cnm 0) 53 (ynm 41) ∈ gws ∧ Cond.instanceMethod (ynm 41) ∈ gws ∧ Cond.selects (ynm 41).cls (ynm 41) (ynm 41) ∈ gws ∧ ∃ r, scl[mown (mtd 41)]? = some r ∧ r.1 = (ynm 41).cls := ⟨mo41, gws_of (List.mem_of_getElem? (i := 244) (by decide +kernel)) (by decide +kernel), gws_of (List.mem_of_getElem? (i := 245) (by decide +kernel)) (by decide +kernel), gws_of (List.mem_of_getElem? (i := 246) (by decide +kernel)) (by decide +kernel), ccl2, rfl, rfl⟩
theorem vok_0_67 : MtOk 68 ∧ Cond.methodLink (cnm 0) 67 (ynm 68) ∈ gws ∧ Cond.instanceMethod (ynm 68) ∈ gws ∧ Cond.selects (ynm 68).cls (ynm 68) (ynm 68) ∈ gws ∧ ∃ r, scl[mown (mtd 68)]? = some r ∧ r.1 = (ynm 68).cls := ⟨mo68, gws_of (List.mem_of_getElem? (i := 251) (by decide +kernel)) (by decide +kernel), gws_of (List.mem_of_getElem? (i := 233) (by decide +kernel)) (by decide +kernel), gws_of (List.mem_of_getElem? (i := 234) (by decide +kernel)) (by decide +kernel), ccl6, rfl, rfl⟩
theorem vok_0_71 : MtOk 37 ∧ Cond.methodLink (cnm 0) 71 (ynm 37) ∈ gws ∧ Cond.instanceMethod (ynm 37) ∈ gws ∧ Cond.selects (ynm 37).cls (ynm 37) (ynm 37) ∈ gws ∧ ∃ r, scl[mown (mtd 37)]? = some r ∧ r.1 = (ynm 37).cls := ⟨mo37, gws_of (List.mem_of_getElem? (i := 252) (by decide +kernel)) (by decide +kernel), gws_of (List.mem_of_getElem? (i := 253) (by decide +kernel)) (by decide +kernel), gws_of (List.mem_of_getElem? (i := 254) (by decide +kernel)) (by decide +kernel), ccl1, rfl, rfl⟩
theorem vok_0_77 : MtOk 18 ∧ Cond.methodLink (cnm 0) 77 (ynm 18) ∈ gws ∧ Cond.instanceMethod (ynm 18) ∈ gws ∧ Cond.selects (ynm 18).cls (ynm 18) (ynm 18) ∈ gws ∧ ∃ r, scl[mown (mtd 18)]? = some r ∧ r.1 = (ynm 18).cls := ⟨mo18, gws_of (List.mem_of_getElem? (i := 308) (by decide +kernel)) (by decide +kernel), gws_of (List.mem_of_getElem? (i := 310) (by decide +kernel)) (by decide +kernel), gws_of (List.mem_of_getElem? (i := 1) (by decide +kernel)) (by decide +kernel), ccl0, rfl, rfl⟩
theorem vok_0_85 : MtOk 22 ∧ Cond.methodLink (cnm 0) 85 (ynm 22) ∈ gws ∧ Cond.instanceMethod (ynm 22) ∈ gws ∧ Cond.selects (ynm 22).cls (ynm 22) (ynm 22) ∈ gws ∧ ∃ r, scl[mown (mtd 22)]? = some r ∧ r.1 = (ynm 22).cls := ⟨mo22, gws_of (List.mem_of_getElem? (i := 315) (by decide +kernel)) (by decide +kernel), gws_of (List.mem_of_getElem? (i := 317) (by decide +kernel)) (by decide +kernel), gws_of (List.mem_of_getElem? (i := 2) (by decide +kernel)) (by decide +kernel), ccl0, rfl, rfl⟩
theorem vok_0_93 : MtOk 48 ∧ Cond.methodLink (cnm 0) 93 (ynm 48) ∈ gws ∧ Cond.instanceMethod (ynm 48) ∈ gws ∧ Cond.selects (ynm 48).cls (ynm 48) (ynm 48) ∈ gws ∧ ∃ r, scl[mown (mtd 48)]? = some r ∧ r.1 = (ynm 48).cls := ⟨mo48, gws_of (List.mem_of_getElem? (i := 335) (by decide +kernel)) (by decide +kernel), gws_of (List.mem_of_getElem? (i := 336) (by decide +kernel)) (by decide +kernel), gws_of (List.mem_of_getElem? (i := 337) (by decide +kernel)) (by decide +kernel), ccl4, rfl, rfl⟩
theorem vok_0_97 : MtOk 36 ∧ Cond.methodLink (cnm 0) 97 (ynm 36) ∈ gws ∧ Cond.instanceMethod (ynm 36) ∈ gws ∧ Cond.selects (ynm 36).cls (ynm 36) (ynm 36) ∈ gws ∧ ∃ r, scl[mown (mtd 36)]? = some r ∧ r.1 = (ynm 36).cls := ⟨mo36, gws_of (List.mem_of_getElem? (i := 457) (by decide +kernel)) (by decide +kernel), gws_of (List.mem_of_getElem? (i := 458) (by decide +kernel)) (by decide +kernel), gws_of (List.mem_of_getElem? (i := 459) (by decide +kernel)) (by decide +kernel), ccl1, rfl, rfl⟩
theorem vok_0_101 : MtOk 76 ∧ Cond.methodLink (cnm 0) 101 (ynm 76) ∈ gws ∧ Cond.instanceMethod (ynm 76) ∈ gws ∧ Cond.selects (ynm 76).cls (ynm 76) (ynm 76) ∈ gws ∧ ∃ r, scl[mown (mtd 76)]? = some r ∧ r.1 = (ynm 76).cls := ⟨mo76, gws_of (List.mem_of_getElem? (i := 465) (by decide +kernel)) (by decide +kernel), gws_of (List.mem_of_getElem? (i := 391) (by decide +kernel)) (by decide +kernel), gws_of (List.mem_of_getElem? (i := 392) (by decide +kernel)) (by decide +kernel), ccl6, rfl, rfl⟩
theorem vok_0_105 : MtOk 19 ∧ Cond.methodLink (cnm 0) 105 (ynm 19) ∈ gws ∧ Cond.instanceMethod (ynm 19) ∈ gws ∧ Cond.selects (ynm 19).cls (ynm 19) (ynm 19) ∈ gws ∧ ∃ r, scl[mown (mtd 19)]? = some r ∧ r.1 = (ynm 19).cls := ⟨mo19, gws_of (List.mem_of_getElem? (i := 466) (by decide +kernel)) (by decide +kernel), gws_of (List.mem_of_getElem? (i := 468) (by decide +kernel)) (by decide +kernel), gws_of (List.mem_of_getElem? (i := 22) (by decide +kernel)) (by decide +kernel), ccl0, rfl, rfl⟩
theorem vok_0_111 : MtOk 42 ∧ Cond.methodLink (cnm 0) 111 (ynm 42) ∈ gws ∧ Cond.instanceMethod (ynm 42) ∈ gws ∧ Cond.selects (ynm 42).cls (ynm 42) (ynm 42) ∈ gws ∧ ∃ r, scl[mown (mtd 42)]? = some r ∧ r.1 = (ynm 42).cls := ⟨mo42, gws_of (List.mem_of_getElem? (i := 522) (by decide +kernel)) (by decide +kernel), gws_of (List.mem_of_getElem? (i := 331) (by decide +kernel)) (by decide +kernel), gws_of (List.mem_of_getElem? (i := 332) (by decide +kernel)) (by decide +kernel), ccl2, rfl, rfl⟩
theorem vok_0_115 : MtOk 63 ∧ Cond.methodLink (cnm 0) 115 (ynm 63) ∈ gws ∧ Cond.instanceMethod (ynm 63) ∈ gws ∧ Cond.selects (ynm 63).cls (ynm 63) (ynm 63) ∈ gws ∧ ∃ r, scl[mown (mtd 63)]? = some r ∧ r.1 = (ynm 63).cls := ⟨mo63, gws_of (List.mem_of_getElem? (i := 523) (by decide +kernel)) (by decide +kernel), gws_of (List.mem_of_getElem? (i := 524) (by decide +kernel)) (by decide +kernel), gws_of (List.mem_of_getElem? (i := 525) (by decide +kernel)) (by decide +kernel), ccl5, rfl, rfl⟩
theorem vok_0_128 : MtOk 25 ∧ Cond.methodLink (cnm 0) 128 (ynm 25) ∈ gws ∧ Cond.instanceMethod (ynm 25) ∈ gws ∧ Cond.selects (ynm 25).cls (ynm 25) (ynm 25) ∈ gws ∧ ∃ r, scl[mown (mtd 25)]? = some r ∧ r.1 = (ynm 25).cls := ⟨mo25, gws_of (List.mem_of_getElem? (i := 543) (by decide +kernel)) (by decide +kernel), gws_of (List.mem_of_getElem? (i := 545) (by decide +kernel)) (by decide +kernel), gws_of (List.mem_of_getElem? (i := 25) (by decide +kernel)) (by decide +kernel), ccl0, rfl, rfl⟩
theorem vok_0_138 : MtOk 87 ∧ Cond.methodLink (cnm 0) 138 (ynm 87) ∈ gws ∧ Cond.instanceMethod (ynm 87) ∈ gws ∧ Cond.selects (ynm 87).cls (ynm 87) (ynm 87) ∈ gws ∧ ∃ r, scl[mown (mtd 87)]? = some r ∧ r.1 = (ynm 87).cls := ⟨mo87, gws_of (List.mem_of_getElem? (i := 558) (by decide +kernel)) (by decide +kernel), gws_of (List.mem_of_getElem? (i := 559) (by decide +kernel)) (by decide +kernel), gws_of (List.mem_of_getElem? (i := 560) (by decide +kernel)) (by decide +kernel), ccl7, rfl, rfl⟩
theorem vok_0_147 : MtOk 24 ∧ Cond.methodLink (cnm 0) 147 (ynm 24) ∈ gws ∧ Cond.instanceMethod (ynm 24) ∈ gws ∧ Cond.selects (ynm 24).cls (ynm 24) (ynm 24) ∈ gws ∧ ∃ r, scl[mown (mtd 24)]? = some r ∧ r.1 = (ynm 24).cls := ⟨mo24, gws_of (List.mem_of_getElem? (i := 566) (by decide +kernel)) (by decide +kernel), gws_of (List.mem_of_getElem? (i := 568) (by decide +kernel)) (by decide +kernel), gws_of (List.mem_of_getElem? (i := 26) (by decide +kernel)) (by decide +kernel), ccl0, rfl, rfl⟩
theorem vok_0_151 : MtOk 23 ∧ Cond.methodLink (cnm 0) 151 (ynm 23) ∈ gws ∧ Cond.instanceMethod (ynm 23) ∈ gws ∧ Cond.selects (ynm 23).cls (ynm 23) (ynm 23) ∈ gws ∧ ∃ r, scl[mown (mtd 23)]? = some r ∧ r.1 = (ynm 23).cls := ⟨mo23, gws_of (List.mem_of_getElem? (i := 574) (by decide +kernel)) (by decide +kernel), gws_of (List.mem_of_getElem? (i := 576) (by decide +kernel)) (by decide +kernel), gws_of (List.mem_of_getElem? (i := 27) (by decide +kernel)) (by decide +kernel), ccl0, rfl, rfl⟩
theorem vok_0_154 : MtOk 86 ∧ Cond.methodLink (cnm 0) 154 (ynm 86) ∈ gws ∧ Cond.instanceMethod (ynm 86) ∈ gws ∧ Cond.selects (ynm 86).cls (ynm 86) (ynm 86) ∈ gws ∧ ∃ r, scl[mown (mtd 86)]? = some r ∧ r.1 = (ynm 86).cls := ⟨mo86, gws_of (List.mem_of_getElem? (i := 587) (by decide +kernel)) (by decide +kernel), gws_of (List.mem_of_getElem? (i := 563) (by decide +kernel)) (by decide +kernel), gws_of (List.mem_of_getElem? (i := 564) (by decide +kernel)) (by decide +kernel), ccl7, rfl, rfl⟩
theorem vok_0_164 : MtOk 46 ∧ Cond.methodLink (cnm 0) 164 (ynm 46) ∈ gws ∧ Cond.instanceMethod (ynm 46) ∈ gws ∧ Cond.selects (ynm 46).cls (ynm 46) (ynm 46) ∈ gws ∧ ∃ r, scl[mown (mtd 46)]? = some r ∧ r.1 = (ynm 46).cls := ⟨mo46, gws_of (List.mem_of_getElem? (i := 596) (by decide +kernel)) (by decide +kernel), gws_of (List.mem_of_getElem? (i := 597) (by decide +kernel)) (by decide +kernel), gws_of (List.mem_of_getElem? (i := 598) (by decide +kernel)) (by decide +kernel), ccl3, rfl, rfl⟩
theorem vok_0_171 : MtOk 70 ∧ Cond.methodLink (cnm 0) 171 (ynm 70) ∈ gws ∧ Cond.instanceMethod (ynm 70) ∈ gws ∧ Cond.selects (ynm 70).cls (ynm 70) (ynm 70) ∈ gws ∧ ∃ r, scl[mown (mtd 70)]? = some r ∧ r.1 = (ynm 70).cls := ⟨mo70, gws_of (List.mem_of_getElem? (i := 615) (by decide +kernel)) (by decide +kernel), gws_of (List.mem_of_getElem? (i := 616) (by decide +kernel)) (by decide +kernel), gws_of (List.mem_of_getElem? (i := 617) (by decide +kernel)) (by decide +kernel), ccl6, rfl, rfl⟩
theorem vok_0_177 : MtOk 71 ∧ Cond.methodLink (cnm 0) 177 (ynm 71) ∈ gws ∧ Cond.instanceMethod (ynm 71) ∈ gws ∧ Cond.selects (ynm 71).cls (ynm 71) (ynm 71) ∈ gws ∧ ∃ r, scl[mown (mtd 71)]? = some r ∧ r.1 = (ynm 71).cls := ⟨mo71, gws_of (List.mem_of_getElem? (i := 623) (by decide +kernel)) (by decide +kernel), gws_of (List.mem_of_getElem? (i := 399) (by decide +kernel)) (by decide +kernel), gws_of (List.mem_of_getElem? (i := 400) (by decide +kernel)) (by decide +kernel), ccl6, rfl, rfl⟩
theorem vok_0_180 : MtOk 72 ∧ Cond.methodLink (cnm 0) 180 (ynm 72) ∈ gws ∧ Cond.instanceMethod (ynm 72) ∈ gws ∧ Cond.selects (ynm 72).cls (ynm 72) (ynm 72) ∈ gws ∧ ∃ r, scl[mown (mtd 72)]? = some r ∧ r.1 = (ynm 72).cls := ⟨mo72, gws_of (List.mem_of_getElem? (i := 624) (by decide +kernel)) (by decide +kernel), gws_of (List.mem_of_getElem? (i := 383) (by decide +kernel)) (by decide +kernel), gws_of (List.mem_of_getElem? (i := 384) (by decide +kernel)) (by decide +kernel), ccl6, rfl, rfl⟩
theorem vok_0_183 : MtOk 43 ∧ Cond.methodLink (cnm 0) 183 (ynm 43) ∈ gws ∧ Cond.instanceMethod (ynm 43) ∈ gws ∧ Cond.selects (ynm 43).cls (ynm 43) (ynm 43) ∈ gws ∧ ∃ r, scl[mown (mtd 43)]? = some r ∧ r.1 = (ynm 43).cls := ⟨mo43, gws_of (List.mem_of_getElem? (i := 578) (by decide +kernel)) (by decide +kernel), gws_of (List.mem_of_getElem? (i := 327) (by decide +kernel)) (by decide +kernel), gws_of (List.mem_of_getElem? (i := 328) (by decide +kernel)) (by decide +kernel), ccl2, rfl, rfl⟩
theorem vok_0_215 : MtOk 20 ∧ Cond.methodLink (cnm 0) 215 (ynm 20) ∈ gws ∧ Cond.instanceMethod (ynm 20) ∈ gws ∧ Cond.selects (ynm 20).cls (ynm 20) (ynm 20) ∈ gws ∧ ∃ r, scl[mown (mtd 20)]? = some r ∧ r.1 = (ynm 20).cls := ⟨mo20, gws_of (List.mem_of_getElem? (i := 470) (by decide +kernel)) (by decide +kernel), gws_of (List.mem_of_getElem? (i := 472) (by decide +kernel)) (by decide +kernel), gws_of (List.mem_of_getElem? (i := 23) (by decide +kernel)) (by decide +kernel), ccl0, rfl, rfl⟩
theorem vok_0_219 : MtOk 85 ∧ Cond.methodLink (cnm 0) 219 (ynm 85) ∈ gws ∧ Cond.instanceMethod (ynm 85) ∈ gws ∧ Cond.selects (ynm 85).cls (ynm 85) (ynm 85) ∈ gws ∧ ∃ r, scl[mown (mtd 85)]? = some r ∧ r.1 = (ynm 85).cls := ⟨mo85, gws_of (List.mem_of_getElem? (i := 488) (by decide +kernel)) (by decide +kernel), gws_of (List.mem_of_getElem? (i := 489) (by decide +kernel)) (by decide +kernel), gws_of (List.mem_of_getElem? (i := 490) (by decide +kernel)) (by decide +kernel), ccl7, rfl, rfl⟩
theorem vok_0_223 : MtOk 66 ∧ Cond.methodLink (cnm 0) 223 (ynm 66) ∈ gws ∧ Cond.instanceMethod (ynm 66) ∈ gws ∧ Cond.selects (ynm 66).cls (ynm 66) (ynm 66) ∈ gws ∧ ∃ r, scl[mown (mtd 66)]? = some r ∧ r.1 = (ynm 66).cls := ⟨mo66, gws_of (List.mem_of_getElem? (i := 474) (by decide +kernel)) (by decide +kernel), gws_of (List.mem_of_getElem? (i := 475) (by decide +kernel)) (by decide +kernel), gws_of (List.mem_of_getElem? (i := 476) (by decide +kernel)) (by decide +kernel), ccl5, rfl, rfl⟩
theorem vok_0_226 : MtOk 21 ∧ Cond.methodLink (cnm 0) 226 (ynm 21) ∈ gws ∧ Cond.instanceMethod (ynm 21) ∈ gws ∧ Cond.selects (ynm 21).cls (ynm 21) (ynm 21) ∈ gws ∧ ∃ r, scl[mown (mtd 21)]? = some r ∧ r.1 = (ynm 21).cls := ⟨mo21, gws_of (List.mem_of_getElem? (i := 480) (by decide +kernel)) (by decide +kernel), gws_of (List.mem_of_getElem? (i := 482) (by decide +kernel)) (by decide +kernel), gws_of (List.mem_of_getElem? (i := 24) (by decide +kernel)) (by decide +kernel), ccl0, rfl, rfl⟩
theorem vok_0_233 : MtOk 44 ∧ Cond.methodLink (cnm 0) 233 (ynm 44) ∈ gws ∧ Cond.instanceMethod (ynm 44) ∈ gws ∧ Cond.selects (ynm 44).cls (ynm 44) (ynm 44) ∈ gws ∧ ∃ r, scl[mown (mtd 44)]? = some r ∧ r.1 = (ynm 44).cls := ⟨mo44, gws_of (List.mem_of_getElem? (i := 319) (by decide +kernel)) (by decide +kernel), gws_of (List.mem_of_getElem? (i := 320) (by decide +kernel)) (by decide +kernel), gws_of (List.mem_of_getElem? (i := 321) (by decide +kernel)) (by decide +kernel), ccl2, rfl, rfl⟩
theorem vok_0_237 : MtOk 65 ∧ Cond.methodLink (cnm 0) 237 (ynm 65) ∈ gws ∧ Cond.instanceMethod (ynm 65) ∈ gws ∧ Cond.selects (ynm 65).cls (ynm 65) (ynm 65) ∈ gws ∧ ∃ r, scl[mown (mtd 65)]? = some r ∧ r.1 = (ynm 65).cls := ⟨mo65, gws_of (List.mem_of_getElem? (i := 484) (by decide +kernel)) (by decide +kernel), gws_of (List.mem_of_getElem? (i := 485) (by decide +kernel)) (by decide +kernel), gws_of (List.mem_of_getElem? (i := 486) (by decide +kernel)) (by decide +kernel), ccl5, rfl, rfl⟩
theorem vok_0_250 : MtOk 64 ∧ Cond.methodLink (cnm 0) 250 (ynm 64) ∈ gws ∧ Cond.instanceMethod (ynm 64) ∈ gws ∧ Cond.selects (ynm 64).cls (ynm 64) (ynm 64) ∈ gws ∧ ∃ r, scl[mown (mtd 64)]? = some r ∧ r.1 = (ynm 64).cls := ⟨mo64, gws_of (List.mem_of_getElem? (i := 570) (by decide +kernel)) (by decide +kernel), gws_of (List.mem_of_getElem? (i := 571) (by decide +kernel)) (by decide +kernel), gws_of (List.mem_of_getElem? (i := 572) (by decide +kernel)) (by decide +kernel), ccl5, rfl, rfl⟩
theorem vok_1_41 : MtOk 72 ∧ Cond.methodLink (cnm 1) 41 (ynm 72) ∈ gws ∧ Cond.instanceMethod (ynm 72) ∈ gws ∧ Cond.selects (ynm 72).cls (ynm 72) (ynm 72) ∈ gws ∧ ∃ r, scl[mown (mtd 72)]? = some r ∧ r.1 = (ynm 72).cls := ⟨mo72, gws_of (List.mem_of_getElem? (i := 382) (by decide +kernel)) (by decide +kernel), gws_of (List.mem_of_getElem? (i := 383) (by decide +kernel)) (by decide +kernel), gws_of (List.mem_of_getElem? (i := 384) (by decide +kernel)) (by decide +kernel), ccl6, rfl, rfl⟩
theorem vok_1_45 : MtOk 73 ∧ Cond.methodLink (cnm 1) 45 (ynm 73) ∈ gws ∧ Cond.instanceMethod (ynm 73) ∈ gws ∧ Cond.selects (ynm 73).cls (ynm 73) (ynm 73) ∈ gws ∧ ∃ r, scl[mown (mtd 73)]? = some r ∧ r.1 = (ynm 73).cls := ⟨mo73, gws_of (List.mem_of_getElem? (i := 461) (by decide +kernel)) (by decide +kernel), gws_of (List.mem_of_getElem? (i := 462) (by decide +kernel)) (by decide +kernel), gws_of (List.mem_of_getElem? (i := 463) (by decide +kernel)) (by decide +kernel), ccl6, rfl, rfl⟩
theorem vok_1_52 : MtOk 38 ∧ Cond.methodLink (cnm 1) 52 (ynm 38) ∈ gws ∧ Cond.instanceMethod (ynm 38) ∈ gws ∧ Cond.selects (ynm 38).cls (ynm 38) (ynm 38) ∈ gws ∧ ∃ r, scl[mown (mtd 38)]? = some r ∧ r.1 = (ynm 38).cls := ⟨mo38, gws_of (List.mem_of_getElem? (i := 256) (by decide +kernel)) (by decide +kernel), gws_of (List.mem_of_getElem? (i := 258) (by decide +kernel)) (by decide +kernel), gws_of (List.mem_of_getElem? (i := 0) (by decide +kernel)) (by decide +kernel), ccl1, rfl, rfl⟩
theorem vok_1_56 : MtOk 33 ∧ Cond.methodLink (cnm 1) 56 (ynm 33) ∈ gws ∧ Cond.instanceMethod (ynm 33) ∈ gws ∧ Cond.selects (ynm 33).cls (ynm 33) (ynm 33) ∈ gws ∧ ∃ r, scl[mown (mtd 33)]? = some r ∧ r.1 = (ynm 33).cls := ⟨mo33, gws_of (List.mem_of_getElem? (i := 261) (by decide +kernel)) (by decide +kernel), gws_of (List.mem_of_getElem? (i := 262) (by decide +kernel)) (by decide +kernel), gws_of (List.mem_of_getElem? (i := 263) (by decide +kernel)) (by decide +kernel), ccl1, rfl, rfl⟩
theorem vok_1_78 : MtOk 68 ∧ Cond.methodLink (cnm 1) 78 (ynm 68) ∈ gws ∧ Cond.instanceMethod (ynm 68) ∈ gws ∧ Cond.selects (ynm 68).cls (ynm 68) (ynm 68) ∈ gws ∧ ∃ r, scl[mown (mtd 68)]? = some r ∧ r.1 = (ynm 68).cls := ⟨mo68, gws_of (List.mem_of_getElem? (i := 232) (by decide +kernel)) (by decide +kernel), gws_of (List.mem_of_getElem? (i := 233) (by decide +kernel)) (by decide +kernel), gws_of (List.mem_of_getElem? (i := 234) (by decide +kernel)) (by decide +kernel), ccl6, rfl, rfl⟩
theorem vok_1_82 : MtOk 69 ∧ Cond.methodLink (cnm 1) 82 (ynm 69) ∈ gws ∧ Cond.instanceMethod (ynm 69) ∈ gws ∧ Cond.selects (ynm 69).cls (ynm 69) (ynm 69) ∈ gws ∧ ∃ r, scl[mown (mtd 69)]? = some r ∧ r.1 = (ynm 69).cls := ⟨mo69, gws_of (List.mem_of_getElem? (i := 236) (by decide +kernel)) (by decide +kernel), gws_of (List.mem_of_getElem? (i := 237) (by decide +kernel)) (by decide +kernel), gws_of (List.mem_of_getElem? (i := 238) (by decide +kernel)) (by decide +kernel), ccl6, rfl, rfl⟩
theorem vok_2_21 : MtOk 42 ∧ Cond.methodLink (cnm 2) 21 (ynm 42) ∈ gws ∧ Cond.instanceMethod (ynm 42) ∈ gws ∧ Cond.selects (ynm 42).cls (ynm 42) (ynm 42) ∈ gws ∧ ∃ r, scl[mown (mtd 42)]? = some r ∧ r.1 = (ynm 42).cls := ⟨mo42, gws_of (List.mem_of_getElem? (i := 330) (by decide +kernel)) (by decide +kernel), gws_of (List.mem_of_getElem? (i := 331) (by decide +kernel)) (by decide +kernel), gws_of (List.mem_of_getElem? (i := 332) (by decide +kernel)) (by decide +kernel), ccl2, rfl, rfl⟩
theorem vok_2_29 : MtOk 43 ∧ Cond.methodLink (cnm 2) 29 (ynm 43) ∈ gws ∧ Cond.instanceMethod (ynm 43) ∈ gws ∧ Cond.selects (ynm 43).cls (ynm 43) (ynm 43) ∈ gws ∧ ∃ r, scl[mown (mtd 43)]? = some r ∧ r.1 = (ynm 43).cls := ⟨mo43, gws_of (List.mem_of_getElem? (i := 326) (by decide +kernel)) (by decide +kernel), gws_of (List.mem_of_getElem? (i := 327) (by decide +kernel)) (by decide +kernel), gws_of (List.mem_of_getElem? (i := 328) (by decide +kernel)) (by decide +kernel), ccl2, rfl, rfl⟩
theorem vok_4_36 : MtOk 49 ∧ Cond.methodLink (cnm 4) 36 (ynm 49) ∈ gws ∧ Cond.instanceMethod (ynm 49) ∈ gws ∧ Cond.selects (ynm 49).cls (ynm 49) (ynm 49) ∈ gws ∧ ∃ r, scl[mown (mtd 49)]? = some r ∧ r.1 = (ynm 49).cls := ⟨mo49, gws_of (List.mem_of_getElem? (i := 339) (by decide +kernel)) (by decide +kernel), gws_of (List.mem_of_getElem? (i := 341) (by decide +kernel)) (by decide +kernel), gws_of (List.mem_of_getElem? (i := 3) (by decide +kernel)) (by decide +kernel), ccl4, rfl, rfl⟩
theorem vok_4_40 : MtOk 68 ∧ Cond.methodLink (cnm 4) 40 (ynm 68) ∈ gws ∧ Cond.instanceMethod (ynm 68) ∈ gws ∧ Cond.selects (ynm 68).cls (ynm 68) (ynm 68) ∈ gws ∧ ∃ r, scl[mown (mtd 68)]? = some r ∧ r.1 = (ynm 68).cls := ⟨mo68, gws_of (List.mem_of_getElem? (i := 344) (by decide +kernel)) (by decide +kernel), gws_of (List.mem_of_getElem? (i := 233) (by decide +kernel)) (by decide +kernel), gws_of (List.mem_of_getElem? (i := 234) (by decide +kernel)) (by decide +kernel), ccl6, rfl, rfl⟩
theorem vok_4_44 : MtOk 51 ∧ Cond.methodLink (cnm 4) 44 (ynm 51) ∈ gws ∧ Cond.instanceMethod (ynm 51) ∈ gws ∧ Cond.selects (ynm 51).cls (ynm 51) (ynm 51) ∈ gws ∧ ∃ r, scl[mown (mtd 51)]? = some r ∧ r.1 = (ynm 51).cls := ⟨mo51, gws_of (List.mem_of_getElem? (i := 349) (by decide +kernel)) (by decide +kernel), gws_of (List.mem_of_getElem? (i := 351) (by decide +kernel)) (by decide +kernel), gws_of (List.mem_of_getElem? (i := 5) (by decide +kernel)) (by decide +kernel), ccl4, rfl, rfl⟩
theorem vok_4_48 : MtOk 53 ∧ Cond.methodLink (cnm 4) 48 (ynm 53) ∈ gws ∧ Cond.instanceMethod (ynm 53) ∈ gws ∧ Cond.selects (ynm 53).cls (ynm 53) (ynm 53) ∈ gws ∧ ∃ r, scl[mown (mtd 53)]? = some r ∧ r.1 = (ynm 53).cls := ⟨mo53, gws_of (List.mem_of_getElem? (i := 363) (by decide +kernel)) (by decide +kernel), gws_of (List.mem_of_getElem? (i := 365) (by decide +kernel)) (by decide +kernel), gws_of (List.mem_of_getElem? (i := 7) (by decide +kernel)) (by decide +kernel), ccl4, rfl, rfl⟩
theorem vok_4_51 : MtOk 54 ∧ Cond.methodLink (cnm 4) 51 (ynm 54) ∈ gws ∧ Cond.instanceMethod (ynm 54) ∈ gws ∧ Cond.selects (ynm 54).cls (ynm 54) (ynm 54) ∈ gws ∧ ∃ r, scl[mown (mtd 54)]? = some r ∧ r.1 = (ynm 54).cls := ⟨mo54, gws_of (List.mem_of_getElem? (i := 371) (by decide +kernel)) (by decide +kernel), gws_of (List.mem_of_getElem? (i := 373) (by decide +kernel)) (by decide +kernel), gws_of (List.mem_of_getElem? (i := 8) (by decide +kernel)) (by decide +kernel), ccl4, rfl, rfl⟩
theorem vok_4_55 : MtOk 58 ∧ Cond.methodLink (cnm 4) 55 (ynm 58) ∈ gws ∧ Cond.instanceMethod (ynm 58) ∈ gws ∧ Cond.selects (ynm 58).cls (ynm 58) (ynm 58) ∈ gws ∧ ∃ r, scl[mown (mtd 58)]? = some r ∧ r.1 = (ynm 58).cls := ⟨mo58, gws_of (List.mem_of_getElem? (i := 386) (by decide +kernel)) (by decide +kernel), gws_of (List.mem_of_getElem? (i := 388) (by decide +kernel)) (by decide +kernel), gws_of (List.mem_of_getElem? (i := 9) (by decide +kernel)) (by decide +kernel), ccl4, rfl, rfl⟩
theorem vok_4_59 : MtOk 59 ∧ Cond.methodLink (cnm 4) 59 (ynm 59) ∈ gws ∧ Cond.instanceMethod (ynm 59) ∈ gws ∧ Cond.selects (ynm 59).cls (ynm 59) (ynm 59) ∈ gws ∧ ∃ r, scl[mown (mtd 59)]? = some r ∧ r.1 = (ynm 59).cls := ⟨mo59, gws_of (List.mem_of_getElem? (i := 433) (by decide +kernel)) (by decide +kernel), gws_of (List.mem_of_getElem? (i := 435) (by decide +kernel)) (by decide +kernel), gws_of (List.mem_of_getElem? (i := 17) (by decide +kernel)) (by decide +kernel), ccl4, rfl, rfl⟩
theorem vok_4_64 : MtOk 56 ∧ Cond.methodLink (cnm 4) 64 (ynm 56) ∈ gws ∧ Cond.instanceMethod (ynm 56) ∈ gws ∧ Cond.selects (ynm 56).cls (ynm 56) (ynm 56) ∈ gws ∧ ∃ r, scl[mown (mtd 56)]? = some r ∧ r.1 = (ynm 56).cls := ⟨mo56, gws_of (List.mem_of_getElem? (i := 445) (by decide +kernel)) (by decide +kernel), gws_of (List.mem_of_getElem? (i := 447) (by decide +kernel)) (by decide +kernel), gws_of (List.mem_of_getElem? (i := 19) (by decide +kernel)) (by decide +kernel), ccl4, rfl, rfl⟩
theorem vok_4_67 : MtOk 61 ∧ Cond.methodLink (cnm 4) 67 (ynm 61) ∈ gws ∧ Cond.instanceMethod (ynm 61) ∈ gws ∧ Cond.selects (ynm 61).cls (ynm 61) (ynm 61) ∈ gws ∧ ∃ r, scl[mown (mtd 61)]? = some r ∧ r.1 = (ynm 61).cls := ⟨mo61, gws_of (List.mem_of_getElem? (i := 453) (by decide +kernel)) (by decide +kernel), gws_of (List.mem_of_getElem? (i := 455) (by decide +kernel)) (by decide +kernel), gws_of (List.mem_of_getElem? (i := 21) (by decide +kernel)) (by decide +kernel), ccl4, rfl, rfl⟩
theorem vok_4_80 : MtOk 44 ∧ Cond.methodLink (cnm 4) 80 (ynm 44) ∈ gws ∧ Cond.instanceMethod (ynm 44) ∈ gws ∧ Cond.selects (ynm 44).cls (ynm 44) (ynm 44) ∈ gws ∧ ∃ r, scl[mown (mtd 44)]? = some r ∧ r.1 = (ynm 44).cls := ⟨mo44, gws_of (List.mem_of_getElem? (i := 343) (by decide +kernel)) (by decide +kernel), gws_of (List.mem_of_getElem? (i := 320) (by decide +kernel)) (by decide +kernel), gws_of (List.mem_of_getElem? (i := 321) (by decide +kernel)) (by decide +kernel), ccl2, rfl, rfl⟩
theorem vok_4_89 : MtOk 50 ∧ Cond.methodLink (cnm 4) 89 (ynm 50) ∈ gws ∧ Cond.instanceMethod (ynm 50) ∈ gws ∧ Cond.selects (ynm 50).cls (ynm 50) (ynm 50) ∈ gws ∧ ∃ r, scl[mown (mtd 50)]? = some r ∧ r.1 = (ynm 50).cls := ⟨mo50, gws_of (List.mem_of_getElem? (i := 345) (by decide +kernel)) (by decide +kernel), gws_of (List.mem_of_getElem? (i := 347) (by decide +kernel)) (by decide +kernel), gws_of (List.mem_of_getElem? (i := 4) (by decide +kernel)) (by decide +kernel), ccl4, rfl, rfl⟩
theorem vok_4_92 : MtOk 75 ∧ Cond.methodLink (cnm 4) 92 (ynm 75) ∈ gws ∧ Cond.instanceMethod (ynm 75) ∈ gws ∧ Cond.selects (ynm 75).cls (ynm 75) (ynm 75) ∈ gws ∧ ∃ r, scl[mown (mtd 75)]? = some r ∧ r.1 = (ynm 75).cls := ⟨mo75, gws_of (List.mem_of_getElem? (i := 354) (by decide +kernel)) (by decide +kernel), gws_of (List.mem_of_getElem? (i := 355) (by decide +kernel)) (by decide +kernel), gws_of (List.mem_of_getElem? (i := 356) (by decide +kernel)) (by decide +kernel), ccl6, rfl, rfl⟩
theorem vok_4_96 : MtOk 52 ∧ Cond.methodLink (cnm 4) 96 (ynm 52) ∈ gws ∧ Cond.instanceMethod (ynm 52) ∈ gws ∧ Cond.selects (ynm 52).cls (ynm 52) (ynm 52) ∈ gws ∧ ∃ r, scl[mown (mtd 52)]? = some r ∧ r.1 = (ynm 52).cls := ⟨mo52, gws_of (List.mem_of_getElem? (i := 358) (by decide +kernel)) (by decide +kernel), gws_of (List.mem_of_getElem? (i := 360) (by decide +kernel)) (by decide +kernel), gws_of (List.mem_of_getElem? (i := 6) (by decide +kernel)) (by decide +kernel), ccl4, rfl, rfl⟩
theorem vok_4_107 : MtOk 34 ∧ Cond.methodLink (cnm 4) 107 (ynm 34) ∈ gws ∧ Cond.instanceMethod (ynm 34) ∈ gws ∧ Cond.selects (ynm 34).cls (ynm 34) (ynm 34) ∈ gws ∧ ∃ r, scl[mown (mtd 34)]? = some r ∧ r.1 = (ynm 34).cls := ⟨mo34, gws_of (List.mem_of_getElem? (i := 367) (by decide +kernel)) (by decide +kernel), gws_of (List.mem_of_getElem? (i := 368) (by decide +kernel)) (by decide +kernel), gws_of (List.mem_of_getElem? (i := 369) (by decide +kernel)) (by decide +kernel), ccl1, rfl, rfl⟩
theorem vok_4_119 : MtOk 35 ∧ Cond.methodLink (cnm 4) 119 (ynm 35) ∈ gws ∧ Cond.instanceMethod (ynm 35) ∈ gws ∧ Cond.selects (ynm 35).cls (ynm 35) (ynm 35) ∈ gws ∧ ∃ r, scl[mown (mtd 35)]? = some r ∧ r.1 = (ynm 35).cls := ⟨mo35, gws_of (List.mem_of_getElem? (i := 378) (by decide +kernel)) (by decide +kernel), gws_of (List.mem_of_getElem? (i := 379) (by decide +kernel)) (by decide +kernel), gws_of (List.mem_of_getElem? (i := 380) (by decide +kernel)) (by decide +kernel), ccl1, rfl, rfl⟩
theorem vok_4_126 : MtOk 57 ∧ Cond.methodLink (cnm 4) 126 (ynm 57) ∈ gws ∧ Cond.instanceMethod (ynm 57) ∈ gws ∧ Cond.selects (ynm 57).cls (ynm 57) (ynm 57) ∈ gws ∧ ∃ r, scl[mown (mtd 57)]? = some r ∧ r.1 = (ynm 57).cls := ⟨mo57, gws_of (List.mem_of_getElem? (i := 449) (by decide +kernel)) (by decide +kernel), gws_of (List.mem_of_getElem? (i := 451) (by decide +kernel)) (by decide +kernel), gws_of (List.mem_of_getElem? (i := 20) (by decide +kernel)) (by decide +kernel), ccl4, rfl, rfl⟩
theorem vok_4_132 : MtOk 76 ∧ Cond.methodLink (cnm 4) 132 (ynm 76) ∈ gws ∧ Cond.instanceMethod (ynm 76) ∈ gws ∧ Cond.selects (ynm 76).cls (ynm 76) (ynm 76) ∈ gws ∧ ∃ r, scl[mown (mtd 76)]? = some r ∧ r.1 = (ynm 76).cls := ⟨mo76, gws_of (List.mem_of_getElem? (i := 390) (by decide +kernel)) (by decide +kernel), gws_of (List.mem_of_getElem? (i := 391) (by decide +kernel)) (by decide +kernel), gws_of (List.mem_of_getElem? (i := 392) (by decide +kernel)) (by decide +kernel), ccl6, rfl, rfl⟩
theorem vok_4_136 : MtOk 69 ∧ Cond.methodLink (cnm 4) 136 (ynm 69) ∈ gws ∧ Cond.instanceMethod (ynm 69) ∈ gws ∧ Cond.selects (ynm 69).cls (ynm 69) (ynm 69) ∈ gws ∧ ∃ r, scl[mown (mtd 69)]? = some r ∧ r.1 = (ynm 69).cls := ⟨mo69, gws_of (List.mem_of_getElem? (i := 432) (by decide +kernel)) (by decide +kernel), gws_of (List.mem_of_getElem? (i := 237) (by decide +kernel)) (by decide +kernel), gws_of (List.mem_of_getElem? (i := 238) (by decide +kernel)) (by decide +kernel), ccl6, rfl, rfl⟩
theorem vok_4_146 : MtOk 43 ∧ Cond.methodLink (cnm 4) 146 (ynm 43) ∈ gws ∧ Cond.instanceMethod (ynm 43) ∈ gws ∧ Cond.selects (ynm 43).cls (ynm 43) (ynm 43) ∈ gws ∧ ∃ r, scl[mown (mtd 43)]? = some r ∧ r.1 = (ynm 43).cls := ⟨mo43, gws_of (List.mem_of_getElem? (i := 440) (by decide +kernel)) (by decide +kernel), gws_of (List.mem_of_getElem? (i := 327) (by decide +kernel)) (by decide +kernel), gws_of (List.mem_of_getElem? (i := 328) (by decide +kernel)) (by decide +kernel), ccl2, rfl, rfl⟩
theorem vok_4_150 : MtOk 60 ∧ Cond.methodLink (cnm 4) 150 (ynm 60) ∈ gws ∧ Cond.instanceMethod (ynm 60) ∈ gws ∧ Cond.selects (ynm 60).cls (ynm 60) (ynm 60) ∈ gws ∧ ∃ r, scl[mown (mtd 60)]? = some r ∧ r.1 = (ynm 60).cls := ⟨mo60, gws_of (List.mem_of_getElem? (i := 441) (by decide +kernel)) (by decide +kernel), gws_of (List.mem_of_getElem? (i := 443) (by decide +kernel)) (by decide +kernel), gws_of (List.mem_of_getElem? (i := 18) (by decide +kernel)) (by decide +kernel), ccl4, rfl, rfl⟩
theorem vok_6_17 : MtOk 32 ∧ Cond.methodLink (cnm 6) 17 (ynm 32) ∈ gws ∧ Cond.instanceMethod (ynm 32) ∈ gws ∧ Cond.selects (ynm 32).cls (ynm 32) (ynm 32) ∈ gws ∧ ∃ r, scl[mown (mtd 32)]? = some r ∧ r.1 = (ynm 32).cls := ⟨mo32, gws_of (List.mem_of_getElem? (i := 240) (by decide +kernel)) (by decide +kernel), gws_of (List.mem_of_getElem? (i := 241) (by decide +kernel)) (by decide +kernel), gws_of (List.mem_of_getElem? (i := 242) (by decide +kernel)) (by decide +kernel), ccl1, rfl, rfl⟩
theorem vok_6_34 : MtOk 72 ∧ Cond.methodLink (cnm 6) 34 (ynm 72) ∈ gws ∧ Cond.instanceMethod (ynm 72) ∈ gws ∧ Cond.selects (ynm 72).cls (ynm 72) (ynm 72) ∈ gws ∧ ∃ r, scl[mown (mtd 72)]? = some r ∧ r.1 = (ynm 72).cls := ⟨mo72, gws_of (List.mem_of_getElem? (i := 423) (by decide +kernel)) (by decide +kernel), gws_of (List.mem_of_getElem? (i := 383) (by decide +kernel)) (by decide +kernel), gws_of (List.mem_of_getElem? (i := 384) (by decide +kernel)) (by decide +kernel), ccl6, rfl, rfl⟩
theorem vok_6_42 : MtOk 77 ∧ Cond.methodLink (cnm 6) 42 (ynm 77) ∈ gws ∧ Cond.instanceMethod (ynm 77) ∈ gws ∧ Cond.selects (ynm 77).cls (ynm 77) (ynm 77) ∈ gws ∧ ∃ r, scl[mown (mtd 77)]? = some r ∧ r.1 = (ynm 77).cls := ⟨mo77, gws_of (List.mem_of_getElem? (i := 394) (by decide +kernel)) (by decide +kernel), gws_of (List.mem_of_getElem? (i := 396) (by decide +kernel)) (by decide +kernel), gws_of (List.mem_of_getElem? (i := 10) (by decide +kernel)) (by decide +kernel), ccl6, rfl, rfl⟩
theorem vok_6_46 : MtOk 79 ∧ Cond.methodLink (cnm 6) 46 (ynm 79) ∈ gws ∧ Cond.instanceMethod (ynm 79) ∈ gws ∧ Cond.selects (ynm 79).cls (ynm 79) (ynm 79) ∈ gws ∧ ∃ r, scl[mown (mtd 79)]? = some r ∧ r.1 = (ynm 79).cls := ⟨mo79, gws_of (List.mem_of_getElem? (i := 411) (by decide +kernel)) (by decide +kernel), gws_of (List.mem_of_getElem? (i := 413) (by decide +kernel)) (by decide +kernel), gws_of (List.mem_of_getElem? (i := 12) (by decide +kernel)) (by decide +kernel), ccl6, rfl, rfl⟩
theorem vok_6_49 : MtOk 80 ∧ Cond.methodLink (cnm 6) 49 (ynm 80) ∈ gws ∧ Cond.instanceMethod (ynm 80) ∈ gws ∧ Cond.selects (ynm 80).cls (ynm 80) (ynm 80) ∈ gws ∧ ∃ r, scl[mown (mtd 80)]? = some r ∧ r.1 = (ynm 80).cls := ⟨mo80, gws_of (List.mem_of_getElem? (i := 415) (by decide +kernel)) (by decide +kernel), gws_of (List.mem_of_getElem? (i := 417) (by decide +kernel)) (by decide +kernel), gws_of (List.mem_of_getElem? (i := 13) (by decide +kernel)) (by decide +kernel), ccl6, rfl, rfl⟩
theorem vok_6_55 : MtOk 83 ∧ Cond.methodLink (cnm 6) 55 (ynm 83) ∈ gws ∧ Cond.instanceMethod (ynm 83) ∈ gws ∧ Cond.selects (ynm 83).cls (ynm 83) (ynm 83) ∈ gws ∧ ∃ r, scl[mown (mtd 83)]? = some r ∧ r.1 = (ynm 83).cls := ⟨mo83, gws_of (List.mem_of_getElem? (i := 419) (by decide +kernel)) (by decide +kernel), gws_of (List.mem_of_getElem? (i := 421) (by decide +kernel)) (by decide +kernel), gws_of (List.mem_of_getElem? (i := 14) (by decide +kernel)) (by decide +kernel), ccl6, rfl, rfl⟩
theorem vok_6_59 : MtOk 81 ∧ Cond.methodLink (cnm 6) 59 (ynm 81) ∈ gws ∧ Cond.instanceMethod (ynm 81) ∈ gws ∧ Cond.selects (ynm 81).cls (ynm 81) (ynm 81) ∈ gws ∧ ∃ r, scl[mown (mtd 81)]? = some r ∧ r.1 = (ynm 81).cls := ⟨mo81, gws_of (List.mem_of_getElem? (i := 424) (by decide +kernel)) (by decide +kernel), gws_of (List.mem_of_getElem? (i := 426) (by decide +kernel)) (by decide +kernel), gws_of (List.mem_of_getElem? (i := 15) (by decide +kernel)) (by decide +kernel), ccl6, rfl, rfl⟩
theorem vok_6_62 : MtOk 82 ∧ Cond.methodLink (cnm 6) 62 (ynm 82) ∈ gws ∧ Cond.instanceMethod (ynm 82) ∈ gws ∧ Cond.selects (ynm 82).cls (ynm 82) (ynm 82) ∈ gws ∧ ∃ r, scl[mown (mtd 82)]? = some r ∧ r.1 = (ynm 82).cls := ⟨mo82, gws_of (List.mem_of_getElem? (i := 428) (by decide +kernel)) (by decide +kernel), gws_of (List.mem_of_getElem? (i := 430) (by decide +kernel)) (by decide +kernel), gws_of (List.mem_of_getElem? (i := 16) (by decide +kernel)) (by decide +kernel), ccl6, rfl, rfl⟩
theorem vok_6_66 : MtOk 71 ∧ Cond.methodLink (cnm 6) 66 (ynm 71) ∈ gws ∧ Cond.instanceMethod (ynm 71) ∈ gws ∧ Cond.selects (ynm 71).cls (ynm 71) (ynm 71) ∈ gws ∧ ∃ r, scl[mown (mtd 71)]? = some r ∧ r.1 = (ynm 71).cls := ⟨mo71, gws_of (List.mem_of_getElem? (i := 398) (by decide +kernel)) (by decide +kernel), gws_of (List.mem_of_getElem? (i := 399) (by decide +kernel)) (by decide +kernel), gws_of (List.mem_of_getElem? (i := 400) (by decide +kernel)) (by decide +kernel), ccl6, rfl, rfl⟩
theorem vok_6_69 : MtOk 74 ∧ Cond.methodLink (cnm 6) 69 (ynm 74) ∈ gws ∧ Cond.instanceMethod (ynm 74) ∈ gws ∧ Cond.selects (ynm 74).cls (ynm 74) (ynm 74) ∈ gws ∧ ∃ r, scl[mown (mtd 74)]? = some r ∧ r.1 = (ynm 74).cls := ⟨mo74, gws_of (List.mem_of_getElem? (i := 402) (by decide +kernel)) (by decide +kernel), gws_of (List.mem_of_getElem? (i := 403) (by decide +kernel)) (by decide +kernel), gws_of (List.mem_of_getElem? (i := 404) (by decide +kernel)) (by decide +kernel), ccl6, rfl, rfl⟩
theorem vok_6_73 : MtOk 78 ∧ Cond.methodLink (cnm 6) 73 (ynm 78) ∈ gws ∧ Cond.instanceMethod (ynm 78) ∈ gws ∧ Cond.selects (ynm 78).cls (ynm 78) (ynm 78) ∈ gws ∧ ∃ r, scl[mown (mtd 78)]? = some r ∧ r.1 = (ynm 78).cls := ⟨mo78, gws_of (List.mem_of_getElem? (i := 406) (by decide +kernel)) (by decide +kernel), gws_of (List.mem_of_getElem? (i := 408) (by decide +kernel)) (by decide +kernel), gws_of (List.mem_of_getElem? (i := 11) (by decide +kernel)) (by decide +kernel), ccl6, rfl, rfl⟩
theorem vok_7_24 : MtOk 86 ∧ Cond.methodLink (cnm 7) 24 (ynm 86) ∈ gws ∧ Cond.instanceMethod (ynm 86) ∈ gws ∧ Cond.selects (ynm 86).cls (ynm 86) (ynm 86) ∈ gws ∧ ∃ r, scl[mown (mtd 86)]? = some r ∧ r.1 = (ynm 86).cls := ⟨mo86, gws_of (List.mem_of_getElem? (i := 562) (by decide +kernel)) (by decide +kernel), gws_of (List.mem_of_getElem? (i := 563) (by decide +kernel)) (by decide +kernel), gws_of (List.mem_of_getElem? (i := 564) (by decide +kernel)) (by decide +kernel), ccl7, rfl, rfl⟩
theorem vok_8_88 : MtOk 93 ∧ Cond.methodLink (cnm 8) 88 (ynm 93) ∈ gws ∧ Cond.instanceMethod (ynm 93) ∈ gws ∧ Cond.selects (ynm 93).cls (ynm 93) (ynm 93) ∈ gws ∧ ∃ r, scl[mown (mtd 93)]? = some r ∧ r.1 = (ynm 93).cls := ⟨mo93, gws_of (List.mem_of_getElem? (i := 783) (by decide +kernel)) (by decide +kernel), gws_of (List.mem_of_getElem? (i := 785) (by decide +kernel)) (by decide +kernel), gws_of (List.mem_of_getElem? (i := 40) (by decide +kernel)) (by decide +kernel), ccl8, rfl, rfl⟩
theorem vok_8_92 : MtOk 94 ∧ Cond.methodLink (cnm 8) 92 (ynm 94) ∈ gws ∧ Cond.instanceMethod (ynm 94) ∈ gws ∧ Cond.selects (ynm 94).cls (ynm 94) (ynm 94) ∈ gws ∧ ∃ r, scl[mown (mtd 94)]? = some r ∧ r.1 = (ynm 94).cls := ⟨mo94, gws_of (List.mem_of_getElem? (i := 767) (by decide +kernel)) (by decide +kernel), gws_of (List.mem_of_getElem? (i := 769) (by decide +kernel)) (by decide +kernel), gws_of (List.mem_of_getElem? (i := 36) (by decide +kernel)) (by decide +kernel), ccl8, rfl, rfl⟩
theorem vok_8_95 : MtOk 95 ∧ Cond.methodLink (cnm 8) 95 (ynm 95) ∈ gws ∧ Cond.instanceMethod (ynm 95) ∈ gws ∧ Cond.selects (ynm 95).cls (ynm 95) (ynm 95) ∈ gws ∧ ∃ r, scl[mown (mtd 95)]? = some r ∧ r.1 = (ynm 95).cls := ⟨mo95, gws_of (List.mem_of_getElem? (i := 787) (by decide +kernel)) (by decide +kernel), gws_of (List.mem_of_getElem? (i := 789) (by decide +kernel)) (by decide +kernel), gws_of (List.mem_of_getElem? (i := 41) (by decide +kernel)) (by decide +kernel), ccl8, rfl, rfl⟩
theorem vok_8_99 : MtOk 96 ∧ Cond.methodLink (cnm 8) 99 (ynm 96) ∈ gws ∧ Cond.instanceMethod (ynm 96) ∈ gws ∧ Cond.selects (ynm 96).cls (ynm 96) (ynm 96) ∈ gws ∧ ∃ r, scl[mown (mtd 96)]? = some r ∧ r.1 = (ynm 96).cls := ⟨mo96, gws_of (List.mem_of_getElem? (i := 791) (by decide +kernel)) (by decide +kernel), gws_of (List.mem_of_getElem? (i := 793) (by decide +kernel)) (by decide +kernel), gws_of (List.mem_of_getElem? (i := 42) (by decide +kernel)) (by decide +kernel), ccl8, rfl, rfl⟩
theorem vok_8_106 : MtOk 92 ∧ Cond.methodLink (cnm 8) 106 (ynm 92) ∈ gws ∧ Cond.instanceMethod (ynm 92) ∈ gws ∧ Cond.selects (ynm 92).cls (ynm 92) (ynm 92) ∈ gws ∧ ∃ r, scl[mown (mtd 92)]? = some r ∧ r.1 = (ynm 92).cls := ⟨mo92, gws_of (List.mem_of_getElem? (i := 763) (by decide +kernel)) (by decide +kernel), gws_of (List.mem_of_getElem? (i := 765) (by decide +kernel)) (by decide +kernel), gws_of (List.mem_of_getElem? (i := 35) (by decide +kernel)) (by decide +kernel), ccl8, rfl, rfl⟩
theorem vok_8_110 : MtOk 98 ∧ Cond.methodLink (cnm 8) 110 (ynm 98) ∈ gws ∧ Cond.instanceMethod (ynm 98) ∈ gws ∧ Cond.selects (ynm 98).cls (ynm 98) (ynm 98) ∈ gws ∧ ∃ r, scl[mown (mtd 98)]? = some r ∧ r.1 = (ynm 98).cls := ⟨mo98, gws_of (List.mem_of_getElem? (i := 759) (by decide +kernel)) (by decide +kernel), gws_of (List.mem_of_getElem? (i := 761) (by decide +kernel)) (by decide +kernel), gws_of (List.mem_of_getElem? (i := 34) (by decide +kernel)) (by decide +kernel), ccl8, rfl, rfl⟩
theorem vok_8_114 : MtOk 97 ∧ Cond.methodLink (cnm 8) 114 (ynm 97) ∈ gws ∧ Cond.instanceMethod (ynm 97) ∈ gws ∧ Cond.selects (ynm 97).cls (ynm 97) (ynm 97) ∈ gws ∧ ∃ r, scl[mown (mtd 97)]? = some r ∧ r.1 = (ynm 97).cls := ⟨mo97, gws_of (List.mem_of_getElem? (i := 779) (by decide +kernel)) (by decide +kernel), gws_of (List.mem_of_getElem? (i := 781) (by decide +kernel)) (by decide +kernel), gws_of (List.mem_of_getElem? (i := 39) (by decide +kernel)) (by decide +kernel), ccl8, rfl, rfl⟩
theorem vok_8_117 : MtOk 101 ∧ Cond.methodLink (cnm 8) 117 (ynm 101) ∈ gws ∧ Cond.instanceMethod (ynm 101) ∈ gws ∧ Cond.selects (ynm 101).cls (ynm 101) (ynm 101) ∈ gws ∧ ∃ r, scl[mown (mtd 101)]? = some r ∧ r.1 = (ynm 101).cls := ⟨mo101, gws_of (List.mem_of_getElem? (i := 755) (by decide +kernel)) (by decide +kernel), gws_of (List.mem_of_getElem? (i := 757) (by decide +kernel)) (by decide +kernel), gws_of (List.mem_of_getElem? (i := 33) (by decide +kernel)) (by decide +kernel), ccl8, rfl, rfl⟩
theorem vok_8_120 : MtOk 102 ∧ Cond.methodLink (cnm 8) 120 (ynm 102) ∈ gws ∧ Cond.instanceMethod (ynm 102) ∈ gws ∧ Cond.selects (ynm 102).cls (ynm 102) (ynm 102) ∈ gws ∧ ∃ r, scl[mown (mtd 102)]? = some r ∧ r.1 = (ynm 102).cls := ⟨mo102, gws_of (List.mem_of_getElem? (i := 771) (by decide +kernel)) (by decide +kernel), gws_of (List.mem_of_getElem? (i := 773) (by decide +kernel)) (by decide +kernel), gws_of (List.mem_of_getElem? (i := 37) (by decide +kernel)) (by decide +kernel), ccl8, rfl, rfl⟩
theorem vok_8_126 : MtOk 99 ∧ Cond.methodLink (cnm 8) 126 (ynm 99) ∈ gws ∧ Cond.instanceMethod (ynm 99) ∈ gws ∧ Cond.selects (ynm 99).cls (ynm 99) (ynm 99) ∈ gws ∧ ∃ r, scl[mown (mtd 99)]? = some r ∧ r.1 = (ynm 99).cls := ⟨mo99, gws_of (List.mem_of_getElem? (i := 775) (by decide +kernel)) (by decide +kernel), gws_of (List.mem_of_getElem? (i := 777) (by decide +kernel)) (by decide +kernel), gws_of (List.mem_of_getElem? (i := 38) (by decide +kernel)) (by decide +kernel), ccl8, rfl, rfl⟩
theorem vok_8_129 : MtOk 104 ∧ Cond.methodLink (cnm 8) 129 (ynm 104) ∈ gws ∧ Cond.instanceMethod (ynm 104) ∈ gws ∧ Cond.selects (ynm 104).cls (ynm 104) (ynm 104) ∈ gws ∧ ∃ r, scl[mown (mtd 104)]? = some r ∧ r.1 = (ynm 104).cls := ⟨mo104, gws_of (List.mem_of_getElem? (i := 799) (by decide +kernel)) (by decide +kernel), gws_of (List.mem_of_getElem? (i := 801) (by decide +kernel)) (by decide +kernel), gws_of (List.mem_of_getElem? (i := 44) (by decide +kernel)) (by decide +kernel), ccl8, rfl, rfl⟩
theorem vok_8_132 : MtOk 106 ∧ Cond.methodLink (cnm 8) 132 (ynm 106) ∈ gws ∧ Cond.instanceMethod (ynm 106) ∈ gws ∧ Cond.selects (ynm 106).cls (ynm 106) (ynm 106) ∈ gws ∧ ∃ r, scl[mown (mtd 106)]? = some r ∧ r.1 = (ynm 106).cls := ⟨mo106, gws_of (List.mem_of_getElem? (i := 807) (by decide +kernel)) (by decide +kernel), gws_of (List.mem_of_getElem? (i := 809) (by decide +kernel)) (by decide +kernel), gws_of (List.mem_of_getElem? (i := 46) (by decide +kernel)) (by decide +kernel), ccl8, rfl, rfl⟩
theorem vok_8_135 : MtOk 100 ∧ Cond.methodLink (cnm 8) 135 (ynm 100) ∈ gws ∧ Cond.instanceMethod (ynm 100) ∈ gws ∧ Cond.selects (ynm 100).cls (ynm 100) (ynm 100) ∈ gws ∧ ∃ r, scl[mown (mtd 100)]? = some r ∧ r.1 = (ynm 100).cls := ⟨mo100, gws_of (List.mem_of_getElem? (i := 743) (by decide +kernel)) (by decide +kernel), gws_of (List.mem_of_getElem? (i := 745) (by decide +kernel)) (by decide +kernel), gws_of (List.mem_of_getElem? (i := 30) (by decide +kernel)) (by decide +kernel), ccl8, rfl, rfl⟩
theorem vok_8_139 : MtOk 109 ∧ Cond.methodLink (cnm 8) 139 (ynm 109) ∈ gws ∧ Cond.instanceMethod (ynm 109) ∈ gws ∧ Cond.selects (ynm 109).cls (ynm 109) (ynm 109) ∈ gws ∧ ∃ r, scl[mown (mtd 109)]? = some r ∧ r.1 = (ynm 109).cls := ⟨mo109, gws_of (List.mem_of_getElem? (i := 747) (by decide +kernel)) (by decide +kernel), gws_of (List.mem_of_getElem? (i := 749) (by decide +kernel)) (by decide +kernel), gws_of (List.mem_of_getElem? (i := 31) (by decide +kernel)) (by decide +kernel), ccl8, rfl, rfl⟩
theorem vok_8_142 : MtOk 103 ∧ Cond.methodLink (cnm 8) 142 (ynm 103) ∈ gws ∧ Cond.instanceMethod (ynm 103) ∈ gws ∧ Cond.selects (ynm 103).cls (ynm 103) (ynm 103) ∈ gws ∧ ∃ r, scl[mown (mtd 103)]? = some r ∧ r.1 = (ynm 103).cls := ⟨mo103, gws_of (List.mem_of_getElem? (i := 751) (by decide +kernel)) (by decide +kernel), gws_of (List.mem_of_getElem? (i := 753) (by decide +kernel)) (by decide +kernel), gws_of (List.mem_of_getElem? (i := 32) (by decide +kernel)) (by decide +kernel), ccl8, rfl, rfl⟩
theorem vok_8_146 : MtOk 105 ∧ Cond.methodLink (cnm 8) 146 (ynm 105) ∈ gws ∧ Cond.instanceMethod (ynm 105) ∈ gws ∧ Cond.selects (ynm 105).cls (ynm 105) (ynm 105) ∈ gws ∧ ∃ r, scl[mown (mtd 105)]? = some r ∧ r.1 = (ynm 105).cls := ⟨mo105, gws_of (List.mem_of_getElem? (i := 795) (by decide +kernel)) (by decide +kernel), gws_of (List.mem_of_getElem? (i := 797) (by decide +kernel)) (by decide +kernel), gws_of (List.mem_of_getElem? (i := 43) (by decide +kernel)) (by decide +kernel), ccl8, rfl, rfl⟩
theorem vok_8_149 : MtOk 107 ∧ Cond.methodLink (cnm 8) 149 (ynm 107) ∈ gws ∧ Cond.instanceMethod (ynm 107) ∈ gws ∧ Cond.selects (ynm 107).cls (ynm 107) (ynm 107) ∈ gws ∧ ∃ r, scl[mown (mtd 107)]? = some r ∧ r.1 = (ynm 107).cls := ⟨mo107, gws_of (List.mem_of_getElem? (i := 803) (by decide +kernel)) (by decide +kernel), gws_of (List.mem_of_getElem? (i := 805) (by decide +kernel)) (by decide +kernel), gws_of (List.mem_of_getElem? (i := 45) (by decide +kernel)) (by decide +kernel), ccl8, rfl, rfl⟩
theorem vok_8_152 : MtOk 110 ∧ Cond.methodLink (cnm 8) 152 (ynm 110) ∈ gws ∧ Cond.instanceMethod (ynm 110) ∈ gws ∧ Cond.selects (ynm 110).cls (ynm 110) (ynm 110) ∈ gws ∧ ∃ r, scl[mown (mtd 110)]? = some r ∧ r.1 = (ynm 110).cls := ⟨mo110, gws_of (List.mem_of_getElem? (i := 827) (by decide +kernel)) (by decide +kernel), gws_of (List.mem_of_getElem? (i := 829) (by decide +kernel)) (by decide +kernel), gws_of (List.mem_of_getElem? (i := 51) (by decide +kernel)) (by decide +kernel), ccl8, rfl, rfl⟩
theorem vok_8_155 : MtOk 111 ∧ Cond.methodLink (cnm 8) 155 (ynm 111) ∈ gws ∧ Cond.instanceMethod (ynm 111) ∈ gws ∧ Cond.selects (ynm 111).cls (ynm 111) (ynm 111) ∈ gws ∧ ∃ r, scl[mown (mtd 111)]? = some r ∧ r.1 = (ynm 111).cls := ⟨mo111, gws_of (List.mem_of_getElem? (i := 823) (by decide +kernel)) (by decide +kernel), gws_of (List.mem_of_getElem? (i := 825) (by decide +kernel)) (by decide +kernel), gws_of (List.mem_of_getElem? (i := 50) (by decide +kernel)) (by decide +kernel), ccl8, rfl, rfl⟩
theorem vok_8_161 : MtOk 112 ∧ Cond.methodLink (cnm 8) 161 (ynm 112) ∈ gws ∧ Cond.instanceMethod (ynm 112) ∈ gws ∧ Cond.selects (ynm 112).cls (ynm 112) (ynm 112) ∈ gws ∧ ∃ r, scl[mown (mtd 112)]? = some r ∧ r.1 = (ynm 112).cls := ⟨mo112, gws_of (List.mem_of_getElem? (i := 819) (by decide +kernel)) (by decide +kernel), gws_of (List.mem_of_getElem? (i := 821) (by decide +kernel)) (by decide +kernel), gws_of (List.mem_of_getElem? (i := 49) (by decide +kernel)) (by decide +kernel), ccl8, rfl, rfl⟩
theorem vok_8_165 : MtOk 122 ∧ Cond.methodLink (cnm 8) 165 (ynm 122) ∈ gws ∧ Cond.instanceMethod (ynm 122) ∈ gws ∧ Cond.selects (ynm 122).cls (ynm 122) (ynm 122) ∈ gws ∧ ∃ r, scl[mown (mtd 122)]? = some r ∧ r.1 = (ynm 122).cls := ⟨mo122, gws_of (List.mem_of_getElem? (i := 831) (by decide +kernel)) (by decide +kernel), gws_of (List.mem_of_getElem? (i := 833) (by decide +kernel)) (by decide +kernel), gws_of (List.mem_of_getElem? (i := 52) (by decide +kernel)) (by decide +kernel), ccl8, rfl, rfl⟩
theorem vok_8_173 : MtOk 113 ∧ Cond.methodLink (cnm 8) 173 (ynm 113) ∈ gws ∧ Cond.instanceMethod (ynm 113) ∈ gws ∧ Cond.selects (ynm 113).cls (ynm 113) (ynm 113) ∈ gws ∧ ∃ r, scl[mown (mtd 113)]? = some r ∧ r.1 = (ynm 113).cls := ⟨mo113, gws_of (List.mem_of_getElem? (i := 731) (by decide +kernel)) (by decide +kernel), gws_of (List.mem_of_getElem? (i := 733) (by decide +kernel)) (by decide +kernel), gws_of (List.mem_of_getElem? (i := 28) (by decide +kernel)) (by decide +kernel), ccl8, rfl, rfl⟩
theorem vok_8_177 : MtOk 108 ∧ Cond.methodLink (cnm 8) 177 (ynm 108) ∈ gws ∧ Cond.instanceMethod (ynm 108) ∈ gws ∧ Cond.selects (ynm 108).cls (ynm 108) (ynm 108) ∈ gws ∧ ∃ r, scl[mown (mtd 108)]? = some r ∧ r.1 = (ynm 108).cls := ⟨mo108, gws_of (List.mem_of_getElem? (i := 736) (by decide +kernel)) (by decide +kernel), gws_of (List.mem_of_getElem? (i := 738) (by decide +kernel)) (by decide +kernel), gws_of (List.mem_of_getElem? (i := 29) (by decide +kernel)) (by decide +kernel), ccl8, rfl, rfl⟩
theorem vok_8_180 : MtOk 116 ∧ Cond.methodLink (cnm 8) 180 (ynm 116) ∈ gws ∧ Cond.instanceMethod (ynm 116) ∈ gws ∧ Cond.selects (ynm 116).cls (ynm 116) (ynm 116) ∈ gws ∧ ∃ r, scl[mown (mtd 116)]? = some r ∧ r.1 = (ynm 116).cls := ⟨mo116, gws_of (List.mem_of_getElem? (i := 811) (by decide +kernel)) (by decide +kernel), gws_of (List.mem_of_getElem? (i := 813) (by decide +kernel)) (by decide +kernel), gws_of (List.mem_of_getElem? (i := 47) (by decide +kernel)) (by decide +kernel), ccl8, rfl, rfl⟩
theorem vok_8_184 : MtOk 117 ∧ Cond.methodLink (cnm 8) 184 (ynm 117) ∈ gws ∧ Cond.instanceMethod (ynm 117) ∈ gws ∧ Cond.selects (ynm 117).cls (ynm 117) (ynm 117) ∈ gws ∧ ∃ r, scl[mown (mtd 117)]? = some r ∧ r.1 = (ynm 117).cls := ⟨mo117, gws_of (List.mem_of_getElem? (i := 815) (by decide +kernel)) (by decide +kernel), gws_of (List.mem_of_getElem? (i := 817) (by decide +kernel)) (by decide +kernel), gws_of (List.mem_of_getElem? (i := 48) (by decide +kernel)) (by decide +kernel), ccl8, rfl, rfl⟩
theorem vok_8_188 : MtOk 91 ∧ Cond.methodLink (cnm 8) 188 (ynm 91) ∈ gws ∧ Cond.instanceMethod (ynm 91) ∈ gws ∧ Cond.selects (ynm 91).cls (ynm 91) (ynm 91) ∈ gws ∧ ∃ r, scl[mown (mtd 91)]? = some r ∧ r.1 = (ynm 91).cls := ⟨mo91, gws_of (List.mem_of_getElem? (i := 839) (by decide +kernel)) (by decide +kernel), gws_of (List.mem_of_getElem? (i := 841) (by decide +kernel)) (by decide +kernel), gws_of (List.mem_of_getElem? (i := 53) (by decide +kernel)) (by decide +kernel), ccl8, rfl, rfl⟩
theorem vok_8_198 : MtOk 123 ∧ Cond.methodLink (cnm 8) 198 (ynm 123) ∈ gws ∧ Cond.instanceMethod (ynm 123) ∈ gws ∧ Cond.selects (ynm 123).cls (ynm 123) (ynm 123) ∈ gws ∧ ∃ r, scl[mown (mtd 123)]? = some r ∧ r.1 = (ynm 123).cls := ⟨mo123, gws_of (List.mem_of_getElem? (i := 862) (by decide +kernel)) (by decide +kernel), gws_of (List.mem_of_getElem? (i := 864) (by decide +kernel)) (by decide +kernel), gws_of (List.mem_of_getElem? (i := 54) (by decide +kernel)) (by decide +kernel), ccl8, rfl, rfl⟩
theorem vok_8_201 : MtOk 126 ∧ Cond.methodLink (cnm 8) 201 (ynm 126) ∈ gws ∧ Cond.instanceMethod (ynm 126) ∈ gws ∧ Cond.selects (ynm 126).cls (ynm 126) (ynm 126) ∈ gws ∧ ∃ r, scl[mown (mtd 126)]? = some r ∧ r.1 = (ynm 126).cls := ⟨mo126, gws_of (List.mem_of_getElem? (i := 866) (by decide +kernel)) (by decide +kernel), gws_of (List.mem_of_getElem? (i := 868) (by decide +kernel)) (by decide +kernel), gws_of (List.mem_of_getElem? (i := 55) (by decide +kernel)) (by decide +kernel), ccl8, rfl, rfl⟩
theorem vok_8_205 : MtOk 133 ∧ Cond.methodLink (cnm 8) 205 (ynm 133) ∈ gws ∧ Cond.instanceMethod (ynm 133) ∈ gws ∧ Cond.selects (ynm 133).cls (ynm 133) (ynm 133) ∈ gws ∧ ∃ r, scl[mown (mtd 133)]? = some r ∧ r.1 = (ynm 133).cls := ⟨mo133, gws_of (List.mem_of_getElem? (i := 898) (by decide +kernel)) (by decide +kernel), gws_of (List.mem_of_getElem? (i := 900) (by decide +kernel)) (by decide +kernel), gws_of (List.mem_of_getElem? (i := 56) (by decide +kernel)) (by decide +kernel), ccl8, rfl, rfl⟩
theorem vok_9_13 : MtOk 1 ∧ Cond.methodLink (cnm 9) 13 (ynm 1) ∈ gws ∧ Cond.instanceMethod (ynm 1) ∈ gws ∧ Cond.selects (ynm 1).cls (ynm 1) (ynm 1) ∈ gws ∧ ∃ r, scl[mown (mtd 1)]? = some r ∧ r.1 = (ynm 1).cls := ⟨mo1, gws_of (List.mem_of_getElem? (i := 304) (by decide +kernel)) (by decide +kernel), gws_of (List.mem_of_getElem? (i := 305) (by decide +kernel)) (by decide +kernel), gws_of (List.mem_of_getElem? (i := 306) (by decide +kernel)) (by decide +kernel), ccl0, rfl, rfl⟩
theorem vok_9_17 : MtOk 118 ∧ Cond.methodLink (cnm 9) 17 (ynm 118) ∈ gws ∧ Cond.instanceMethod (ynm 118) ∈ gws ∧ Cond.selects (ynm 118).cls (ynm 118) (ynm 118) ∈ gws ∧ ∃ r, scl[mown (mtd 118)]? = some r ∧ r.1 = (ynm 118).cls := ⟨mo118, gws_of (List.mem_of_getElem? (i := 721) (by decide +kernel)) (by decide +kernel), gws_of (List.mem_of_getElem? (i := 722) (by decide +kernel)) (by decide +kernel), gws_of (List.mem_of_getElem? (i := 723) (by decide +kernel)) (by decide +kernel), ccl8, rfl, rfl⟩
theorem vok_9_18 : MtOk 2 ∧ Cond.methodLink (cnm 9) 18 (ynm 2) ∈ gws ∧ Cond.instanceMethod (ynm 2) ∈ gws ∧ Cond.selects (ynm 2).cls (ynm 2) (ynm 2) ∈ gws ∧ ∃ r, scl[mown (mtd 2)]? = some r ∧ r.1 = (ynm 2).cls := ⟨mo2, gws_of (List.mem_of_getElem? (i := 518) (by decide +kernel)) (by decide +kernel), gws_of (List.mem_of_getElem? (i := 519) (by decide +kernel)) (by decide +kernel), gws_of (List.mem_of_getElem? (i := 520) (by decide +kernel)) (by decide +kernel), ccl0, rfl, rfl⟩
theorem vok_9_22 : MtOk 119 ∧ Cond.methodLink (cnm 9) 22 (ynm 119) ∈ gws ∧ Cond.instanceMethod (ynm 119) ∈ gws ∧ Cond.selects (ynm 119).cls (ynm 119) (ynm 119) ∈ gws ∧ ∃ r, scl[mown (mtd 119)]? = some r ∧ r.1 = (ynm 119).cls := ⟨mo119, gws_of (List.mem_of_getElem? (i := 835) (by decide +kernel)) (by decide +kernel), gws_of (List.mem_of_getElem? (i := 836) (by decide +kernel)) (by decide +kernel), gws_of (List.mem_of_getElem? (i := 837) (by decide +kernel)) (by decide +kernel), ccl8, rfl, rfl⟩
theorem vok_9_23 : MtOk 3 ∧ Cond.methodLink (cnm 9) 23 (ynm 3) ∈ gws ∧ Cond.instanceMethod (ynm 3) ∈ gws ∧ Cond.selects (ynm 3).cls (ynm 3) (ynm 3) ∈ gws ∧ ∃ r, scl[mown (mtd 3)]? = some r ∧ r.1 = (ynm 3).cls := ⟨mo3, gws_of (List.mem_of_getElem? (i := 528) (by decide +kernel)) (by decide +kernel), gws_of (List.mem_of_getElem? (i := 529) (by decide +kernel)) (by decide +kernel), gws_of (List.mem_of_getElem? (i := 530) (by decide +kernel)) (by decide +kernel), ccl0, rfl, rfl⟩
theorem vok_9_27 : MtOk 120 ∧ Cond.methodLink (cnm 9) 27 (ynm 120) ∈ gws ∧ Cond.instanceMethod (ynm 120) ∈ gws ∧ Cond.selects (ynm 120).cls (ynm 120) (ynm 120) ∈ gws ∧ ∃ r, scl[mown (mtd 120)]? = some r ∧ r.1 = (ynm 120).cls := ⟨mo120, gws_of (List.mem_of_getElem? (i := 843) (by decide +kernel)) (by decide +kernel), gws_of (List.mem_of_getElem? (i := 844) (by decide +kernel)) (by decide +kernel), gws_of (List.mem_of_getElem? (i := 845) (by decide +kernel)) (by decide +kernel), ccl8, rfl, rfl⟩
theorem vok_9_28 : MtOk 4 ∧ Cond.methodLink (cnm 9) 28 (ynm 4) ∈ gws ∧ Cond.instanceMethod (ynm 4) ∈ gws ∧ Cond.selects (ynm 4).cls (ynm 4) (ynm 4) ∈ gws ∧ ∃ r, scl[mown (mtd 4)]? = some r ∧ r.1 = (ynm 4).cls := ⟨mo4, gws_of (List.mem_of_getElem? (i := 532) (by decide +kernel)) (by decide +kernel), gws_of (List.mem_of_getElem? (i := 533) (by decide +kernel)) (by decide +kernel), gws_of (List.mem_of_getElem? (i := 534) (by decide +kernel)) (by decide +kernel), ccl0, rfl, rfl⟩
theorem vok_9_32 : MtOk 121 ∧ Cond.methodLink (cnm 9) 32 (ynm 121) ∈ gws ∧ Cond.instanceMethod (ynm 121) ∈ gws ∧ Cond.selects (ynm 121).cls (ynm 121) (ynm 121) ∈ gws ∧ ∃ r, scl[mown (mtd 121)]? = some r ∧ r.1 = (ynm 121).cls := ⟨mo121, gws_of (List.mem_of_getElem? (i := 847) (by decide +kernel)) (by decide +kernel), gws_of (List.mem_of_getElem? (i := 848) (by decide +kernel)) (by decide +kernel), gws_of (List.mem_of_getElem? (i := 849) (by decide +kernel)) (by decide +kernel), ccl8, rfl, rfl⟩
theorem vok_9_33 : MtOk 5 ∧ Cond.methodLink (cnm 9) 33 (ynm 5) ∈ gws ∧ Cond.instanceMethod (ynm 5) ∈ gws ∧ Cond.selects (ynm 5).cls (ynm 5) (ynm 5) ∈ gws ∧ ∃ r, scl[mown (mtd 5)]? = some r ∧ r.1 = (ynm 5).cls := ⟨mo5, gws_of (List.mem_of_getElem? (i := 539) (by decide +kernel)) (by decide +kernel), gws_of (List.mem_of_getElem? (i := 540) (by decide +kernel)) (by decide +kernel), gws_of (List.mem_of_getElem? (i := 541) (by decide +kernel)) (by decide +kernel), ccl0, rfl, rfl⟩
theorem vok_9_37 : MtOk 124 ∧ Cond.methodLink (cnm 9) 37 (ynm 124) ∈ gws ∧ Cond.instanceMethod (ynm 124) ∈ gws ∧ Cond.selects (ynm 124).cls (ynm 124) (ynm 124) ∈ gws ∧ ∃ r, scl[mown (mtd 124)]? = some r ∧ r.1 = (ynm 124).cls := ⟨mo124, gws_of (List.mem_of_getElem? (i := 851) (by decide +kernel)) (by decide +kernel), gws_of (List.mem_of_getElem? (i := 852) (by decide +kernel)) (by decide +kernel), gws_of (List.mem_of_getElem? (i := 853) (by decide +kernel)) (by decide +kernel), ccl8, rfl, rfl⟩
theorem vok_9_38 : MtOk 6 ∧ Cond.methodLink (cnm 9) 38 (ynm 6) ∈ gws ∧ Cond.instanceMethod (ynm 6) ∈ gws ∧ Cond.selects (ynm 6).cls (ynm 6) (ynm 6) ∈ gws ∧ ∃ r, scl[mown (mtd 6)]? = some r ∧ r.1 = (ynm 6).cls := ⟨mo6, gws_of (List.mem_of_getElem? (i := 554) (by decide +kernel)) (by decide +kernel), gws_of (List.mem_of_getElem? (i := 555) (by decide +kernel)) (by decide +kernel), gws_of (List.mem_of_getElem? (i := 556) (by decide +kernel)) (by decide +kernel), ccl0, rfl, rfl⟩
theorem vok_9_42 : MtOk 125 ∧ Cond.methodLink (cnm 9) 42 (ynm 125) ∈ gws ∧ Cond.instanceMethod (ynm 125) ∈ gws ∧ Cond.selects (ynm 125).cls (ynm 125) (ynm 125) ∈ gws ∧ ∃ r, scl[mown (mtd 125)]? = some r ∧ r.1 = (ynm 125).cls := ⟨mo125, gws_of (List.mem_of_getElem? (i := 858) (by decide +kernel)) (by decide +kernel), gws_of (List.mem_of_getElem? (i := 859) (by decide +kernel)) (by decide +kernel), gws_of (List.mem_of_getElem? (i := 860) (by decide +kernel)) (by decide +kernel), ccl8, rfl, rfl⟩
theorem vok_9_43 : MtOk 7 ∧ Cond.methodLink (cnm 9) 43 (ynm 7) ∈ gws ∧ Cond.instanceMethod (ynm 7) ∈ gws ∧ Cond.selects (ynm 7).cls (ynm 7) (ynm 7) ∈ gws ∧ ∃ r, scl[mown (mtd 7)]? = some r ∧ r.1 = (ynm 7).cls := ⟨mo7, gws_of (List.mem_of_getElem? (i := 579) (by decide +kernel)) (by decide +kernel), gws_of (List.mem_of_getElem? (i := 580) (by decide +kernel)) (by decide +kernel), gws_of (List.mem_of_getElem? (i := 581) (by decide +kernel)) (by decide +kernel), ccl0, rfl, rfl⟩
theorem vok_9_46 : MtOk 127 ∧ Cond.methodLink (cnm 9) 46 (ynm 127) ∈ gws ∧ Cond.instanceMethod (ynm 127) ∈ gws ∧ Cond.selects (ynm 127).cls (ynm 127) (ynm 127) ∈ gws ∧ ∃ r, scl[mown (mtd 127)]? = some r ∧ r.1 = (ynm 127).cls := ⟨mo127, gws_of (List.mem_of_getElem? (i := 870) (by decide +kernel)) (by decide +kernel), gws_of (List.mem_of_getElem? (i := 871) (by decide +kernel)) (by decide +kernel), gws_of (List.mem_of_getElem? (i := 872) (by decide +kernel)) (by decide +kernel), ccl8, rfl, rfl⟩
theorem vok_9_47 : MtOk 8 ∧ Cond.methodLink (cnm 9) 47 (ynm 8) ∈ gws ∧ Cond.instanceMethod (ynm 8) ∈ gws ∧ Cond.selects (ynm 8).cls (ynm 8) (ynm 8) ∈ gws ∧ ∃ r, scl[mown (mtd 8)]? = some r ∧ r.1 = (ynm 8).cls := ⟨mo8, gws_of (List.mem_of_getElem? (i := 583) (by decide +kernel)) (by decide +kernel), gws_of (List.mem_of_getElem? (i := 584) (by decide +kernel)) (by decide +kernel), gws_of (List.mem_of_getElem? (i := 585) (by decide +kernel)) (by decide +kernel), ccl0, rfl, rfl⟩
theorem vok_9_50 : MtOk 128 ∧ Cond.methodLink (cnm 9) 50 (ynm 128) ∈ gws ∧ Cond.instanceMethod (ynm 128) ∈ gws ∧ Cond.selects (ynm 128).cls (ynm 128) (ynm 128) ∈ gws ∧ ∃ r, scl[mown (mtd 128)]? = some r ∧ r.1 = (ynm 128).cls := ⟨mo128, gws_of (List.mem_of_getElem? (i := 874) (by decide +kernel)) (by decide +kernel), gws_of (List.mem_of_getElem? (i := 875) (by decide +kernel)) (by decide +kernel), gws_of (List.mem_of_getElem? (i := 876) (by decide +kernel)) (by decide +kernel), ccl8, rfl, rfl⟩
theorem vok_9_51 : MtOk 9 ∧ Cond.methodLink (cnm 9) 51 (ynm 9) ∈ gws ∧ Cond.instanceMethod (ynm 9) ∈ gws ∧ Cond.selects (ynm 9).cls (ynm 9) (ynm 9) ∈ gws ∧ ∃ r, scl[mown (mtd 9)]? = some r ∧ r.1 = (ynm 9).cls := ⟨mo9, gws_of (List.mem_of_getElem? (i := 588) (by decide +kernel)) (by decide +kernel), gws_of (List.mem_of_getElem? (i := 589) (by decide +kernel)) (by decide +kernel), gws_of (List.mem_of_getElem? (i := 590) (by decide +kernel)) (by decide +kernel), ccl0, rfl, rfl⟩
theorem vok_9_55 : MtOk 129 ∧ Cond.methodLink (cnm 9) 55 (ynm 129) ∈ gws ∧ Cond.instanceMethod (ynm 129) ∈ gws ∧ Cond.selects (ynm 129).cls (ynm 129) (ynm 129) ∈ gws ∧ ∃ r, scl[mown (mtd 129)]? = some r ∧ r.1 = (ynm 129).cls := ⟨mo129, gws_of (List.mem_of_getElem? (i := 878) (by decide +kernel)) (by decide +kernel), gws_of (List.mem_of_getElem? (i := 879) (by decide +kernel)) (by decide +kernel), gws_of (List.mem_of_getElem? (i := 880) (by decide +kernel)) (by decide +kernel), ccl8, rfl, rfl⟩
theorem vok_9_56 : MtOk 10 ∧ Cond.methodLink (cnm 9) 56 (ynm 10) ∈ gws ∧ Cond.instanceMethod (ynm 10) ∈ gws ∧ Cond.selects (ynm 10).cls (ynm 10) (ynm 10) ∈ gws ∧ ∃ r, scl[mown (mtd 10)]? = some r ∧ r.1 = (ynm 10).cls := ⟨mo10, gws_of (List.mem_of_getElem? (i := 592) (by decide +kernel)) (by decide +kernel), gws_of (List.mem_of_getElem? (i := 593) (by decide +kernel)) (by decide +kernel), gws_of (List.mem_of_getElem? (i := 594) (by decide +kernel)) (by decide +kernel), ccl0, rfl, rfl⟩
theorem vok_9_59 : MtOk 130 ∧ Cond.methodLink (cnm 9) 59 (ynm 130) ∈ gws ∧ Cond.instanceMethod (ynm 130) ∈ gws ∧ Cond.selects (ynm 130).cls (ynm 130) (ynm 130) ∈ gws ∧ ∃ r, scl[mown (mtd 130)]? = some r ∧ r.1 = (ynm 130).cls := ⟨mo130, gws_of (List.mem_of_getElem? (i := 882) (by decide +kernel)) (by decide +kernel), gws_of (List.mem_of_getElem? (i := 883) (by decide +kernel)) (by decide +kernel), gws_of (List.mem_of_getElem? (i := 884) (by decide +kernel)) (by decide +kernel), ccl8, rfl, rfl⟩
theorem vok_9_60 : MtOk 11 ∧ Cond.methodLink (cnm 9) 60 (ynm 11) ∈ gws ∧ Cond.instanceMethod (ynm 11) ∈ gws ∧ Cond.selects (ynm 11).cls (ynm 11) (ynm 11) ∈ gws ∧ ∃ r, scl[mown (mtd 11)]? = some r ∧ r.1 = (ynm 11).cls := ⟨mo11, gws_of (List.mem_of_getElem? (i := 600) (by decide +kernel)) (by decide +kernel), gws_of (List.mem_of_getElem? (i := 601) (by decide +kernel)) (by decide +kernel), gws_of (List.mem_of_getElem? (i := 602) (by decide +kernel)) (by decide +kernel), ccl0, rfl, rfl⟩
theorem vok_9_63 : MtOk 131 ∧ Cond.methodLink (cnm 9) 63 (ynm 131) ∈ gws ∧ Cond.instanceMethod (ynm 131) ∈ gws ∧ Cond.selects (ynm 131).cls (ynm 131) (ynm 131) ∈ gws ∧ ∃ r, scl[mown (mtd 131)]? = some r ∧ r.1 = (ynm 131).cls := ⟨mo131, gws_of (List.mem_of_getElem? (i := 886) (by decide +kernel)) (by decide +kernel), gws_of (List.mem_of_getElem? (i := 887) (by decide +kernel)) (by decide +kernel), gws_of (List.mem_of_getElem? (i := 888) (by decide +kernel)) (by decide +kernel), ccl8, rfl, rfl⟩
theorem vok_9_64 : MtOk 12 ∧ Cond.methodLink (cnm 9) 64 (ynm 12) ∈ gws ∧ Cond.instanceMethod (ynm 12) ∈ gws ∧ Cond.selects (ynm 12).cls (ynm 12) (ynm 12) ∈ gws ∧ ∃ r, scl[mown (mtd 12)]? = some r ∧ r.1 = (ynm 12).cls := ⟨mo12, gws_of (List.mem_of_getElem? (i := 604) (by decide +kernel)) (by decide +kernel), gws_of (List.mem_of_getElem? (i := 605) (by decide +kernel)) (by decide +kernel), gws_of (List.mem_of_getElem? (i := 606) (by decide +kernel)) (by decide +kernel), ccl0, rfl, rfl⟩
theorem vok_9_67 : MtOk 132 ∧ Cond.methodLink (cnm 9) 67 (ynm 132) ∈ gws ∧ Cond.instanceMethod (ynm 132) ∈ gws ∧ Cond.selects (ynm 132).cls (ynm 132) (ynm 132) ∈ gws ∧ ∃ r, scl[mown (mtd 132)]? = some r ∧ r.1 = (ynm 132).cls := ⟨mo132, gws_of (List.mem_of_getElem? (i := 890) (by decide +kernel)) (by decide +kernel), gws_of (List.mem_of_getElem? (i := 891) (by decide +kernel)) (by decide +kernel), gws_of (List.mem_of_getElem? (i := 892) (by decide +kernel)) (by decide +kernel), ccl8, rfl, rfl⟩
theorem vok_9_68 : MtOk 13 ∧ Cond.methodLink (cnm 9) 68 (ynm 13) ∈ gws ∧ Cond.instanceMethod (ynm 13) ∈ gws ∧ Cond.selects (ynm 13).cls (ynm 13) (ynm 13) ∈ gws ∧ ∃ r, scl[mown (mtd 13)]? = some r ∧ r.1 = (ynm 13).cls := ⟨mo13, gws_of (List.mem_of_getElem? (i := 608) (by decide +kernel)) (by decide +kernel), gws_of (List.mem_of_getElem? (i := 609) (by decide +kernel)) (by decide +kernel), gws_of (List.mem_of_getElem? (i := 610) (by decide +kernel)) (by decide +kernel), ccl0, rfl, rfl⟩
theorem vok_9_71 : MtOk 134 ∧ Cond.methodLink (cnm 9) 71 (ynm 134) ∈ gws ∧ Cond.instanceMethod (ynm 134) ∈ gws ∧ Cond.selects (ynm 134).cls (ynm 134) (ynm 134) ∈ gws ∧ ∃ r, scl[mown (mtd 134)]? = some r ∧ r.1 = (ynm 134).cls := ⟨mo134, gws_of (List.mem_of_getElem? (i := 894) (by decide +kernel)) (by decide +kernel), gws_of (List.mem_of_getElem? (i := 895) (by decide +kernel)) (by decide +kernel), gws_of (List.mem_of_getElem? (i := 896) (by decide +kernel)) (by decide +kernel), ccl8, rfl, rfl⟩
theorem vok_9_72 : MtOk 14 ∧ Cond.methodLink (cnm 9) 72 (ynm 14) ∈ gws ∧ Cond.instanceMethod (ynm 14) ∈ gws ∧ Cond.selects (ynm 14).cls (ynm 14) (ynm 14) ∈ gws ∧ ∃ r, scl[mown (mtd 14)]? = some r ∧ r.1 = (ynm 14).cls := ⟨mo14, gws_of (List.mem_of_getElem? (i := 619) (by decide +kernel)) (by decide +kernel), gws_of (List.mem_of_getElem? (i := 620) (by decide +kernel)) (by decide +kernel), gws_of (List.mem_of_getElem? (i := 621) (by decide +kernel)) (by decide +kernel), ccl0, rfl, rfl⟩
theorem vok_9_75 : MtOk 135 ∧ Cond.methodLink (cnm 9) 75 (ynm 135) ∈ gws ∧ Cond.instanceMethod (ynm 135) ∈ gws ∧ Cond.selects (ynm 135).cls (ynm 135) (ynm 135) ∈ gws ∧ ∃ r, scl[mown (mtd 135)]? = some r ∧ r.1 = (ynm 135).cls := ⟨mo135, gws_of (List.mem_of_getElem? (i := 902) (by decide +kernel)) (by decide +kernel), gws_of (List.mem_of_getElem? (i := 903) (by decide +kernel)) (by decide +kernel), gws_of (List.mem_of_getElem? (i := 904) (by decide +kernel)) (by decide +kernel), ccl8, rfl, rfl⟩
theorem vok_9_76 : MtOk 15 ∧ Cond.methodLink (cnm 9) 76 (ynm 15) ∈ gws ∧ Cond.instanceMethod (ynm 15) ∈ gws ∧ Cond.selects (ynm 15).cls (ynm 15) (ynm 15) ∈ gws ∧ ∃ r, scl[mown (mtd 15)]? = some r ∧ r.1 = (ynm 15).cls := ⟨mo15, gws_of (List.mem_of_getElem? (i := 625) (by decide +kernel)) (by decide +kernel), gws_of (List.mem_of_getElem? (i := 626) (by decide +kernel)) (by decide +kernel), gws_of (List.mem_of_getElem? (i := 627) (by decide +kernel)) (by decide +kernel), ccl0, rfl, rfl⟩
theorem vok_9_79 : MtOk 136 ∧ Cond.methodLink (cnm 9) 79 (ynm 136) ∈ gws ∧ Cond.instanceMethod (ynm 136) ∈ gws ∧ Cond.selects (ynm 136).cls (ynm 136) (ynm 136) ∈ gws ∧ ∃ r, scl[mown (mtd 136)]? = some r ∧ r.1 = (ynm 136).cls := ⟨mo136, gws_of (List.mem_of_getElem? (i := 906) (by decide +kernel)) (by decide +kernel), gws_of (List.mem_of_getElem? (i := 907) (by decide +kernel)) (by decide +kernel), gws_of (List.mem_of_getElem? (i := 908) (by decide +kernel)) (by decide +kernel), ccl8, rfl, rfl⟩
theorem vok_9_80 : MtOk 16 ∧ Cond.methodLink (cnm 9) 80 (ynm 16) ∈ gws ∧ Cond.instanceMethod (ynm 16) ∈ gws ∧ Cond.selects (ynm 16).cls (ynm 16) (ynm 16) ∈ gws ∧ ∃ r, scl[mown (mtd 16)]? = some r ∧ r.1 = (ynm 16).cls := ⟨mo16, gws_of (List.mem_of_getElem? (i := 629) (by decide +kernel)) (by decide +kernel), gws_of (List.mem_of_getElem? (i := 630) (by decide +kernel)) (by decide +kernel), gws_of (List.mem_of_getElem? (i := 631) (by decide +kernel)) (by decide +kernel), ccl0, rfl, rfl⟩
theorem vok_9_83 : MtOk 137 ∧ Cond.methodLink (cnm 9) 83 (ynm 137) ∈ gws ∧ Cond.instanceMethod (ynm 137) ∈ gws ∧ Cond.selects (ynm 137).cls (ynm 137) (ynm 137) ∈ gws ∧ ∃ r, scl[mown (mtd 137)]? = some r ∧ r.1 = (ynm 137).cls := ⟨mo137, gws_of (List.mem_of_getElem? (i := 910) (by decide +kernel)) (by decide +kernel), gws_of (List.mem_of_getElem? (i := 911) (by decide +kernel)) (by decide +kernel), gws_of (List.mem_of_getElem? (i := 912) (by decide +kernel)) (by decide +kernel), ccl8, rfl, rfl⟩
theorem vok_9_84 : MtOk 17 ∧ Cond.methodLink (cnm 9) 84 (ynm 17) ∈ gws ∧ Cond.instanceMethod (ynm 17) ∈ gws ∧ Cond.selects (ynm 17).cls (ynm 17) (ynm 17) ∈ gws ∧ ∃ r, scl[mown (mtd 17)]? = some r ∧ r.1 = (ynm 17).cls := ⟨mo17, gws_of (List.mem_of_getElem? (i := 633) (by decide +kernel)) (by decide +kernel), gws_of (List.mem_of_getElem? (i := 634) (by decide +kernel)) (by decide +kernel), gws_of (List.mem_of_getElem? (i := 635) (by decide +kernel)) (by decide +kernel), ccl0, rfl, rfl⟩
theorem vok_9_87 : MtOk 138 ∧ Cond.methodLink (cnm 9) 87 (ynm 138) ∈ gws ∧ Cond.instanceMethod (ynm 138) ∈ gws ∧ Cond.selects (ynm 138).cls (ynm 138) (ynm 138) ∈ gws ∧ ∃ r, scl[mown (mtd 138)]? = some r ∧ r.1 = (ynm 138).cls := ⟨mo138, gws_of (List.mem_of_getElem? (i := 914) (by decide +kernel)) (by decide +kernel), gws_of (List.mem_of_getElem? (i := 915) (by decide +kernel)) (by decide +kernel), gws_of (List.mem_of_getElem? (i := 916) (by decide +kernel)) (by decide +kernel), ccl8, rfl, rfl⟩
theorem tb_v : ∀ o x e, mtv o x = some e → MtOk e ∧ Cond.methodLink (cnm o) x (ynm e) ∈ gws ∧ Cond.instanceMethod (ynm e) ∈ gws ∧ Cond.selects (ynm e).cls (ynm e) (ynm e) ∈ gws ∧ ∃ r, scl[mown (mtd e)]? = some r ∧ r.1 = (ynm e).cls := by
  intro o x e h
  have h := pl_of (f := mtv) (l := mtvl) (fun o x q => by
    unfold mtv
    rw [q]
    rfl) (by decide +kernel) h
  match o, h with
  | 0, h =>
    have h : (x, e) ∈ nth [] mtvl 0 := h
    simp only [mtvl, nth, List.mem_cons, Prod.mk.injEq, List.not_mem_nil, or_false] at h
    rcases h with ⟨rfl, rfl⟩ | ⟨rfl, rfl⟩ | ⟨rfl, rfl⟩ | ⟨rfl, rfl⟩ | ⟨rfl, rfl⟩ | ⟨rfl, rfl⟩ | ⟨rfl, rfl⟩ | ⟨rfl, rfl⟩ | ⟨rfl, rfl⟩ | ⟨rfl, rfl⟩ | ⟨rfl, rfl⟩ | ⟨rfl, rfl⟩ | ⟨rfl, rfl⟩ | ⟨rfl, rfl⟩ | ⟨rfl, rfl⟩ | ⟨rfl, rfl⟩ | ⟨rfl, rfl⟩ | ⟨rfl, rfl⟩ | ⟨rfl, rfl⟩ | ⟨rfl, rfl⟩ | ⟨rfl, rfl⟩ | ⟨rfl, rfl⟩ | ⟨rfl, rfl⟩ | ⟨rfl, rfl⟩ | ⟨rfl, rfl⟩ | ⟨rfl, rfl⟩ | ⟨rfl, rfl⟩ | ⟨rfl, rfl⟩ | ⟨rfl, rfl⟩
    · exact vok_0_50
    · exact vok_0_53
    · exact vok_0_67
    · exact vok_0_71
    · exact vok_0_77
    · exact vok_0_85
    · exact vok_0_93
    · exact vok_0_97
    · exact vok_0_101
    · exact vok_0_105
    · exact vok_0_111
    · exact vok_0_115
    · exact vok_0_128
    · exact vok_0_138
    · exact vok_0_147
    · exact vok_0_151
    · exact vok_0_154
    · exact vok_0_164
    · exact vok_0_171
    · exact vok_0_177
    · exact vok_0_180
    · exact vok_0_183
    · exact vok_0_215
    · exact vok_0_219
    · exact vok_0_223
    · exact vok_0_226
    · exact vok_0_233
    · exact vok_0_237
    · exact vok_0_250
  | 1, h =>
    have h : (x, e) ∈ nth [] mtvl 1 := h
    simp only [mtvl, nth, List.mem_cons, Prod.mk.injEq, List.not_mem_nil, or_false] at h
    rcases h with ⟨rfl, rfl⟩ | ⟨rfl, rfl⟩ | ⟨rfl, rfl⟩ | ⟨rfl, rfl⟩ | ⟨rfl, rfl⟩ | ⟨rfl, rfl⟩
    · exact vok_1_41
    · exact vok_1_45
    · exact vok_1_52
    · exact vok_1_56
    · exact vok_1_78
    · exact vok_1_82
  | 2, h =>
    have h : (x, e) ∈ nth [] mtvl 2 := h
    simp only [mtvl, nth, List.mem_cons, Prod.mk.injEq, List.not_mem_nil, or_false] at h
    rcases h with ⟨rfl, rfl⟩ | ⟨rfl, rfl⟩
    · exact vok_2_21
    · exact vok_2_29
  | 3, h => cases h
  | 4, h =>
    have h : (x, e) ∈ nth [] mtvl 4 := h
    simp only [mtvl, nth, List.mem_cons, Prod.mk.injEq, List.not_mem_nil, or_false] at h
    rcases h with ⟨rfl, rfl⟩ | ⟨rfl, rfl⟩ | ⟨rfl, rfl⟩ | ⟨rfl, rfl⟩ | ⟨rfl, rfl⟩ | ⟨rfl, rfl⟩ | ⟨rfl, rfl⟩ | ⟨rfl, rfl⟩ | ⟨rfl, rfl⟩ | ⟨rfl, rfl⟩ | ⟨rfl, rfl⟩ | ⟨rfl, rfl⟩ | ⟨rfl, rfl⟩ | ⟨rfl, rfl⟩ | ⟨rfl, rfl⟩ | ⟨rfl, rfl⟩ | ⟨rfl, rfl⟩ | ⟨rfl, rfl⟩ | ⟨rfl, rfl⟩ | ⟨rfl, rfl⟩
    · exact vok_4_36
    · exact vok_4_40
    · exact vok_4_44
    · exact vok_4_48
    · exact vok_4_51
    · exact vok_4_55
    · exact vok_4_59
    · exact vok_4_64
    · exact vok_4_67
    · exact vok_4_80
    · exact vok_4_89
    · exact vok_4_92
    · exact vok_4_96
    · exact vok_4_107
    · exact vok_4_119
    · exact vok_4_126
    · exact vok_4_132
    · exact vok_4_136
    · exact vok_4_146
    · exact vok_4_150
  | 5, h => cases h
  | 6, h =>
    have h : (x, e) ∈ nth [] mtvl 6 := h
    simp only [mtvl, nth, List.mem_cons, Prod.mk.injEq, List.not_mem_nil, or_false] at h
    rcases h with ⟨rfl, rfl⟩ | ⟨rfl, rfl⟩ | ⟨rfl, rfl⟩ | ⟨rfl, rfl⟩ | ⟨rfl, rfl⟩ | ⟨rfl, rfl⟩ | ⟨rfl, rfl⟩ | ⟨rfl, rfl⟩ | ⟨rfl, rfl⟩ | ⟨rfl, rfl⟩ | ⟨rfl, rfl⟩
    · exact vok_6_17
    · exact vok_6_34
    · exact vok_6_42
    · exact vok_6_46
    · exact vok_6_49
    · exact vok_6_55
    · exact vok_6_59
    · exact vok_6_62
    · exact vok_6_66
    · exact vok_6_69
    · exact vok_6_73
  | 7, h =>
    have h : (x, e) ∈ nth [] mtvl 7 := h
    simp only [mtvl, nth, List.mem_cons, Prod.mk.injEq, List.not_mem_nil, or_false] at h
    obtain ⟨rfl, rfl⟩ := h
    exact vok_7_24
  | 8, h =>
    have h : (x, e) ∈ nth [] mtvl 8 := h
    simp only [mtvl, nth, List.mem_cons, Prod.mk.injEq, List.not_mem_nil, or_false] at h
    rcases h with ⟨rfl, rfl⟩ | ⟨rfl, rfl⟩ | ⟨rfl, rfl⟩ | ⟨rfl, rfl⟩ | ⟨rfl, rfl⟩ | ⟨rfl, rfl⟩ | ⟨rfl, rfl⟩ | ⟨rfl, rfl⟩ | ⟨rfl, rfl⟩ | ⟨rfl, rfl⟩ | ⟨rfl, rfl⟩ | ⟨rfl, rfl⟩ | ⟨rfl, rfl⟩ | ⟨rfl, rfl⟩ | ⟨rfl, rfl⟩ | ⟨rfl, rfl⟩ | ⟨rfl, rfl⟩ | ⟨rfl, rfl⟩ | ⟨rfl, rfl⟩ | ⟨rfl, rfl⟩ | ⟨rfl, rfl⟩ | ⟨rfl, rfl⟩ | ⟨rfl, rfl⟩ | ⟨rfl, rfl⟩ | ⟨rfl, rfl⟩ | ⟨rfl, rfl⟩ | ⟨rfl, rfl⟩ | ⟨rfl, rfl⟩ | ⟨rfl, rfl⟩
    · exact vok_8_88
    · exact vok_8_92
    · exact vok_8_95
    · exact vok_8_99
    · exact vok_8_106
    · exact vok_8_110
    · exact vok_8_114
    · exact vok_8_117
    · exact vok_8_120
    · exact vok_8_126
    · exact vok_8_129
    · exact vok_8_132
    · exact vok_8_135
    · exact vok_8_139
    · exact vok_8_142
    · exact vok_8_146
    · exact vok_8_149
    · exact vok_8_152
    · exact vok_8_155
    · exact vok_8_161
    · exact vok_8_165
    · exact vok_8_173
    · exact vok_8_177
    · exact vok_8_180
    · exact vok_8_184
    · exact vok_8_188
    · exact vok_8_198
    · exact vok_8_201
    · exact vok_8_205
  | 9, h =>
    have h : (x, e) ∈ nth [] mtvl 9 := h
    simp only [mtvl, nth, List.mem_cons, Prod.mk.injEq, List.not_mem_nil, or_false] at h
    rcases h with ⟨rfl, rfl⟩ | ⟨rfl, rfl⟩ | ⟨rfl, rfl⟩ | ⟨rfl, rfl⟩ | ⟨rfl, rfl⟩ | ⟨rfl, rfl⟩ | ⟨rfl, rfl⟩ | ⟨rfl, rfl⟩ | ⟨rfl, rfl⟩ | ⟨rfl, rfl⟩ | ⟨rfl, rfl⟩ | ⟨rfl, rfl⟩ | ⟨rfl, rfl⟩ | ⟨rfl, rfl⟩ | ⟨rfl, rfl⟩ | ⟨rfl, rfl⟩ | ⟨rfl, rfl⟩ | ⟨rfl, rfl⟩ | ⟨rfl, rfl⟩ | ⟨rfl, rfl⟩ | ⟨rfl, rfl⟩ | ⟨rfl, rfl⟩ | ⟨rfl, rfl⟩ | ⟨rfl, rfl⟩ | ⟨rfl, rfl⟩ | ⟨rfl, rfl⟩ | ⟨rfl, rfl⟩ | ⟨rfl, rfl⟩ | ⟨rfl, rfl⟩ | ⟨rfl, rfl⟩ | ⟨rfl, rfl⟩ | ⟨rfl, rfl⟩ | ⟨rfl, rfl⟩ | ⟨rfl, rfl⟩
    · exact vok_9_13
    · exact vok_9_17
    · exact vok_9_18
    · exact vok_9_22
    · exact vok_9_23
    · exact vok_9_27
    · exact vok_9_28
    · exact vok_9_32
    · exact vok_9_33
    · exact vok_9_37
    · exact vok_9_38
    · exact vok_9_42
    · exact vok_9_43
    · exact vok_9_46
    · exact vok_9_47
    · exact vok_9_50
    · exact vok_9_51
    · exact vok_9_55
    · exact vok_9_56
    · exact vok_9_59
    · exact vok_9_60
    · exact vok_9_63
    · exact vok_9_64
    · exact vok_9_67
    · exact vok_9_68
    · exact vok_9_71
    · exact vok_9_72
    · exact vok_9_75
    · exact vok_9_76
    · exact vok_9_79
    · exact vok_9_80
    · exact vok_9_83
    · exact vok_9_84
    · exact vok_9_87
  | 10, h => cases h
  | 11, h => cases h
  | j + 12, h => cases h
theorem iok_0_9 : MtOk 40 ∧ (Cond.methodLink (cnm 0) 9 (ynm 40) ∈ gws ∨ ∃ q ∈ nwl, q.1 = cnm 0 ∧ q.2.1 = 9 ∧ q.2.2.1 = ynm 40) ∧ Cond.instanceMethod (ynm 40) ∈ gws ∧ (ynm 40).name = "<init>" ∧ mret (mtd 40) = 0 := ⟨mo40, Or.inr ⟨_, List.mem_of_getElem? (i := 0) rfl, rfl, rfl, rfl⟩, gws_of (List.mem_of_getElem? (i := 80) (by decide +kernel)) (by decide +kernel), rfl, rfl⟩
theorem iok_0_18 : MtOk 47 ∧ (Cond.methodLink (cnm 0) 18 (ynm 47) ∈ gws ∨ ∃ q ∈ nwl, q.1 = cnm 0 ∧ q.2.1 = 18 ∧ q.2.2.1 = ynm 47) ∧ Cond.instanceMethod (ynm 47) ∈ gws ∧ (ynm 47).name = "<init>" ∧ mret (mtd 47) = 0 := ⟨mo47, Or.inl (gws_of (List.mem_of_getElem? (i := 96) (by decide +kernel)) (by decide +kernel)), gws_of (List.mem_of_getElem? (i := 97) (by decide +kernel)) (by decide +kernel), rfl, rfl⟩
theorem iok_0_33 : MtOk 84 ∧ (Cond.methodLink (cnm 0) 33 (ynm 84) ∈ gws ∨ ∃ q ∈ nwl, q.1 = cnm 0 ∧ q.2.1 = 33 ∧ q.2.2.1 = ynm 84) ∧ Cond.instanceMethod (ynm 84) ∈ gws ∧ (ynm 84).name = "<init>" ∧ mret (mtd 84) = 0 := ⟨mo84, Or.inr ⟨_, List.mem_of_getElem? (i := 2) rfl, rfl, rfl, rfl⟩, gws_of (List.mem_of_getElem? (i := 139) (by decide +kernel)) (by decide +kernel), rfl, rfl⟩
theorem iok_0_40 : MtOk 67 ∧ (Cond.methodLink (cnm 0) 40 (ynm 67) ∈ gws ∨ ∃ q ∈ nwl, q.1 = cnm 0 ∧ q.2.1 = 40 ∧ q.2.2.1 = ynm 67) ∧ Cond.instanceMethod (ynm 67) ∈ gws ∧ (ynm 67).name = "<init>" ∧ mret (mtd 67) = 0 := ⟨mo67, Or.inr ⟨_, List.mem_of_getElem? (i := 3) rfl, rfl, rfl, rfl⟩, gws_of (List.mem_of_getElem? (i := 103) (by decide +kernel)) (by decide +kernel), rfl, rfl⟩
theorem iok_0_47 : MtOk 31 ∧ (Cond.methodLink (cnm 0) 47 (ynm 31) ∈ gws ∨ ∃ q ∈ nwl, q.1 = cnm 0 ∧ q.2.1 = 47 ∧ q.2.2.1 = ynm 31) ∧ Cond.instanceMethod (ynm 31) ∈ gws ∧ (ynm 31).name = "<init>" ∧ mret (mtd 31) = 0 := ⟨mo31, Or.inl (gws_of (List.mem_of_getElem? (i := 156) (by decide +kernel)) (by decide +kernel)), gws_of (List.mem_of_getElem? (i := 157) (by decide +kernel)) (by decide +kernel), rfl, rfl⟩
theorem iok_0_74 : MtOk 62 ∧ (Cond.methodLink (cnm 0) 74 (ynm 62) ∈ gws ∨ ∃ q ∈ nwl, q.1 = cnm 0 ∧ q.2.1 = 74 ∧ q.2.2.1 = ynm 62) ∧ Cond.instanceMethod (ynm 62) ∈ gws ∧ (ynm 62).name = "<init>" ∧ mret (mtd 62) = 0 := ⟨mo62, Or.inl (gws_of (List.mem_of_getElem? (i := 266) (by decide +kernel)) (by decide +kernel)), gws_of (List.mem_of_getElem? (i := 267) (by decide +kernel)) (by decide +kernel), rfl, rfl⟩
theorem iok_1_11 : MtOk 67 ∧ (Cond.methodLink (cnm 1) 11 (ynm 67) ∈ gws ∨ ∃ q ∈ nwl, q.1 = cnm 1 ∧ q.2.1 = 11 ∧ q.2.2.1 = ynm 67) ∧ Cond.instanceMethod (ynm 67) ∈ gws ∧ (ynm 67).name = "<init>" ∧ mret (mtd 67) = 0 := ⟨mo67, Or.inr ⟨_, List.mem_of_getElem? (i := 4) rfl, rfl, rfl, rfl⟩, gws_of (List.mem_of_getElem? (i := 103) (by decide +kernel)) (by decide +kernel), rfl, rfl⟩
theorem iok_4_17 : MtOk 67 ∧ (Cond.methodLink (cnm 4) 17 (ynm 67) ∈ gws ∨ ∃ q ∈ nwl, q.1 = cnm 4 ∧ q.2.1 = 17 ∧ q.2.2.1 = ynm 67) ∧ Cond.instanceMethod (ynm 67) ∈ gws ∧ (ynm 67).name = "<init>" ∧ mret (mtd 67) = 0 := ⟨mo67, Or.inr ⟨_, List.mem_of_getElem? (i := 1) rfl, rfl, rfl, rfl⟩, gws_of (List.mem_of_getElem? (i := 103) (by decide +kernel)) (by decide +kernel), rfl, rfl⟩
theorem iok_7_21 : MtOk 45 ∧ (Cond.methodLink (cnm 7) 21 (ynm 45) ∈ gws ∨ ∃ q ∈ nwl, q.1 = cnm 7 ∧ q.2.1 = 21 ∧ q.2.2.1 = ynm 45) ∧ Cond.instanceMethod (ynm 45) ∈ gws ∧ (ynm 45).name = "<init>" ∧ mret (mtd 45) = 0 := ⟨mo45, Or.inl (gws_of (List.mem_of_getElem? (i := 493) (by decide +kernel)) (by decide +kernel)), gws_of (List.mem_of_getElem? (i := 494) (by decide +kernel)) (by decide +kernel), rfl, rfl⟩
theorem iok_9_9 : MtOk 0 ∧ (Cond.methodLink (cnm 9) 9 (ynm 0) ∈ gws ∨ ∃ q ∈ nwl, q.1 = cnm 9 ∧ q.2.1 = 9 ∧ q.2.2.1 = ynm 0) ∧ Cond.instanceMethod (ynm 0) ∈ gws ∧ (ynm 0).name = "<init>" ∧ mret (mtd 0) = 0 := ⟨mo0, Or.inl (gws_of (List.mem_of_getElem? (i := 71) (by decide +kernel)) (by decide +kernel)), gws_of (List.mem_of_getElem? (i := 72) (by decide +kernel)) (by decide +kernel), rfl, rfl⟩
theorem iok_9_12 : MtOk 88 ∧ (Cond.methodLink (cnm 9) 12 (ynm 88) ∈ gws ∨ ∃ q ∈ nwl, q.1 = cnm 9 ∧ q.2.1 = 12 ∧ q.2.2.1 = ynm 88) ∧ Cond.instanceMethod (ynm 88) ∈ gws ∧ (ynm 88).name = "<init>" ∧ mret (mtd 88) = 0 := ⟨mo88, Or.inl (gws_of (List.mem_of_getElem? (i := 639) (by decide +kernel)) (by decide +kernel)), gws_of (List.mem_of_getElem? (i := 640) (by decide +kernel)) (by decide +kernel), rfl, rfl⟩
theorem tb_i : ∀ o x e, mti o x = some e → MtOk e ∧ (Cond.methodLink (cnm o) x (ynm e) ∈ gws ∨ ∃ q ∈ nwl, q.1 = cnm o ∧ q.2.1 = x ∧ q.2.2.1 = ynm e) ∧ Cond.instanceMethod (ynm e) ∈ gws ∧ (ynm e).name = "<init>" ∧ mret (mtd e) = 0 := by
  intro o x e h
  have h := pl_of (f := mti) (l := mtil) (fun o x q => by
    unfold mti
    rw [q]
    rfl) (by decide +kernel) h
  match o, h with
  | 0, h =>
    have h : (x, e) ∈ nth [] mtil 0 := h
    simp only [mtil, nth, List.mem_cons, Prod.mk.injEq, List.not_mem_nil, or_false] at h
    rcases h with ⟨rfl, rfl⟩ | ⟨rfl, rfl⟩ | ⟨rfl, rfl⟩ | ⟨rfl, rfl⟩ | ⟨rfl, rfl⟩ | ⟨rfl, rfl⟩
    · exact iok_0_9
    · exact iok_0_18
    · exact iok_0_33
    · exact iok_0_40
    · exact iok_0_47
    · exact iok_0_74
  | 1, h =>
    have h : (x, e) ∈ nth [] mtil 1 := h
    simp only [mtil, nth, List.mem_cons, Prod.mk.injEq, List.not_mem_nil, or_false] at h
    obtain ⟨rfl, rfl⟩ := h
    exact iok_1_11
  | 2, h => cases h
  | 3, h => cases h
  | 4, h =>
    have h : (x, e) ∈ nth [] mtil 4 := h
    simp only [mtil, nth, List.mem_cons, Prod.mk.injEq, List.not_mem_nil, or_false] at h
    obtain ⟨rfl, rfl⟩ := h
    exact iok_4_17
  | 5, h => cases h
  | 6, h => cases h
  | 7, h =>
    have h : (x, e) ∈ nth [] mtil 7 := h
    simp only [mtil, nth, List.mem_cons, Prod.mk.injEq, List.not_mem_nil, or_false] at h
    obtain ⟨rfl, rfl⟩ := h
    exact iok_7_21
  | 8, h => cases h
  | 9, h =>
    have h : (x, e) ∈ nth [] mtil 9 := h
    simp only [mtil, nth, List.mem_cons, Prod.mk.injEq, List.not_mem_nil, or_false] at h
    rcases h with ⟨rfl, rfl⟩ | ⟨rfl, rfl⟩
    · exact iok_9_9
    · exact iok_9_12
  | 10, h => cases h
  | 11, h => cases h
  | j + 12, h => cases h
theorem nok_0_7 : ∃ r, scl[2]? = some r ∧ Cond.classLink (cnm 0) 7 r.1 ∈ gws := ⟨ccl2, rfl, gws_of (List.mem_of_getElem? (i := 77) (by decide +kernel)) (by decide +kernel)⟩
theorem nok_0_16 : ∃ r, scl[4]? = some r ∧ Cond.classLink (cnm 0) 16 r.1 ∈ gws := ⟨ccl4, rfl, gws_of (List.mem_of_getElem? (i := 94) (by decide +kernel)) (by decide +kernel)⟩
theorem nok_0_25 : ∃ r, scl[5]? = some r ∧ Cond.classLink (cnm 0) 25 r.1 ∈ gws := ⟨ccl5, rfl, gws_of (List.mem_of_getElem? (i := 134) (by decide +kernel)) (by decide +kernel)⟩
theorem nok_0_31 : ∃ r, scl[7]? = some r ∧ Cond.classLink (cnm 0) 31 r.1 ∈ gws := ⟨ccl7, rfl, gws_of (List.mem_of_getElem? (i := 136) (by decide +kernel)) (by decide +kernel)⟩
theorem nok_0_38 : ∃ r, scl[6]? = some r ∧ Cond.classLink (cnm 0) 38 r.1 ∈ gws := ⟨ccl6, rfl, gws_of (List.mem_of_getElem? (i := 152) (by decide +kernel)) (by decide +kernel)⟩
theorem nok_0_45 : ∃ r, scl[1]? = some r ∧ Cond.classLink (cnm 0) 45 r.1 ∈ gws := ⟨ccl1, rfl, gws_of (List.mem_of_getElem? (i := 154) (by decide +kernel)) (by decide +kernel)⟩
theorem nok_1_9 : ∃ r, scl[6]? = some r ∧ Cond.classLink (cnm 1) 9 r.1 ∈ gws := ⟨ccl6, rfl, gws_of (List.mem_of_getElem? (i := 160) (by decide +kernel)) (by decide +kernel)⟩
theorem nok_4_15 : ∃ r, scl[6]? = some r ∧ Cond.classLink (cnm 4) 15 r.1 ∈ gws := ⟨ccl6, rfl, gws_of (List.mem_of_getElem? (i := 100) (by decide +kernel)) (by decide +kernel)⟩
theorem nok_7_9 : ∃ r, scl[3]? = some r ∧ Cond.classLink (cnm 7) 9 r.1 ∈ gws := ⟨ccl3, rfl, gws_of (List.mem_of_getElem? (i := 142) (by decide +kernel)) (by decide +kernel)⟩
theorem nok_9_7 : ∃ r, scl[0]? = some r ∧ Cond.classLink (cnm 9) 7 r.1 ∈ gws := ⟨ccl0, rfl, gws_of (List.mem_of_getElem? (i := 69) (by decide +kernel)) (by decide +kernel)⟩
theorem nok_9_10 : ∃ r, scl[8]? = some r ∧ Cond.classLink (cnm 9) 10 r.1 ∈ gws := ⟨ccl8, rfl, gws_of (List.mem_of_getElem? (i := 637) (by decide +kernel)) (by decide +kernel)⟩
theorem tb_n : ∀ o x e, nwc o x = some e → ∃ r, scl[e]? = some r ∧ Cond.classLink (cnm o) x r.1 ∈ gws := by
  intro o x e h
  have h := pl_of (f := nwc) (l := nwcl) (fun o x q => by
    unfold nwc
    rw [q]
    rfl) (by decide +kernel) h
  match o, h with
  | 0, h =>
    have h : (x, e) ∈ nth [] nwcl 0 := h
    simp only [nwcl, nth, List.mem_cons, Prod.mk.injEq, List.not_mem_nil, or_false] at h
    rcases h with ⟨rfl, rfl⟩ | ⟨rfl, rfl⟩ | ⟨rfl, rfl⟩ | ⟨rfl, rfl⟩ | ⟨rfl, rfl⟩ | ⟨rfl, rfl⟩
    · exact nok_0_7
    · exact nok_0_16
    · exact nok_0_25
    · exact nok_0_31
    · exact nok_0_38
    · exact nok_0_45
  | 1, h =>
    have h : (x, e) ∈ nth [] nwcl 1 := h
    simp only [nwcl, nth, List.mem_cons, Prod.mk.injEq, List.not_mem_nil, or_false] at h
    obtain ⟨rfl, rfl⟩ := h
    exact nok_1_9
  | 2, h => cases h
  | 3, h => cases h
  | 4, h =>
    have h : (x, e) ∈ nth [] nwcl 4 := h
    simp only [nwcl, nth, List.mem_cons, Prod.mk.injEq, List.not_mem_nil, or_false] at h
    obtain ⟨rfl, rfl⟩ := h
    exact nok_4_15
  | 5, h => cases h
  | 6, h => cases h
  | 7, h =>
    have h : (x, e) ∈ nth [] nwcl 7 := h
    simp only [nwcl, nth, List.mem_cons, Prod.mk.injEq, List.not_mem_nil, or_false] at h
    obtain ⟨rfl, rfl⟩ := h
    exact nok_7_9
  | 8, h => cases h
  | 9, h =>
    have h : (x, e) ∈ nth [] nwcl 9 := h
    simp only [nwcl, nth, List.mem_cons, Prod.mk.injEq, List.not_mem_nil, or_false] at h
    rcases h with ⟨rfl, rfl⟩ | ⟨rfl, rfl⟩
    · exact nok_9_7
    · exact nok_9_10
  | 10, h => cases h
  | 11, h => cases h
  | j + 12, h => cases h
theorem aok_0_25 : 5 < 6 ∧ 3 ≤ 5 ∧ ∃ C, aty 5 = .object C ∧ Cond.classLink (cnm 0) 25 C ∈ gws ∧ C ∈ ovs := ⟨by decide, by decide, _, rfl, gws_of (List.mem_of_getElem? (i := 134) (by decide +kernel)) (by decide +kernel), List.mem_of_getElem? (i := 2) rfl⟩
theorem aok_2_9 : 3 < 6 ∧ 3 ≤ 3 ∧ ∃ C, aty 3 = .object C ∧ Cond.classLink (cnm 2) 9 C ∈ gws ∧ C ∈ ovs := ⟨by decide, by decide, _, rfl, gws_of (List.mem_of_getElem? (i := 83) (by decide +kernel)) (by decide +kernel), List.mem_of_getElem? (i := 0) rfl⟩
theorem aok_6_9 : 3 < 6 ∧ 3 ≤ 3 ∧ ∃ C, aty 3 = .object C ∧ Cond.classLink (cnm 6) 9 C ∈ gws ∧ C ∈ ovs := ⟨by decide, by decide, _, rfl, gws_of (List.mem_of_getElem? (i := 106) (by decide +kernel)) (by decide +kernel), List.mem_of_getElem? (i := 0) rfl⟩
theorem aok_7_9 : 4 < 6 ∧ 3 ≤ 4 ∧ ∃ C, aty 4 = .object C ∧ Cond.classLink (cnm 7) 9 C ∈ gws ∧ C ∈ ovs := ⟨by decide, by decide, _, rfl, gws_of (List.mem_of_getElem? (i := 142) (by decide +kernel)) (by decide +kernel), List.mem_of_getElem? (i := 1) rfl⟩
theorem tb_a : ∀ o x e, anw o x = some e → e < 6 ∧ 3 ≤ e ∧ ∃ C, aty e = .object C ∧ Cond.classLink (cnm o) x C ∈ gws ∧ C ∈ ovs := by
  intro o x e h
  have h := pl_of (f := anw) (l := anwl) (fun o x q => by
    unfold anw
    rw [q]
    rfl) (by decide +kernel) h
  match o, h with
  | 0, h =>
    have h : (x, e) ∈ nth [] anwl 0 := h
    simp only [anwl, nth, List.mem_cons, Prod.mk.injEq, List.not_mem_nil, or_false] at h
    obtain ⟨rfl, rfl⟩ := h
    exact aok_0_25
  | 1, h => cases h
  | 2, h =>
    have h : (x, e) ∈ nth [] anwl 2 := h
    simp only [anwl, nth, List.mem_cons, Prod.mk.injEq, List.not_mem_nil, or_false] at h
    obtain ⟨rfl, rfl⟩ := h
    exact aok_2_9
  | 3, h => cases h
  | 4, h => cases h
  | 5, h => cases h
  | 6, h =>
    have h : (x, e) ∈ nth [] anwl 6 := h
    simp only [anwl, nth, List.mem_cons, Prod.mk.injEq, List.not_mem_nil, or_false] at h
    obtain ⟨rfl, rfl⟩ := h
    exact aok_6_9
  | 7, h =>
    have h : (x, e) ∈ nth [] anwl 7 := h
    simp only [anwl, nth, List.mem_cons, Prod.mk.injEq, List.not_mem_nil, or_false] at h
    obtain ⟨rfl, rfl⟩ := h
    exact aok_7_9
  | 8, h => cases h
  | 9, h => cases h
  | 10, h => cases h
  | 11, h => cases h
  | j + 12, h => cases h
theorem lok_0_244 : Cond.constantLong (cnm 0) 244 (-1) ∈ gws := gws_of (List.mem_of_getElem? (i := 334) (by decide +kernel)) (by decide +kernel)
theorem lok_4_62 : Cond.constantLong (cnm 4) 62 (-1) ∈ gws := gws_of (List.mem_of_getElem? (i := 353) (by decide +kernel)) (by decide +kernel)
theorem lok_5_25 : Cond.constantLong (cnm 5) 25 (-1) ∈ gws := gws_of (List.mem_of_getElem? (i := 479) (by decide +kernel)) (by decide +kernel)
theorem lok_8_82 : Cond.constantLong (cnm 8) 82 (2) ∈ gws := gws_of (List.mem_of_getElem? (i := 643) (by decide +kernel)) (by decide +kernel)
theorem lok_8_124 : Cond.constantLong (cnm 8) 124 (-1) ∈ gws := gws_of (List.mem_of_getElem? (i := 735) (by decide +kernel)) (by decide +kernel)
theorem lok_10_314 : Cond.constantLong (cnm 10) 314 (6148914691236517205) ∈ gws := gws_of (List.mem_of_getElem? (i := 551) (by decide +kernel)) (by decide +kernel)
theorem lok_10_316 : Cond.constantLong (cnm 10) 316 (3689348814741910323) ∈ gws := gws_of (List.mem_of_getElem? (i := 552) (by decide +kernel)) (by decide +kernel)
theorem lok_10_318 : Cond.constantLong (cnm 10) 318 (1085102592571150095) ∈ gws := gws_of (List.mem_of_getElem? (i := 553) (by decide +kernel)) (by decide +kernel)
theorem tb_l : ∀ o x e, lng o x = some e → Cond.constantLong (cnm o) x e ∈ gws := by
  intro o x e h
  have h := pl_of (f := lng) (l := lngl) (fun o x q => by
    unfold lng
    rw [q]
    rfl) (by decide +kernel) h
  match o, h with
  | 0, h =>
    have h : (x, e) ∈ nth [] lngl 0 := h
    simp only [lngl, nth, List.mem_cons, Prod.mk.injEq, List.not_mem_nil, or_false] at h
    obtain ⟨rfl, rfl⟩ := h
    exact lok_0_244
  | 1, h => cases h
  | 2, h => cases h
  | 3, h => cases h
  | 4, h =>
    have h : (x, e) ∈ nth [] lngl 4 := h
    simp only [lngl, nth, List.mem_cons, Prod.mk.injEq, List.not_mem_nil, or_false] at h
    obtain ⟨rfl, rfl⟩ := h
    exact lok_4_62
  | 5, h =>
    have h : (x, e) ∈ nth [] lngl 5 := h
    simp only [lngl, nth, List.mem_cons, Prod.mk.injEq, List.not_mem_nil, or_false] at h
    obtain ⟨rfl, rfl⟩ := h
    exact lok_5_25
  | 6, h => cases h
  | 7, h => cases h
  | 8, h =>
    have h : (x, e) ∈ nth [] lngl 8 := h
    simp only [lngl, nth, List.mem_cons, Prod.mk.injEq, List.not_mem_nil, or_false] at h
    rcases h with ⟨rfl, rfl⟩ | ⟨rfl, rfl⟩
    · exact lok_8_82
    · exact lok_8_124
  | 9, h => cases h
  | 10, h =>
    have h : (x, e) ∈ nth [] lngl 10 := h
    simp only [lngl, nth, List.mem_cons, Prod.mk.injEq, List.not_mem_nil, or_false] at h
    rcases h with ⟨rfl, rfl⟩ | ⟨rfl, rfl⟩ | ⟨rfl, rfl⟩
    · exact lok_10_314
    · exact lok_10_316
    · exact lok_10_318
  | 11, h => cases h
  | j + 12, h => cases h
theorem tb_o : ∀ o x, obi o x = true → Cond.methodLink (cnm o) x Lib.objectInit ∈ gws ∧ Cond.instanceMethod Lib.objectInit ∈ gws ∧ Cond.code Lib.objectInit ⟨#[0xb1]⟩ 1 none ∈ gws := by
  intro o x h
  refine ⟨?_, gws_of (List.mem_of_getElem? (i := 75) (by decide +kernel)) (by decide +kernel), gws_of (List.mem_of_getElem? (i := 76) (by first | rfl | decide +kernel)) (by decide +kernel)⟩
  have h := nin_mem h
  match o, h with
  | 0, h =>
    have h : x ∈ [1] := h
    cases List.mem_singleton.mp h
    exact gws_of (List.mem_of_getElem? (i := 74) (by decide +kernel)) (by decide +kernel)
  | 1, h =>
    have h : x ∈ [3] := h
    cases List.mem_singleton.mp h
    exact gws_of (List.mem_of_getElem? (i := 159) (by decide +kernel)) (by decide +kernel)
  | 2, h =>
    have h : x ∈ [3] := h
    cases List.mem_singleton.mp h
    exact gws_of (List.mem_of_getElem? (i := 82) (by decide +kernel)) (by decide +kernel)
  | 3, h =>
    have h : x ∈ [1] := h
    cases List.mem_singleton.mp h
    exact gws_of (List.mem_of_getElem? (i := 496) (by decide +kernel)) (by decide +kernel)
  | 4, h =>
    have h : x ∈ [3] := h
    cases List.mem_singleton.mp h
    exact gws_of (List.mem_of_getElem? (i := 99) (by decide +kernel)) (by decide +kernel)
  | 5, h =>
    have h : x ∈ [3] := h
    cases List.mem_singleton.mp h
    exact gws_of (List.mem_of_getElem? (i := 269) (by decide +kernel)) (by decide +kernel)
  | 6, h =>
    have h : x ∈ [3] := h
    cases List.mem_singleton.mp h
    exact gws_of (List.mem_of_getElem? (i := 105) (by decide +kernel)) (by decide +kernel)
  | 7, h =>
    have h : x ∈ [3] := h
    cases List.mem_singleton.mp h
    exact gws_of (List.mem_of_getElem? (i := 141) (by decide +kernel)) (by decide +kernel)
  | 8, h =>
    have h : x ∈ [1] := h
    cases List.mem_singleton.mp h
    exact gws_of (List.mem_of_getElem? (i := 642) (by decide +kernel)) (by decide +kernel)
  | 9, h => cases h
  | 10, h => cases h
  | 11, h => cases h
  | j + 12, h => cases h
theorem tb_t : ∀ t ak, akt t = some ak → ak < 3 ∧ aty ak = newarray.typeOf t ∧ Cond.arrayClass (newarray.typeOf t) ∈ gws := by
  intro t ak h
  cases t <;> first | (cases h; done) | skip
  all_goals cases h
  · exact ⟨by decide, rfl, gws_of (List.mem_of_getElem? (i := 113) (by decide +kernel)) (by decide +kernel)⟩
  · exact ⟨by decide, rfl, gws_of (List.mem_of_getElem? (i := 133) (by decide +kernel)) (by decide +kernel)⟩
  · exact ⟨by decide, rfl, gws_of (List.mem_of_getElem? (i := 720) (by decide +kernel)) (by decide +kernel)⟩
theorem tb_e : ∀ ak ci, aec ak = some ci → ak < 6 ∧ 3 ≤ ak ∧ ∃ C r, aty ak = .object C ∧ scl[ci]? = some r ∧ r.1 = C := by
  intro ak ci h
  have h := lk2_mem h
  simp only [List.mem_cons, Prod.mk.injEq, List.not_mem_nil, or_false] at h
  rcases h with ⟨rfl, rfl⟩ | ⟨rfl, rfl⟩ | ⟨rfl, rfl⟩
  · exact ⟨by decide, by decide, _, ccl1, rfl, rfl, rfl⟩
  · exact ⟨by decide, by decide, _, ccl3, rfl, rfl, rfl⟩
  · exact ⟨by decide, by decide, _, ccl5, rfl, rfl, rfl⟩
theorem tb_ok : TbOk := ⟨tb_fe, tb_cl, tb_s, tb_v, tb_i, tb_o, tb_n, tb_a, tb_l, tb_t, tb_e⟩
