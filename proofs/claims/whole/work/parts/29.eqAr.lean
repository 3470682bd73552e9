/-! Equations of the stretches (printed by wip/gen/tabs.py). -/
-- java/util/Arrays.fill([II)V
noncomputable def fAr_fill_5 (x0 : Option Nat) (x1 : Int32) (x2 : Int32) (x3 : Int32) (σ : Hp) : Option Rs := rF (mAr_fill, 5, [(0, sA x0), (1, sI x1), (2, sI x2), (3, sI x3)], [], σ)
set_option maxRecDepth 100000 in
set_option maxHeartbeats 4000000 in
theorem eAr_fill (x0 : Option Nat) (x1 : Int32) (σ : Hp) : rF (mAr_fill, 0, [(0, sA x0), (1, sI x1)], [], σ) =
  (alen σ x0).bind fun v3 =>
  fAr_fill_5 x0 x1 (0 : Int32) v3 σ
  := (blk_eq sAr_fill 20 _).trans rfl
set_option maxRecDepth 100000 in
set_option maxHeartbeats 4000000 in
theorem eAr_fill_5 (x0 : Option Nat) (x1 : Int32) (x2 : Int32) (x3 : Int32) (σ : Hp) : fAr_fill_5 x0 x1 x2 x3 σ =
  if x3 ≤ x2 then
    some (none, σ)
  else
    (asI σ x0 x2 x1).bind fun σ13 =>
    fAr_fill_5 x0 x1 (x2 + (1 : Int32)) x3 σ13
  := (blk_eq sAr_fill 20 _).trans rfl
