/-! Equations of the stretches (printed by wip/gen/tabs.py). -/
-- MeshRoom$Message.<init>(IIII)V
set_option maxRecDepth 100000 in
set_option maxHeartbeats 4000000 in
theorem eMe_init (x0 : Option Nat) (x1 : Int32) (x2 : Int32) (x3 : Int32) (x4 : Int32) (σ : Hp) : rF (mMe_init, 0, [(0, sA x0), (1, sI x1), (2, sI x2), (3, sI x3), (4, sI x4)], [], σ) =
  (x0).bind fun _ =>
  (pfI σ x0 3 0 x1).bind fun σ6 =>
  (pfI σ6 x0 3 1 x2).bind fun σ11 =>
  (pfI σ11 x0 3 2 x3).bind fun σ16 =>
  (pfI σ16 x0 3 3 x4).bind fun σ22 =>
  some (none, σ22)
  := (blk_eq sMe_init 20 _).trans rfl

-- MeshRoom$Message.code()I
noncomputable def fMe_code_44 (s0 : Int32) (s1 : Int32) (σ : Hp) : Option Rs := rF (mMe_code, 44, [], [sI s1, sI s0], σ)
set_option maxRecDepth 100000 in
set_option maxHeartbeats 4000000 in
theorem eMe_code (x0 : Option Nat) (σ : Hp) : rF (mMe_code, 0, [(0, sA x0)], [], σ) =
  (gfI σ x0 3 1).bind fun v1 =>
  (gfI σ x0 3 3).bind fun v7 =>
  (gfI σ x0 3 2).bind fun v16 =>
  (gfI σ x0 3 0).bind fun v25 =>
  (gfI σ x0 3 4).bind fun v31 =>
  if v31 = 0 then
    fMe_code_44 (((v1 + ((64 : Int32) * v7)) + ((256 : Int32) * v16)) + ((1024 : Int32) * v25)) (0 : Int32) σ
  else
    fMe_code_44 (((v1 + ((64 : Int32) * v7)) + ((256 : Int32) * v16)) + ((1024 : Int32) * v25)) (4096 : Int32) σ
  := (blk_eq sMe_code 30 _).trans rfl
set_option maxRecDepth 100000 in
set_option maxHeartbeats 4000000 in
theorem eMe_code_44 (s0 : Int32) (s1 : Int32) (σ : Hp) : fMe_code_44 s0 s1 σ =
  some (some (sI (s0 + s1)), σ)
  := (blk_eq sMe_code 30 _).trans rfl
