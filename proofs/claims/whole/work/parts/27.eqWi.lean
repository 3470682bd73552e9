/-! Equations of the stretches (printed by wip/gen/tabs.py). -/
-- MeshRoom$Wire.<init>()V
set_option maxRecDepth 100000 in
set_option maxHeartbeats 4000000 in
theorem eWi_init (x0 : Option Nat) (σ : Hp) : rF (mWi_init, 0, [(0, sA x0)], [], σ) =
  (x0).bind fun _ =>
  (mkA σ 4 (24 : Int32)).bind fun σ7 =>
  (pfA σ7 x0 7 0 (some (Prod.fst σ))).bind fun σ10 =>
  some (none, σ10)
  := (blk_eq sWi_init 12 _).trans rfl

-- MeshRoom$Wire.send(IIII)V
noncomputable def fWi_send_40 (σ : Hp) : Option Rs := rF (mWi_send, 40, [], [], σ)
set_option maxRecDepth 100000 in
set_option maxHeartbeats 4000000 in
theorem eWi_send (x0 : Option Nat) (x1 : Int32) (x2 : Int32) (x3 : Int32) (x4 : Int32) (σ : Hp) : rF (mWi_send, 0, [(0, sA x0), (1, sI x1), (2, sI x2), (3, sI x3), (4, sI x4)], [], σ) =
  (gfI σ x0 7 1).bind fun v1 =>
  if (24 : Int32) ≤ v1 then
    fWi_send_40 σ
  else
    (gfA σ x0 7 0).bind fun v10 =>
    (gfI σ x0 7 1).bind fun v14 =>
    (rcv (mkO σ 3) [sA (some (Prod.fst σ)), sI x1, sI x2, sI x3, sI x4] 3).bind fun _ =>
    (cV rF nMe_init [sA (some (Prod.fst σ)), sI x1, sI x2, sI x3, sI x4] (mkO σ 3)).bind fun q26 =>
    (asA q26 v10 v14 (some (Prod.fst σ))).bind fun σ29 =>
    (gfI σ29 x0 7 1).bind fun v32 =>
    (pfI σ29 x0 7 1 (v32 + (1 : Int32))).bind fun σ37 =>
    fWi_send_40 σ37
  := (blk_eq sWi_send 28 _).trans rfl
set_option maxRecDepth 100000 in
set_option maxHeartbeats 4000000 in
theorem eWi_send_40 (σ : Hp) : fWi_send_40 σ =
  some (none, σ)
  := (blk_eq sWi_send 28 _).trans rfl

-- MeshRoom$Wire.find(I)LMeshRoom$Message;
noncomputable def fWi_find_21 (σ : Hp) : Option Rs := rF (mWi_find, 21, [], [], σ)
noncomputable def fWi_find_22 (s0 : Option Nat) (σ : Hp) : Option Rs := rF (mWi_find, 22, [], [sA s0], σ)
set_option maxRecDepth 100000 in
set_option maxHeartbeats 4000000 in
theorem eWi_find (x0 : Option Nat) (x1 : Int32) (σ : Hp) : rF (mWi_find, 0, [(0, sA x0), (1, sI x1)], [], σ) =
  if x1 < 0 then
    fWi_find_21 σ
  else
    (gfI σ x0 7 1).bind fun v6 =>
    if v6 ≤ x1 then
      fWi_find_21 σ
    else
      (gfA σ x0 7 0).bind fun v13 =>
      (alA σ v13 x1).bind fun v17 =>
      fWi_find_22 v17 σ
  := (blk_eq sWi_find 18 _).trans rfl
set_option maxRecDepth 100000 in
set_option maxHeartbeats 4000000 in
theorem eWi_find_21 (σ : Hp) : fWi_find_21 σ =
  fWi_find_22 none σ
  := (blk_eq sWi_find 18 _).trans rfl
set_option maxRecDepth 100000 in
set_option maxHeartbeats 4000000 in
theorem eWi_find_22 (s0 : Option Nat) (σ : Hp) : fWi_find_22 s0 σ =
  some (some (sA s0), σ)
  := (blk_eq sWi_find 18 _).trans rfl

-- MeshRoom$Wire.take(I)LMeshRoom$Message;
noncomputable def fWi_take_22 (x0 : Option Nat) (x2 : Option Nat) (x3 : Int32) (σ : Hp) : Option Rs := rF (mWi_take, 22, [(0, sA x0), (2, sA x2), (3, sI x3)], [], σ)
noncomputable def fWi_take_60 (x2 : Option Nat) (σ : Hp) : Option Rs := rF (mWi_take, 60, [(2, sA x2)], [], σ)
set_option maxRecDepth 100000 in
set_option maxHeartbeats 4000000 in
theorem eWi_take (x0 : Option Nat) (x1 : Int32) (σ : Hp) : rF (mWi_take, 0, [(0, sA x0), (1, sI x1)], [], σ) =
  (rcv σ [sA x0, sI x1] 7).bind fun _ =>
  (cA rF nWi_find [sA x0, sI x1] σ).bind fun q2 =>
  if q2.1 = none then
    fWi_take_60 q2.1 q2.2
  else
    (gfI q2.2 x0 7 1).bind fun v12 =>
    (pfI q2.2 x0 7 1 (v12 - (1 : Int32))).bind fun σ17 =>
    fWi_take_22 x0 q2.1 x1 σ17
  := (blk_eq sWi_take 43 _).trans rfl
set_option maxRecDepth 100000 in
set_option maxHeartbeats 4000000 in
theorem eWi_take_22 (x0 : Option Nat) (x2 : Option Nat) (x3 : Int32) (σ : Hp) : fWi_take_22 x0 x2 x3 σ =
  (gfI σ x0 7 1).bind fun v24 =>
  if v24 ≤ x3 then
    (gfA σ x0 7 0).bind fun v51 =>
    (gfI σ x0 7 1).bind fun v55 =>
    (asA σ v51 v55 none).bind fun σ59 =>
    fWi_take_60 x2 σ59
  else
    (gfA σ x0 7 0).bind fun v31 =>
    (gfA σ x0 7 0).bind fun v36 =>
    (alA σ v36 (x3 + (1 : Int32))).bind fun v42 =>
    (asA σ v31 x3 v42).bind fun σ43 =>
    fWi_take_22 x0 x2 (x3 + (1 : Int32)) σ43
  := (blk_eq sWi_take 43 _).trans rfl
set_option maxRecDepth 100000 in
set_option maxHeartbeats 4000000 in
theorem eWi_take_60 (x2 : Option Nat) (σ : Hp) : fWi_take_60 x2 σ =
  some (some (sA x2), σ)
  := (blk_eq sWi_take 43 _).trans rfl
