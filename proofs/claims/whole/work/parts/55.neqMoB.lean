/-! Equations of the stretches (printed by wip/gen/tabs.py). -/
-- MeshRoomModel.resolve(J)V
noncomputable def fMo_resolve_17 (x0 : Option Nat) (x1 : Int64) (x3 : Int64) (x5 : Int64) (x9 : Int32) (x10 : Int32) (σ : Hp) : Option Rs := rF (mMo_resolve, 17, [(0, sA x0), (1, sJ x1), (3, sJ x3), (5, sJ x5), (9, sI x9), (10, sI x10)], [], σ)
noncomputable def fMo_resolve_38 (x0 : Option Nat) (x1 : Int64) (x3 : Int64) (x5 : Int64) (x10 : Int32) (s0 : Int32) (σ : Hp) : Option Rs := rF (mMo_resolve, 38, [(0, sA x0), (1, sJ x1), (3, sJ x3), (5, sJ x5), (10, sI x10)], [sI s0], σ)
noncomputable def fMo_resolve_49 (x0 : Option Nat) (x1 : Int64) (x3 : Int64) (x5 : Int64) (x9 : Int32) (x10 : Int32) (σ : Hp) : Option Rs := rF (mMo_resolve, 49, [(0, sA x0), (1, sJ x1), (3, sJ x3), (5, sJ x5), (9, sI x9), (10, sI x10)], [], σ)
noncomputable def fMo_resolve_73 (x0 : Option Nat) (x1 : Int64) (x3 : Int64) (x5 : Int64) (x9 : Int32) (x10 : Int32) (σ : Hp) : Option Rs := rF (mMo_resolve, 73, [(0, sA x0), (1, sJ x1), (3, sJ x3), (5, sJ x5), (9, sI x9), (10, sI x10)], [], σ)
noncomputable def fMo_resolve_95 (x0 : Option Nat) (x1 : Int64) (x3 : Int64) (x5 : Int64) (x9 : Int32) (x10 : Int32) (x11 : Int64) (x13 : Int32) (σ : Hp) : Option Rs := rF (mMo_resolve, 95, [(0, sA x0), (1, sJ x1), (3, sJ x3), (5, sJ x5), (9, sI x9), (10, sI x10), (11, sJ x11), (13, sI x13)], [], σ)
noncomputable def fMo_resolve_151 (x0 : Option Nat) (x1 : Int64) (x3 : Int64) (x5 : Int64) (x9 : Int32) (x10 : Int32) (x11 : Int64) (x13 : Int32) (s0 : Option Nat) (s1 : Int32) (σ : Hp) : Option Rs := rF (mMo_resolve, 151, [(0, sA x0), (1, sJ x1), (3, sJ x3), (5, sJ x5), (9, sI x9), (10, sI x10), (11, sJ x11), (13, sI x13)], [sI s1, sA s0], σ)
noncomputable def fMo_resolve_152 (x0 : Option Nat) (x1 : Int64) (x3 : Int64) (x5 : Int64) (x9 : Int32) (x10 : Int32) (x11 : Int64) (x13 : Int32) (s0 : Option Nat) (s1 : Int32) (s2 : Int32) (σ : Hp) : Option Rs := rF (mMo_resolve, 152, [(0, sA x0), (1, sJ x1), (3, sJ x3), (5, sJ x5), (9, sI x9), (10, sI x10), (11, sJ x11), (13, sI x13)], [sI s2, sI s1, sA s0], σ)
noncomputable def fMo_resolve_194 (x0 : Option Nat) (x1 : Int64) (x3 : Int64) (x5 : Int64) (x9 : Int32) (x10 : Int32) (σ : Hp) : Option Rs := rF (mMo_resolve, 194, [(0, sA x0), (1, sJ x1), (3, sJ x3), (5, sJ x5), (9, sI x9), (10, sI x10)], [], σ)
noncomputable def fMo_resolve_213 (x0 : Option Nat) (x1 : Int64) (x7 : Int64) (x9 : Int32) (x10 : Int32) (σ : Hp) : Option Rs := rF (mMo_resolve, 213, [(0, sA x0), (1, sJ x1), (7, sJ x7), (9, sI x9), (10, sI x10)], [], σ)
noncomputable def fMo_resolve_223 (x0 : Option Nat) (x1 : Int64) (x7 : Int64) (x9 : Int32) (x10 : Int32) (x11 : Int32) (σ : Hp) : Option Rs := rF (mMo_resolve, 223, [(0, sA x0), (1, sJ x1), (7, sJ x7), (9, sI x9), (10, sI x10), (11, sI x11)], [], σ)
noncomputable def fMo_resolve_278 (x0 : Option Nat) (x1 : Int64) (x7 : Int64) (x9 : Int32) (x10 : Int32) (x11 : Int32) (σ : Hp) : Option Rs := rF (mMo_resolve, 278, [(0, sA x0), (1, sJ x1), (7, sJ x7), (9, sI x9), (10, sI x10), (11, sI x11)], [], σ)
noncomputable def fMo_resolve_284 (x0 : Option Nat) (x1 : Int64) (x7 : Int64) (x9 : Int32) (x10 : Int32) (σ : Hp) : Option Rs := rF (mMo_resolve, 284, [(0, sA x0), (1, sJ x1), (7, sJ x7), (9, sI x9), (10, sI x10)], [], σ)
noncomputable def fMo_resolve_296 (x0 : Option Nat) (x7 : Int64) (x9 : Int32) (x10 : Int64) (x12 : Int32) (σ : Hp) : Option Rs := rF (mMo_resolve, 296, [(0, sA x0), (7, sJ x7), (9, sI x9), (10, sJ x10), (12, sI x12)], [], σ)
noncomputable def fMo_resolve_342 (x0 : Option Nat) (x7 : Int64) (x9 : Int32) (x10 : Int64) (x12 : Int32) (σ : Hp) : Option Rs := rF (mMo_resolve, 342, [(0, sA x0), (7, sJ x7), (9, sI x9), (10, sJ x10), (12, sI x12)], [], σ)
noncomputable def fMo_resolve_380 (x0 : Option Nat) (x9 : Int32) (x12 : Int32) (σ : Hp) : Option Rs := rF (mMo_resolve, 380, [(0, sA x0), (9, sI x9), (12, sI x12)], [], σ)
noncomputable def fMo_resolve_426 (x0 : Option Nat) (x9 : Int32) (x12 : Int32) (s0 : Option Nat) (s1 : Int32) (s2 : Int32) (σ : Hp) : Option Rs := rF (mMo_resolve, 426, [(0, sA x0), (9, sI x9), (12, sI x12)], [sI s2, sI s1, sA s0], σ)
set_option maxRecDepth 100000 in
set_option maxHeartbeats 4000000 in
theorem eMo_resolve (x0 : Option Nat) (x1 : Int64) (σ : Hp) : rF (mMo_resolve, 0, [(0, sA x0), (1, sJ x1)], [], σ) =
  fMo_resolve_17 x0 x1 (0 : Int64) (-1 : Int64) (0 : Int32) (40 : Int32) σ
  := (blk_eq sMo_resolve 231 _).trans rfl
set_option maxRecDepth 100000 in
set_option maxHeartbeats 4000000 in
theorem eMo_resolve_17 (x0 : Option Nat) (x1 : Int64) (x3 : Int64) (x5 : Int64) (x9 : Int32) (x10 : Int32) (σ : Hp) : fMo_resolve_17 x0 x1 x3 x5 x9 x10 σ =
  if x10 ≤ 0 then
    fMo_resolve_49 x0 x1 x3 x5 x9 (0 : Int32) σ
  else
    (cI rF nMo_has [sJ x1, sI x10] σ).bind fun q25 =>
    if q25.1 = 0 then
      fMo_resolve_38 x0 x1 x3 x5 x10 x9 q25.2
    else
      fMo_resolve_38 x0 x1 x3 x5 x10 x10 q25.2
  := (blk_eq sMo_resolve 231 _).trans rfl
set_option maxRecDepth 100000 in
set_option maxHeartbeats 4000000 in
theorem eMo_resolve_38 (x0 : Option Nat) (x1 : Int64) (x3 : Int64) (x5 : Int64) (x10 : Int32) (s0 : Int32) (σ : Hp) : fMo_resolve_38 x0 x1 x3 x5 x10 s0 σ =
  fMo_resolve_17 x0 x1 x3 x5 s0 (x10 + (-1 : Int32)) σ
  := (blk_eq sMo_resolve 231 _).trans rfl
set_option maxRecDepth 100000 in
set_option maxHeartbeats 4000000 in
theorem eMo_resolve_49 (x0 : Option Nat) (x1 : Int64) (x3 : Int64) (x5 : Int64) (x9 : Int32) (x10 : Int32) (σ : Hp) : fMo_resolve_49 x0 x1 x3 x5 x9 x10 σ =
  if (9 : Int32) ≤ x10 then
    fMo_resolve_73 x0 x1 x3 x5 x9 (1 : Int32) σ
  else
    (gfA σ x0 8 16).bind fun v57 =>
    (asZ σ v57 x10 (1 : Int32)).bind fun σ63 =>
    fMo_resolve_49 x0 x1 x3 x5 x9 (x10 + (1 : Int32)) σ63
  := (blk_eq sMo_resolve 231 _).trans rfl
set_option maxRecDepth 100000 in
set_option maxHeartbeats 4000000 in
theorem eMo_resolve_73 (x0 : Option Nat) (x1 : Int64) (x3 : Int64) (x5 : Int64) (x9 : Int32) (x10 : Int32) (σ : Hp) : fMo_resolve_73 x0 x1 x3 x5 x9 x10 σ =
  if (41 : Int32) ≤ x10 then
    fMo_resolve_213 x0 x1 (x3 &&& (x5 ^^^ (-1 : Int64))) x9 (1 : Int32) σ
  else
    (cI rF nMo_has [sJ x1, sI x10] σ).bind fun q83 =>
    if q83.1 = 0 then
      fMo_resolve_194 x0 x1 x3 x5 x9 x10 q83.2
    else
      fMo_resolve_95 x0 x1 x3 x5 x9 x10 (0 : Int64) (0 : Int32) q83.2
  := (blk_eq sMo_resolve 231 _).trans rfl
set_option maxRecDepth 100000 in
set_option maxHeartbeats 4000000 in
theorem eMo_resolve_95 (x0 : Option Nat) (x1 : Int64) (x3 : Int64) (x5 : Int64) (x9 : Int32) (x10 : Int32) (x11 : Int64) (x13 : Int32) (σ : Hp) : fMo_resolve_95 x0 x1 x3 x5 x9 x10 x11 x13 σ =
  if (9 : Int32) ≤ x13 then
    fMo_resolve_194 x0 x1 (x3 ||| x11) (x5 &&& x11) x9 x10 σ
  else
    (gfA σ x0 8 16).bind fun v103 =>
    (gfA σ x0 8 16).bind fun v109 =>
    (alZ σ v109 x13).bind fun v114 =>
    if v114 = 0 then
      fMo_resolve_151 x0 x1 x3 x5 x9 x10 x11 x13 v103 x13 σ
    else
      (gfA σ x0 8 12).bind fun v119 =>
      (alI σ v119 (((9 : Int32) * x10) + x13)).bind fun v130 =>
      (gfA σ x0 8 12).bind fun v132 =>
      (alI σ v132 (((9 : Int32) * x9) + x13)).bind fun v143 =>
      if ¬ v130 = v143 then
        fMo_resolve_151 x0 x1 x3 x5 x9 x10 x11 x13 v103 x13 σ
      else
        fMo_resolve_152 x0 x1 x3 x5 x9 x10 x11 x13 v103 x13 (1 : Int32) σ
  := (blk_eq sMo_resolve 231 _).trans rfl
set_option maxRecDepth 100000 in
set_option maxHeartbeats 4000000 in
theorem eMo_resolve_151 (x0 : Option Nat) (x1 : Int64) (x3 : Int64) (x5 : Int64) (x9 : Int32) (x10 : Int32) (x11 : Int64) (x13 : Int32) (s0 : Option Nat) (s1 : Int32) (σ : Hp) : fMo_resolve_151 x0 x1 x3 x5 x9 x10 x11 x13 s0 s1 σ =
  fMo_resolve_152 x0 x1 x3 x5 x9 x10 x11 x13 s0 s1 (0 : Int32) σ
  := (blk_eq sMo_resolve 231 _).trans rfl
set_option maxRecDepth 100000 in
set_option maxHeartbeats 4000000 in
theorem eMo_resolve_152 (x0 : Option Nat) (x1 : Int64) (x3 : Int64) (x5 : Int64) (x9 : Int32) (x10 : Int32) (x11 : Int64) (x13 : Int32) (s0 : Option Nat) (s1 : Int32) (s2 : Int32) (σ : Hp) : fMo_resolve_152 x0 x1 x3 x5 x9 x10 x11 x13 s0 s1 s2 σ =
  (asZ σ s0 s1 s2).bind fun σ152 =>
  (gfA σ152 x0 8 10).bind fun v156 =>
  (gfA σ152 x0 8 12).bind fun v160 =>
  (alI σ152 v160 (((9 : Int32) * x10) + x13)).bind fun v171 =>
  (alJ σ152 v156 v171).bind fun v172 =>
  fMo_resolve_95 x0 x1 x3 x5 x9 x10 (x11 ||| v172) (x13 + (1 : Int32)) σ152
  := (blk_eq sMo_resolve 231 _).trans rfl
set_option maxRecDepth 100000 in
set_option maxHeartbeats 4000000 in
theorem eMo_resolve_194 (x0 : Option Nat) (x1 : Int64) (x3 : Int64) (x5 : Int64) (x9 : Int32) (x10 : Int32) (σ : Hp) : fMo_resolve_194 x0 x1 x3 x5 x9 x10 σ =
  fMo_resolve_73 x0 x1 x3 x5 x9 (x10 + (1 : Int32)) σ
  := (blk_eq sMo_resolve 231 _).trans rfl
set_option maxRecDepth 100000 in
set_option maxHeartbeats 4000000 in
theorem eMo_resolve_213 (x0 : Option Nat) (x1 : Int64) (x7 : Int64) (x9 : Int32) (x10 : Int32) (σ : Hp) : fMo_resolve_213 x0 x1 x7 x9 x10 σ =
  if (41 : Int32) ≤ x10 then
    fMo_resolve_296 x0 x7 x9 (0 : Int64) (1 : Int32) σ
  else
    fMo_resolve_223 x0 x1 x7 x9 x10 (0 : Int32) σ
  := (blk_eq sMo_resolve 231 _).trans rfl
set_option maxRecDepth 100000 in
set_option maxHeartbeats 4000000 in
theorem eMo_resolve_223 (x0 : Option Nat) (x1 : Int64) (x7 : Int64) (x9 : Int32) (x10 : Int32) (x11 : Int32) (σ : Hp) : fMo_resolve_223 x0 x1 x7 x9 x10 x11 σ =
  if (9 : Int32) ≤ x11 then
    fMo_resolve_284 x0 x1 x7 x9 x10 σ
  else
    (cI rF nMo_has [sJ x1, sI x10] σ).bind fun q233 =>
    if q233.1 = 0 then
      fMo_resolve_284 x0 x1 x7 x9 x10 q233.2
    else
      (gfA q233.2 x0 8 12).bind fun v240 =>
      (alI q233.2 v240 (((9 : Int32) * x10) + x11)).bind fun v251 =>
      (gfA q233.2 x0 8 16).bind fun v255 =>
      (alZ q233.2 v255 x11).bind fun v260 =>
      if ¬ v260 = 0 then
        fMo_resolve_278 x0 x1 x7 x9 x10 x11 q233.2
      else
        if v251 ≤ 0 then
          fMo_resolve_278 x0 x1 x7 x9 x10 x11 q233.2
        else
          fMo_resolve_278 x0 x1 (x7 ||| ((1 : Int64) <<< (Int32.toInt64 v251 &&& 63))) x9 x10 x11 q233.2
  := (blk_eq sMo_resolve 231 _).trans rfl
set_option maxRecDepth 100000 in
set_option maxHeartbeats 4000000 in
theorem eMo_resolve_278 (x0 : Option Nat) (x1 : Int64) (x7 : Int64) (x9 : Int32) (x10 : Int32) (x11 : Int32) (σ : Hp) : fMo_resolve_278 x0 x1 x7 x9 x10 x11 σ =
  fMo_resolve_223 x0 x1 x7 x9 x10 (x11 + (1 : Int32)) σ
  := (blk_eq sMo_resolve 231 _).trans rfl
set_option maxRecDepth 100000 in
set_option maxHeartbeats 4000000 in
theorem eMo_resolve_284 (x0 : Option Nat) (x1 : Int64) (x7 : Int64) (x9 : Int32) (x10 : Int32) (σ : Hp) : fMo_resolve_284 x0 x1 x7 x9 x10 σ =
  fMo_resolve_213 x0 x1 x7 x9 (x10 + (1 : Int32)) σ
  := (blk_eq sMo_resolve 231 _).trans rfl
set_option maxRecDepth 100000 in
set_option maxHeartbeats 4000000 in
theorem eMo_resolve_296 (x0 : Option Nat) (x7 : Int64) (x9 : Int32) (x10 : Int64) (x12 : Int32) (σ : Hp) : fMo_resolve_296 x0 x7 x9 x10 x12 σ =
  if (41 : Int32) ≤ x12 then
    (rcv σ [sA x0, sI x9] 8).bind fun _ =>
    (cV rF nMo_agree [sA x0, sI x9] σ).bind fun q351 =>
    (rcv q351 [sA x0, sJ x10] 8).bind fun _ =>
    (cV rF nMo_tryHeavy [sA x0, sJ x10] q351).bind fun q357 =>
    (rcv q357 [sA x0] 8).bind fun _ =>
    (cV rF nMo_mainline [sA x0] q357).bind fun q361 =>
    (rcv q361 [sA x0, sJ (x7 &&& (x10 ^^^ (-1 : Int64)))] 8).bind fun _ =>
    (cV rF nMo_tryOthers [sA x0, sJ (x7 &&& (x10 ^^^ (-1 : Int64)))] q361).bind fun q374 =>
    fMo_resolve_380 x0 x9 (0 : Int32) q374
  else
    (cI rF nMo_has [sJ x7, sI x12] σ).bind fun q307 =>
    if q307.1 = 0 then
      fMo_resolve_342 x0 x7 x9 x10 x12 q307.2
    else
      (rcv q307.2 [sA x0, sI x12] 8).bind fun _ =>
      (cI rF nMo_heavy [sA x0, sI x12] q307.2).bind fun q316 =>
      if q316.1 = 0 then
        fMo_resolve_342 x0 x7 x9 x10 x12 q316.2
      else
        (gfA q316.2 x0 8 10).bind fun v332 =>
        (alJ q316.2 v332 x12).bind fun v337 =>
        fMo_resolve_342 x0 x7 x9 ((x10 ||| ((1 : Int64) <<< (Int32.toInt64 x12 &&& 63))) ||| (x7 &&& v337)) x12 q316.2
  := (blk_eq sMo_resolve 231 _).trans rfl
set_option maxRecDepth 100000 in
set_option maxHeartbeats 4000000 in
theorem eMo_resolve_342 (x0 : Option Nat) (x7 : Int64) (x9 : Int32) (x10 : Int64) (x12 : Int32) (σ : Hp) : fMo_resolve_342 x0 x7 x9 x10 x12 σ =
  fMo_resolve_296 x0 x7 x9 x10 (x12 + (1 : Int32)) σ
  := (blk_eq sMo_resolve 231 _).trans rfl
set_option maxRecDepth 100000 in
set_option maxHeartbeats 4000000 in
theorem eMo_resolve_380 (x0 : Option Nat) (x9 : Int32) (x12 : Int32) (σ : Hp) : fMo_resolve_380 x0 x9 x12 σ =
  if (9 : Int32) ≤ x12 then
    some (none, σ)
  else
    (gfA σ x0 8 13).bind fun v388 =>
    (gfA σ x0 8 16).bind fun v394 =>
    (alZ σ v394 x12).bind fun v399 =>
    if v399 = 0 then
      (gfA σ x0 8 13).bind fun v420 =>
      (alI σ v420 x12).bind fun v425 =>
      fMo_resolve_426 x0 x9 x12 v388 x12 v425 σ
    else
      (gfA σ x0 8 12).bind fun v404 =>
      (alI σ v404 (((9 : Int32) * x9) + x12)).bind fun v415 =>
      fMo_resolve_426 x0 x9 x12 v388 x12 v415 σ
  := (blk_eq sMo_resolve 231 _).trans rfl
set_option maxRecDepth 100000 in
set_option maxHeartbeats 4000000 in
theorem eMo_resolve_426 (x0 : Option Nat) (x9 : Int32) (x12 : Int32) (s0 : Option Nat) (s1 : Int32) (s2 : Int32) (σ : Hp) : fMo_resolve_426 x0 x9 x12 s0 s1 s2 σ =
  (asI σ s0 s1 s2).bind fun σ426 =>
  fMo_resolve_380 x0 x9 (x12 + (1 : Int32)) σ426
  := (blk_eq sMo_resolve 231 _).trans rfl

-- MeshRoomModel.agree(I)V
noncomputable def fMo_agree_2 (x0 : Option Nat) (x1 : Int32) (x2 : Int32) (σ : Hp) : Option Rs := rF (mMo_agree, 2, [(0, sA x0), (1, sI x1), (2, sI x2)], [], σ)
noncomputable def fMo_agree_37 (x0 : Option Nat) (x1 : Int32) (x2 : Int32) (s0 : Option Nat) (s1 : Int32) (s2 : Int32) (σ : Hp) : Option Rs := rF (mMo_agree, 37, [(0, sA x0), (1, sI x1), (2, sI x2)], [sI s2, sI s1, sA s0], σ)
set_option maxRecDepth 100000 in
set_option maxHeartbeats 4000000 in
theorem eMo_agree (x0 : Option Nat) (x1 : Int32) (σ : Hp) : rF (mMo_agree, 0, [(0, sA x0), (1, sI x1)], [], σ) =
  fMo_agree_2 x0 x1 (0 : Int32) σ
  := (blk_eq sMo_agree 32 _).trans rfl
set_option maxRecDepth 100000 in
set_option maxHeartbeats 4000000 in
theorem eMo_agree_2 (x0 : Option Nat) (x1 : Int32) (x2 : Int32) (σ : Hp) : fMo_agree_2 x0 x1 x2 σ =
  if (9 : Int32) ≤ x2 then
    some (none, σ)
  else
    (gfA σ x0 8 13).bind fun v9 =>
    (gfA σ x0 8 16).bind fun v14 =>
    (alZ σ v14 x2).bind fun v18 =>
    if v18 = 0 then
      fMo_agree_37 x0 x1 x2 v9 x2 (0 : Int32) σ
    else
      (gfA σ x0 8 12).bind fun v23 =>
      (alI σ v23 (((9 : Int32) * x1) + x2)).bind fun v32 =>
      fMo_agree_37 x0 x1 x2 v9 x2 v32 σ
  := (blk_eq sMo_agree 32 _).trans rfl
set_option maxRecDepth 100000 in
set_option maxHeartbeats 4000000 in
theorem eMo_agree_37 (x0 : Option Nat) (x1 : Int32) (x2 : Int32) (s0 : Option Nat) (s1 : Int32) (s2 : Int32) (σ : Hp) : fMo_agree_37 x0 x1 x2 s0 s1 s2 σ =
  (asI σ s0 s1 s2).bind fun σ37 =>
  fMo_agree_2 x0 x1 (x2 + (1 : Int32)) σ37
  := (blk_eq sMo_agree 32 _).trans rfl

-- MeshRoomModel.known(II)Z
noncomputable def fMo_known_20 (s0 : Int32) (σ : Hp) : Option Rs := rF (mMo_known, 20, [], [sI s0], σ)
set_option maxRecDepth 100000 in
set_option maxHeartbeats 4000000 in
theorem eMo_known (x0 : Option Nat) (x1 : Int32) (x2 : Int32) (σ : Hp) : rF (mMo_known, 0, [(0, sA x0), (1, sI x1), (2, sI x2)], [], σ) =
  (gfA σ x0 8 18).bind fun v1 =>
  (alI σ v1 (((41 : Int32) * x1) + x2)).bind fun v10 =>
  if v10 < (2 : Int32) then
    fMo_known_20 (0 : Int32) σ
  else
    fMo_known_20 (1 : Int32) σ
  := (blk_eq sMo_known 19 _).trans rfl
set_option maxRecDepth 100000 in
set_option maxHeartbeats 4000000 in
theorem eMo_known_20 (s0 : Int32) (σ : Hp) : fMo_known_20 s0 σ =
  rz s0 σ
  := (blk_eq sMo_known 19 _).trans rfl

-- MeshRoomModel.ready(II)Z
noncomputable def fMo_ready_2 (x0 : Option Nat) (x1 : Int32) (x2 : Int32) (x3 : Int32) (σ : Hp) : Option Rs := rF (mMo_ready, 2, [(0, sA x0), (1, sI x1), (2, sI x2), (3, sI x3)], [], σ)
noncomputable def fMo_ready_32 (x0 : Option Nat) (x1 : Int32) (x2 : Int32) (x3 : Int32) (σ : Hp) : Option Rs := rF (mMo_ready, 32, [(0, sA x0), (1, sI x1), (2, sI x2), (3, sI x3)], [], σ)
set_option maxRecDepth 100000 in
set_option maxHeartbeats 4000000 in
theorem eMo_ready (x0 : Option Nat) (x1 : Int32) (x2 : Int32) (σ : Hp) : rF (mMo_ready, 0, [(0, sA x0), (1, sI x1), (2, sI x2)], [], σ) =
  fMo_ready_2 x0 x1 x2 (1 : Int32) σ
  := (blk_eq sMo_ready 28 _).trans rfl
set_option maxRecDepth 100000 in
set_option maxHeartbeats 4000000 in
theorem eMo_ready_2 (x0 : Option Nat) (x1 : Int32) (x2 : Int32) (x3 : Int32) (σ : Hp) : fMo_ready_2 x0 x1 x2 x3 σ =
  if (41 : Int32) ≤ x3 then
    rz (1 : Int32) σ
  else
    (gfA σ x0 8 8).bind fun v9 =>
    (alJ σ v9 x2).bind fun v13 =>
    (cI rF nMo_has [sJ v13, sI x3] σ).bind fun q15 =>
    if q15.1 = 0 then
      fMo_ready_32 x0 x1 x2 x3 q15.2
    else
      (rcv q15.2 [sA x0, sI x1, sI x3] 8).bind fun _ =>
      (cI rF nMo_known [sA x0, sI x1, sI x3] q15.2).bind fun q24 =>
      if ¬ q24.1 = 0 then
        fMo_ready_32 x0 x1 x2 x3 q24.2
      else
        rz (0 : Int32) q24.2
  := (blk_eq sMo_ready 28 _).trans rfl
set_option maxRecDepth 100000 in
set_option maxHeartbeats 4000000 in
theorem eMo_ready_32 (x0 : Option Nat) (x1 : Int32) (x2 : Int32) (x3 : Int32) (σ : Hp) : fMo_ready_32 x0 x1 x2 x3 σ =
  fMo_ready_2 x0 x1 x2 (x3 + (1 : Int32)) σ
  := (blk_eq sMo_ready 28 _).trans rfl

-- MeshRoomModel.look(II)V
noncomputable def fMo_look_2 (x0 : Option Nat) (x1 : Int32) (x3 : Int32) (σ : Hp) : Option Rs := rF (mMo_look, 2, [(0, sA x0), (1, sI x1), (3, sI x3)], [], σ)
noncomputable def fMo_look_30 (x0 : Option Nat) (x1 : Int32) (s0 : Option Nat) (s1 : Int32) (s2 : Int32) (σ : Hp) : Option Rs := rF (mMo_look, 30, [(0, sA x0), (1, sI x1)], [sI s2, sI s1, sA s0], σ)
noncomputable def fMo_look_39 (x0 : Option Nat) (x1 : Int32) (x3 : Int32) (x4 : Int32) (σ : Hp) : Option Rs := rF (mMo_look, 39, [(0, sA x0), (1, sI x1), (3, sI x3), (4, sI x4)], [], σ)
noncomputable def fMo_look_73 (x0 : Option Nat) (x1 : Int32) (x3 : Int32) (x4 : Int32) (σ : Hp) : Option Rs := rF (mMo_look, 73, [(0, sA x0), (1, sI x1), (3, sI x3), (4, sI x4)], [], σ)
set_option maxRecDepth 100000 in
set_option maxHeartbeats 4000000 in
theorem eMo_look (x0 : Option Nat) (x1 : Int32) (x2 : Int32) (σ : Hp) : rF (mMo_look, 0, [(0, sA x0), (1, sI x1), (2, sI x2)], [], σ) =
  fMo_look_2 x0 x1 x2 σ
  := (blk_eq sMo_look 53 _).trans rfl
set_option maxRecDepth 100000 in
set_option maxHeartbeats 4000000 in
theorem eMo_look_2 (x0 : Option Nat) (x1 : Int32) (x3 : Int32) (σ : Hp) : fMo_look_2 x0 x1 x3 σ =
  if x3 ≤ 0 then
    some (none, σ)
  else
    (gfA σ x0 8 18).bind fun v7 =>
    (gfA σ x0 8 11).bind fun v17 =>
    (alZ σ v17 x3).bind fun v21 =>
    if v21 = 0 then
      fMo_look_30 x0 x1 v7 (((41 : Int32) * x1) + x3) (3 : Int32) σ
    else
      fMo_look_30 x0 x1 v7 (((41 : Int32) * x1) + x3) (2 : Int32) σ
  := (blk_eq sMo_look 53 _).trans rfl
set_option maxRecDepth 100000 in
set_option maxHeartbeats 4000000 in
theorem eMo_look_30 (x0 : Option Nat) (x1 : Int32) (s0 : Option Nat) (s1 : Int32) (s2 : Int32) (σ : Hp) : fMo_look_30 x0 x1 s0 s1 s2 σ =
  (asI σ s0 s1 s2).bind fun σ30 =>
  (gfI σ30 x0 8 2).bind fun v34 =>
  fMo_look_39 x0 x1 (0 : Int32) v34 σ30
  := (blk_eq sMo_look 53 _).trans rfl
set_option maxRecDepth 100000 in
set_option maxHeartbeats 4000000 in
theorem eMo_look_39 (x0 : Option Nat) (x1 : Int32) (x3 : Int32) (x4 : Int32) (σ : Hp) : fMo_look_39 x0 x1 x3 x4 σ =
  if x4 ≤ 0 then
    fMo_look_2 x0 x1 x3 σ
  else
    (gfA σ x0 8 18).bind fun v45 =>
    (alI σ v45 (((41 : Int32) * x1) + x4)).bind fun v55 =>
    if ¬ v55 = (1 : Int32) then
      fMo_look_73 x0 x1 x3 x4 σ
    else
      (rcv σ [sA x0, sI x1, sI x4] 8).bind fun _ =>
      (cI rF nMo_ready [sA x0, sI x1, sI x4] σ).bind fun q64 =>
      if q64.1 = 0 then
        fMo_look_73 x0 x1 x3 x4 q64.2
      else
        fMo_look_73 x0 x1 x4 x4 q64.2
  := (blk_eq sMo_look 53 _).trans rfl
set_option maxRecDepth 100000 in
set_option maxHeartbeats 4000000 in
theorem eMo_look_73 (x0 : Option Nat) (x1 : Int32) (x3 : Int32) (x4 : Int32) (σ : Hp) : fMo_look_73 x0 x1 x3 x4 σ =
  fMo_look_39 x0 x1 x3 (x4 + (-1 : Int32)) σ
  := (blk_eq sMo_look 53 _).trans rfl

-- MeshRoomModel.endsOf(I)J
noncomputable def fMo_endsOf_8 (x0 : Option Nat) (x1 : Int32) (x2 : Int64) (x4 : Int64) (x6 : Int32) (σ : Hp) : Option Rs := rF (mMo_endsOf, 8, [(0, sA x0), (1, sI x1), (2, sJ x2), (4, sJ x4), (6, sI x6)], [], σ)
noncomputable def fMo_endsOf_52 (x0 : Option Nat) (x1 : Int32) (x2 : Int64) (x4 : Int64) (x6 : Int32) (σ : Hp) : Option Rs := rF (mMo_endsOf, 52, [(0, sA x0), (1, sI x1), (2, sJ x2), (4, sJ x4), (6, sI x6)], [], σ)
set_option maxRecDepth 100000 in
set_option maxHeartbeats 4000000 in
theorem eMo_endsOf (x0 : Option Nat) (x1 : Int32) (σ : Hp) : rF (mMo_endsOf, 0, [(0, sA x0), (1, sI x1)], [], σ) =
  fMo_endsOf_8 x0 x1 (0 : Int64) (0 : Int64) (1 : Int32) σ
  := (blk_eq sMo_endsOf 46 _).trans rfl
set_option maxRecDepth 100000 in
set_option maxHeartbeats 4000000 in
theorem eMo_endsOf_8 (x0 : Option Nat) (x1 : Int32) (x2 : Int64) (x4 : Int64) (x6 : Int32) (σ : Hp) : fMo_endsOf_8 x0 x1 x2 x4 x6 σ =
  (gfI σ x0 8 2).bind fun v11 =>
  if v11 < x6 then
    some (some (sJ (x2 &&& (x4 ^^^ (-1 : Int64)))), σ)
  else
    (gfA σ x0 8 18).bind fun v18 =>
    (alI σ v18 (((41 : Int32) * x1) + x6)).bind fun v28 =>
    if ¬ v28 = (2 : Int32) then
      fMo_endsOf_52 x0 x1 x2 x4 x6 σ
    else
      (gfA σ x0 8 8).bind fun v43 =>
      (alJ σ v43 x6).bind fun v48 =>
      fMo_endsOf_52 x0 x1 (x2 ||| ((1 : Int64) <<< (Int32.toInt64 x6 &&& 63))) (x4 ||| v48) x6 σ
  := (blk_eq sMo_endsOf 46 _).trans rfl
set_option maxRecDepth 100000 in
set_option maxHeartbeats 4000000 in
theorem eMo_endsOf_52 (x0 : Option Nat) (x1 : Int32) (x2 : Int64) (x4 : Int64) (x6 : Int32) (σ : Hp) : fMo_endsOf_52 x0 x1 x2 x4 x6 σ =
  fMo_endsOf_8 x0 x1 x2 x4 (x6 + (1 : Int32)) σ
  := (blk_eq sMo_endsOf 46 _).trans rfl

-- MeshRoomModel.size(J)I
noncomputable def fMo_size_4 (x0 : Int64) (x2 : Int32) (x3 : Int32) (σ : Hp) : Option Rs := rF (mMo_size, 4, [(0, sJ x0), (2, sI x2), (3, sI x3)], [], σ)
noncomputable def fMo_size_24 (x0 : Int64) (x3 : Int32) (s0 : Int32) (s1 : Int32) (σ : Hp) : Option Rs := rF (mMo_size, 24, [(0, sJ x0), (3, sI x3)], [sI s1, sI s0], σ)
set_option maxRecDepth 100000 in
set_option maxHeartbeats 4000000 in
theorem eMo_size (x0 : Int64) (σ : Hp) : rF (mMo_size, 0, [(0, sJ x0)], [], σ) =
  fMo_size_4 x0 (0 : Int32) (1 : Int32) σ
  := (blk_eq sMo_size 26 _).trans rfl
set_option maxRecDepth 100000 in
set_option maxHeartbeats 4000000 in
theorem eMo_size_4 (x0 : Int64) (x2 : Int32) (x3 : Int32) (σ : Hp) : fMo_size_4 x0 x2 x3 σ =
  if (41 : Int32) ≤ x3 then
    some (some (sI x2), σ)
  else
    (cI rF nMo_has [sJ x0, sI x3] σ).bind fun q13 =>
    if q13.1 = 0 then
      fMo_size_24 x0 x3 x2 (0 : Int32) q13.2
    else
      fMo_size_24 x0 x3 x2 (1 : Int32) q13.2
  := (blk_eq sMo_size 26 _).trans rfl
set_option maxRecDepth 100000 in
set_option maxHeartbeats 4000000 in
theorem eMo_size_24 (x0 : Int64) (x3 : Int32) (s0 : Int32) (s1 : Int32) (σ : Hp) : fMo_size_24 x0 x3 s0 s1 σ =
  fMo_size_4 x0 (s0 + s1) (x3 + (1 : Int32)) σ
  := (blk_eq sMo_size 26 _).trans rfl

-- MeshRoomModel.fits(IIII)Z
noncomputable def fMo_fits_42 (x1 : Int32) (x3 : Int32) (σ : Hp) : Option Rs := rF (mMo_fits, 42, [(1, sI x1), (3, sI x3)], [], σ)
noncomputable def fMo_fits_57 (σ : Hp) : Option Rs := rF (mMo_fits, 57, [], [], σ)
noncomputable def fMo_fits_61 (σ : Hp) : Option Rs := rF (mMo_fits, 61, [], [], σ)
noncomputable def fMo_fits_62 (s0 : Int32) (σ : Hp) : Option Rs := rF (mMo_fits, 62, [], [sI s0], σ)
set_option maxRecDepth 100000 in
set_option maxHeartbeats 4000000 in
theorem eMo_fits (x0 : Int32) (x1 : Int32) (x2 : Int32) (x3 : Int32) (σ : Hp) : rF (mMo_fits, 0, [(0, sI x0), (1, sI x1), (2, sI x2), (3, sI x3)], [], σ) =
  (cI rF nMo_in [sI x0, sI (0 : Int32), sI (5 : Int32)] σ).bind fun q3 =>
  if q3.1 = 0 then
    fMo_fits_61 q3.2
  else
    (cI rF nMo_in [sI x2, sI (0 : Int32), sI (5 : Int32)] q3.2).bind fun q12 =>
    if q12.1 = 0 then
      fMo_fits_61 q12.2
    else
      (cI rF nMo_in [sI x1, sI (1 : Int32), sI (7 : Int32)] q12.2).bind fun q22 =>
      if q22.1 = 0 then
        fMo_fits_61 q22.2
      else
        if ¬ x1 = (5 : Int32) then
          fMo_fits_42 x1 x3 q22.2
        else
          (cI rF nMo_in [sI x3, sI (0 : Int32), sI (3 : Int32)] q22.2).bind fun q36 =>
          if q36.1 = 0 then
            fMo_fits_61 q36.2
          else
            fMo_fits_42 x1 x3 q36.2
  := (blk_eq sMo_fits 40 _).trans rfl
set_option maxRecDepth 100000 in
set_option maxHeartbeats 4000000 in
theorem eMo_fits_42 (x1 : Int32) (x3 : Int32) (σ : Hp) : fMo_fits_42 x1 x3 σ =
  if ¬ x1 = (6 : Int32) then
    fMo_fits_57 σ
  else
    (cI rF nMo_in [sI x3, sI (0 : Int32), sI (1 : Int32)] σ).bind fun q51 =>
    if q51.1 = 0 then
      fMo_fits_61 q51.2
    else
      fMo_fits_57 q51.2
  := (blk_eq sMo_fits 40 _).trans rfl
set_option maxRecDepth 100000 in
set_option maxHeartbeats 4000000 in
theorem eMo_fits_57 (σ : Hp) : fMo_fits_57 σ =
  fMo_fits_62 (1 : Int32) σ
  := (blk_eq sMo_fits 40 _).trans rfl
set_option maxRecDepth 100000 in
set_option maxHeartbeats 4000000 in
theorem eMo_fits_61 (σ : Hp) : fMo_fits_61 σ =
  fMo_fits_62 (0 : Int32) σ
  := (blk_eq sMo_fits 40 _).trans rfl
set_option maxRecDepth 100000 in
set_option maxHeartbeats 4000000 in
theorem eMo_fits_62 (s0 : Int32) (σ : Hp) : fMo_fits_62 s0 σ =
  rz s0 σ
  := (blk_eq sMo_fits 40 _).trans rfl
