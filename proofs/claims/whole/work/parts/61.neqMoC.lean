/-! Equations of the stretches (printed by wip/gen/tabs.py). -/
-- MeshRoomModel.prepare(IIIIJ)V
noncomputable def fMo_prepare_50 (x0 : Option Nat) (x1 : Int32) (x2 : Int32) (x3 : Int32) (x4 : Int32) (x5 : Int64) (x7 : Int32) (s0 : Option Nat) (s1 : Int32) (σ : Hp) : Option Rs := rF (mMo_prepare, 50, [(0, sA x0), (1, sI x1), (2, sI x2), (3, sI x3), (4, sI x4), (5, sJ x5), (7, sI x7)], [sI s1, sA s0], σ)
noncomputable def fMo_prepare_56 (x0 : Option Nat) (x1 : Int32) (x2 : Int32) (x3 : Int32) (x4 : Int32) (x5 : Int64) (x7 : Int32) (s0 : Option Nat) (s1 : Int32) (s2 : Int32) (σ : Hp) : Option Rs := rF (mMo_prepare, 56, [(0, sA x0), (1, sI x1), (2, sI x2), (3, sI x3), (4, sI x4), (5, sJ x5), (7, sI x7)], [sI s2, sI s1, sA s0], σ)
noncomputable def fMo_prepare_60 (x0 : Option Nat) (x1 : Int32) (x2 : Int32) (x3 : Int32) (x4 : Int32) (x5 : Int64) (x7 : Int32) (x8 : Int32) (σ : Hp) : Option Rs := rF (mMo_prepare, 60, [(0, sA x0), (1, sI x1), (2, sI x2), (3, sI x3), (4, sI x4), (5, sJ x5), (7, sI x7), (8, sI x8)], [], σ)
noncomputable def fMo_prepare_101 (x0 : Option Nat) (x1 : Int32) (x2 : Int32) (x3 : Int32) (x4 : Int32) (x5 : Int64) (x7 : Int32) (x8 : Int32) (s0 : Option Nat) (s1 : Int32) (s2 : Int32) (s3 : Int32) (σ : Hp) : Option Rs := rF (mMo_prepare, 101, [(0, sA x0), (1, sI x1), (2, sI x2), (3, sI x3), (4, sI x4), (5, sJ x5), (7, sI x7), (8, sI x8)], [sI s3, sI s2, sI s1, sA s0], σ)
noncomputable def fMo_prepare_114 (x0 : Option Nat) (x1 : Int32) (x2 : Int32) (x3 : Int32) (x5 : Int64) (x7 : Int32) (σ : Hp) : Option Rs := rF (mMo_prepare, 114, [(0, sA x0), (1, sI x1), (2, sI x2), (3, sI x3), (5, sJ x5), (7, sI x7)], [], σ)
noncomputable def fMo_prepare_154 (x0 : Option Nat) (x1 : Int32) (x2 : Int32) (x3 : Int32) (x7 : Int32) (x8 : Int32) (σ : Hp) : Option Rs := rF (mMo_prepare, 154, [(0, sA x0), (1, sI x1), (2, sI x2), (3, sI x3), (7, sI x7), (8, sI x8)], [], σ)
noncomputable def fMo_prepare_178 (x0 : Option Nat) (x1 : Int32) (x2 : Int32) (x3 : Int32) (x7 : Int32) (x8 : Int32) (σ : Hp) : Option Rs := rF (mMo_prepare, 178, [(0, sA x0), (1, sI x1), (2, sI x2), (3, sI x3), (7, sI x7), (8, sI x8)], [], σ)
noncomputable def fMo_prepare_179 (x0 : Option Nat) (x1 : Int32) (x2 : Int32) (x3 : Int32) (x7 : Int32) (x8 : Int32) (s0 : Int32) (σ : Hp) : Option Rs := rF (mMo_prepare, 179, [(0, sA x0), (1, sI x1), (2, sI x2), (3, sI x3), (7, sI x7), (8, sI x8)], [sI s0], σ)
noncomputable def fMo_prepare_197 (x0 : Option Nat) (x1 : Int32) (x2 : Int32) (x3 : Int32) (x7 : Int32) (x8 : Int32) (x9 : Int32) (σ : Hp) : Option Rs := rF (mMo_prepare, 197, [(0, sA x0), (1, sI x1), (2, sI x2), (3, sI x3), (7, sI x7), (8, sI x8), (9, sI x9)], [], σ)
noncomputable def fMo_prepare_201 (x0 : Option Nat) (x1 : Int32) (x2 : Int32) (x3 : Int32) (x7 : Int32) (x8 : Int32) (x9 : Int32) (σ : Hp) : Option Rs := rF (mMo_prepare, 201, [(0, sA x0), (1, sI x1), (2, sI x2), (3, sI x3), (7, sI x7), (8, sI x8), (9, sI x9)], [], σ)
noncomputable def fMo_prepare_202 (x0 : Option Nat) (x1 : Int32) (x2 : Int32) (x3 : Int32) (x7 : Int32) (x8 : Int32) (x9 : Int32) (s0 : Int32) (σ : Hp) : Option Rs := rF (mMo_prepare, 202, [(0, sA x0), (1, sI x1), (2, sI x2), (3, sI x3), (7, sI x7), (8, sI x8), (9, sI x9)], [sI s0], σ)
noncomputable def fMo_prepare_228 (x0 : Option Nat) (x1 : Int32) (x2 : Int32) (x3 : Int32) (x7 : Int32) (x8 : Int32) (σ : Hp) : Option Rs := rF (mMo_prepare, 228, [(0, sA x0), (1, sI x1), (2, sI x2), (3, sI x3), (7, sI x7), (8, sI x8)], [], σ)
noncomputable def fMo_prepare_233 (x0 : Option Nat) (x1 : Int32) (x2 : Int32) (x3 : Int32) (x7 : Int32) (x8 : Int32) (s0 : Int32) (σ : Hp) : Option Rs := rF (mMo_prepare, 233, [(0, sA x0), (1, sI x1), (2, sI x2), (3, sI x3), (7, sI x7), (8, sI x8)], [sI s0], σ)
noncomputable def fMo_prepare_274 (x0 : Option Nat) (x1 : Int32) (x2 : Int32) (x3 : Int32) (x7 : Int32) (x8 : Int32) (σ : Hp) : Option Rs := rF (mMo_prepare, 274, [(0, sA x0), (1, sI x1), (2, sI x2), (3, sI x3), (7, sI x7), (8, sI x8)], [], σ)
noncomputable def fMo_prepare_297 (x0 : Option Nat) (x7 : Int32) (x8 : Int32) (σ : Hp) : Option Rs := rF (mMo_prepare, 297, [(0, sA x0), (7, sI x7), (8, sI x8)], [], σ)
noncomputable def fMo_prepare_341 (x0 : Option Nat) (x7 : Int32) (x8 : Int32) (σ : Hp) : Option Rs := rF (mMo_prepare, 341, [(0, sA x0), (7, sI x7), (8, sI x8)], [], σ)
set_option maxRecDepth 100000 in
set_option maxHeartbeats 4000000 in
theorem eMo_prepare (x0 : Option Nat) (x1 : Int32) (x2 : Int32) (x3 : Int32) (x4 : Int32) (x5 : Int64) (σ : Hp) : rF (mMo_prepare, 0, [(0, sA x0), (1, sI x1), (2, sI x2), (3, sI x3), (4, sI x4), (5, sJ x5)], [], σ) =
  (gfI σ x0 8 2).bind fun v1 =>
  (gfA σ x0 8 3).bind fun v9 =>
  (asI σ v9 (v1 + (1 : Int32)) x2).bind fun σ15 =>
  (gfA σ15 x0 8 4).bind fun v17 =>
  (asI σ15 v17 (v1 + (1 : Int32)) x1).bind fun σ23 =>
  (gfA σ23 x0 8 5).bind fun v25 =>
  (asI σ23 v25 (v1 + (1 : Int32)) x3).bind fun σ31 =>
  (gfA σ31 x0 8 6).bind fun v33 =>
  if x2 = (6 : Int32) then
    fMo_prepare_50 x0 x1 x2 x3 x4 x5 (v1 + (1 : Int32)) v33 (v1 + (1 : Int32)) σ31
  else
    if ¬ x2 = (7 : Int32) then
      fMo_prepare_56 x0 x1 x2 x3 x4 x5 (v1 + (1 : Int32)) v33 (v1 + (1 : Int32)) (0 : Int32) σ31
    else
      fMo_prepare_50 x0 x1 x2 x3 x4 x5 (v1 + (1 : Int32)) v33 (v1 + (1 : Int32)) σ31
  := (blk_eq sMo_prepare 198 _).trans rfl
set_option maxRecDepth 100000 in
set_option maxHeartbeats 4000000 in
theorem eMo_prepare_50 (x0 : Option Nat) (x1 : Int32) (x2 : Int32) (x3 : Int32) (x4 : Int32) (x5 : Int64) (x7 : Int32) (s0 : Option Nat) (s1 : Int32) (σ : Hp) : fMo_prepare_50 x0 x1 x2 x3 x4 x5 x7 s0 s1 σ =
  fMo_prepare_56 x0 x1 x2 x3 x4 x5 x7 s0 s1 x4 σ
  := (blk_eq sMo_prepare 198 _).trans rfl
set_option maxRecDepth 100000 in
set_option maxHeartbeats 4000000 in
theorem eMo_prepare_56 (x0 : Option Nat) (x1 : Int32) (x2 : Int32) (x3 : Int32) (x4 : Int32) (x5 : Int64) (x7 : Int32) (s0 : Option Nat) (s1 : Int32) (s2 : Int32) (σ : Hp) : fMo_prepare_56 x0 x1 x2 x3 x4 x5 x7 s0 s1 s2 σ =
  (asI σ s0 s1 s2).bind fun σ56 =>
  fMo_prepare_60 x0 x1 x2 x3 x4 x5 x7 (0 : Int32) σ56
  := (blk_eq sMo_prepare 198 _).trans rfl
set_option maxRecDepth 100000 in
set_option maxHeartbeats 4000000 in
theorem eMo_prepare_60 (x0 : Option Nat) (x1 : Int32) (x2 : Int32) (x3 : Int32) (x4 : Int32) (x5 : Int64) (x7 : Int32) (x8 : Int32) (σ : Hp) : fMo_prepare_60 x0 x1 x2 x3 x4 x5 x7 x8 σ =
  if (6 : Int32) ≤ x8 then
    fMo_prepare_114 x0 x1 x2 x3 x5 x7 σ
  else
    if ¬ x2 = (5 : Int32) then
      fMo_prepare_114 x0 x1 x2 x3 x5 x7 σ
    else
      (gfA σ x0 8 6).bind fun v73 =>
      (alI σ v73 x7).bind fun v79 =>
      if ¬ x8 = x3 then
        (gfA σ x0 8 13).bind fun v93 =>
        (rcv σ [sA x0, sA v93, sI x8] 8).bind fun _ =>
        (cI rF nMo_level [sA x0, sA v93, sI x8] σ).bind fun q98 =>
        fMo_prepare_101 x0 x1 x2 x3 x4 x5 x7 x8 v73 x7 v79 q98.1 q98.2
      else
        fMo_prepare_101 x0 x1 x2 x3 x4 x5 x7 x8 v73 x7 v79 x4 σ
  := (blk_eq sMo_prepare 198 _).trans rfl
set_option maxRecDepth 100000 in
set_option maxHeartbeats 4000000 in
theorem eMo_prepare_101 (x0 : Option Nat) (x1 : Int32) (x2 : Int32) (x3 : Int32) (x4 : Int32) (x5 : Int64) (x7 : Int32) (x8 : Int32) (s0 : Option Nat) (s1 : Int32) (s2 : Int32) (s3 : Int32) (σ : Hp) : fMo_prepare_101 x0 x1 x2 x3 x4 x5 x7 x8 s0 s1 s2 s3 σ =
  (asI σ s0 s1 (s2 + (s3 <<< (((2 : Int32) * x8) &&& 31)))).bind fun σ107 =>
  fMo_prepare_60 x0 x1 x2 x3 x4 x5 x7 (x8 + (1 : Int32)) σ107
  := (blk_eq sMo_prepare 198 _).trans rfl
set_option maxRecDepth 100000 in
set_option maxHeartbeats 4000000 in
theorem eMo_prepare_114 (x0 : Option Nat) (x1 : Int32) (x2 : Int32) (x3 : Int32) (x5 : Int64) (x7 : Int32) (σ : Hp) : fMo_prepare_114 x0 x1 x2 x3 x5 x7 σ =
  (gfA σ x0 8 7).bind fun v115 =>
  (gfI σ x0 8 0).bind fun v121 =>
  (gfA σ x0 8 1).bind fun v125 =>
  (alI σ v125 (x1 - x1 / (3 : Int32) * (3 : Int32))).bind fun v131 =>
  (asI σ v115 x7 (v121 + v131)).bind fun σ133 =>
  (gfA σ133 x0 8 8).bind fun v135 =>
  (asJ σ133 v135 x7 x5).bind fun σ142 =>
  (gfA σ142 x0 8 9).bind fun v144 =>
  (asJ σ142 v144 x7 (0 : Int64)).bind fun σ150 =>
  fMo_prepare_154 x0 x1 x2 x3 x7 (0 : Int32) σ150
  := (blk_eq sMo_prepare 198 _).trans rfl
set_option maxRecDepth 100000 in
set_option maxHeartbeats 4000000 in
theorem eMo_prepare_154 (x0 : Option Nat) (x1 : Int32) (x2 : Int32) (x3 : Int32) (x7 : Int32) (x8 : Int32) (σ : Hp) : fMo_prepare_154 x0 x1 x2 x3 x7 x8 σ =
  if (9 : Int32) ≤ x8 then
    (gfA σ x0 8 10).bind fun v281 =>
    (gfA σ x0 8 9).bind fun v287 =>
    (alJ σ v287 x7).bind fun v292 =>
    (asJ σ v281 x7 v292).bind fun σ293 =>
    fMo_prepare_297 x0 x7 (1 : Int32) σ293
  else
    if (4 : Int32) < x2 then
      fMo_prepare_178 x0 x1 x2 x3 x7 x8 σ
    else
      if ¬ x8 = ((3 : Int32) + x3) then
        fMo_prepare_178 x0 x1 x2 x3 x7 x8 σ
      else
        fMo_prepare_179 x0 x1 x2 x3 x7 x8 (1 : Int32) σ
  := (blk_eq sMo_prepare 198 _).trans rfl
set_option maxRecDepth 100000 in
set_option maxHeartbeats 4000000 in
theorem eMo_prepare_178 (x0 : Option Nat) (x1 : Int32) (x2 : Int32) (x3 : Int32) (x7 : Int32) (x8 : Int32) (σ : Hp) : fMo_prepare_178 x0 x1 x2 x3 x7 x8 σ =
  fMo_prepare_179 x0 x1 x2 x3 x7 x8 (0 : Int32) σ
  := (blk_eq sMo_prepare 198 _).trans rfl
set_option maxRecDepth 100000 in
set_option maxHeartbeats 4000000 in
theorem eMo_prepare_179 (x0 : Option Nat) (x1 : Int32) (x2 : Int32) (x3 : Int32) (x7 : Int32) (x8 : Int32) (s0 : Int32) (σ : Hp) : fMo_prepare_179 x0 x1 x2 x3 x7 x8 s0 σ =
  if ¬ x8 = (2 : Int32) then
    fMo_prepare_201 x0 x1 x2 x3 x7 x8 s0 σ
  else
    if x2 = (1 : Int32) then
      fMo_prepare_197 x0 x1 x2 x3 x7 x8 s0 σ
    else
      if ¬ x2 = (2 : Int32) then
        fMo_prepare_201 x0 x1 x2 x3 x7 x8 s0 σ
      else
        fMo_prepare_197 x0 x1 x2 x3 x7 x8 s0 σ
  := (blk_eq sMo_prepare 198 _).trans rfl
set_option maxRecDepth 100000 in
set_option maxHeartbeats 4000000 in
theorem eMo_prepare_197 (x0 : Option Nat) (x1 : Int32) (x2 : Int32) (x3 : Int32) (x7 : Int32) (x8 : Int32) (x9 : Int32) (σ : Hp) : fMo_prepare_197 x0 x1 x2 x3 x7 x8 x9 σ =
  fMo_prepare_202 x0 x1 x2 x3 x7 x8 x9 (1 : Int32) σ
  := (blk_eq sMo_prepare 198 _).trans rfl
set_option maxRecDepth 100000 in
set_option maxHeartbeats 4000000 in
theorem eMo_prepare_201 (x0 : Option Nat) (x1 : Int32) (x2 : Int32) (x3 : Int32) (x7 : Int32) (x8 : Int32) (x9 : Int32) (σ : Hp) : fMo_prepare_201 x0 x1 x2 x3 x7 x8 x9 σ =
  fMo_prepare_202 x0 x1 x2 x3 x7 x8 x9 (0 : Int32) σ
  := (blk_eq sMo_prepare 198 _).trans rfl
set_option maxRecDepth 100000 in
set_option maxHeartbeats 4000000 in
theorem eMo_prepare_202 (x0 : Option Nat) (x1 : Int32) (x2 : Int32) (x3 : Int32) (x7 : Int32) (x8 : Int32) (x9 : Int32) (s0 : Int32) (σ : Hp) : fMo_prepare_202 x0 x1 x2 x3 x7 x8 x9 s0 σ =
  if x8 < (2 : Int32) then
    fMo_prepare_228 x0 x1 x2 x3 x7 x8 σ
  else
    if x8 = ((3 : Int32) + x1) then
      fMo_prepare_228 x0 x1 x2 x3 x7 x8 σ
    else
      if ¬ x9 = 0 then
        fMo_prepare_228 x0 x1 x2 x3 x7 x8 σ
      else
        if s0 = 0 then
          fMo_prepare_233 x0 x1 x2 x3 x7 x8 (0 : Int32) σ
        else
          fMo_prepare_228 x0 x1 x2 x3 x7 x8 σ
  := (blk_eq sMo_prepare 198 _).trans rfl
set_option maxRecDepth 100000 in
set_option maxHeartbeats 4000000 in
theorem eMo_prepare_228 (x0 : Option Nat) (x1 : Int32) (x2 : Int32) (x3 : Int32) (x7 : Int32) (x8 : Int32) (σ : Hp) : fMo_prepare_228 x0 x1 x2 x3 x7 x8 σ =
  fMo_prepare_233 x0 x1 x2 x3 x7 x8 (1 : Int32) σ
  := (blk_eq sMo_prepare 198 _).trans rfl
set_option maxRecDepth 100000 in
set_option maxHeartbeats 4000000 in
theorem eMo_prepare_233 (x0 : Option Nat) (x1 : Int32) (x2 : Int32) (x3 : Int32) (x7 : Int32) (x8 : Int32) (s0 : Int32) (σ : Hp) : fMo_prepare_233 x0 x1 x2 x3 x7 x8 s0 σ =
  if s0 = 0 then
    fMo_prepare_274 x0 x1 x2 x3 x7 x8 σ
  else
    (gfA σ x0 8 13).bind fun v241 =>
    (alI σ v241 x8).bind fun v246 =>
    if v246 ≤ 0 then
      fMo_prepare_274 x0 x1 x2 x3 x7 x8 σ
    else
      (gfA σ x0 8 9).bind fun v251 =>
      (gfA σ x0 8 9).bind fun v257 =>
      (alJ σ v257 x7).bind fun v262 =>
      (gfA σ x0 8 13).bind fun v265 =>
      (alI σ v265 x8).bind fun v270 =>
      (asJ σ v251 x7 (v262 ||| ((1 : Int64) <<< (Int32.toInt64 v270 &&& 63)))).bind fun σ273 =>
      fMo_prepare_274 x0 x1 x2 x3 x7 x8 σ273
  := (blk_eq sMo_prepare 198 _).trans rfl
set_option maxRecDepth 100000 in
set_option maxHeartbeats 4000000 in
theorem eMo_prepare_274 (x0 : Option Nat) (x1 : Int32) (x2 : Int32) (x3 : Int32) (x7 : Int32) (x8 : Int32) (σ : Hp) : fMo_prepare_274 x0 x1 x2 x3 x7 x8 σ =
  fMo_prepare_154 x0 x1 x2 x3 x7 (x8 + (1 : Int32)) σ
  := (blk_eq sMo_prepare 198 _).trans rfl
set_option maxRecDepth 100000 in
set_option maxHeartbeats 4000000 in
theorem eMo_prepare_297 (x0 : Option Nat) (x7 : Int32) (x8 : Int32) (σ : Hp) : fMo_prepare_297 x0 x7 x8 σ =
  if x7 ≤ x8 then
    some (none, σ)
  else
    (gfA σ x0 8 9).bind fun v305 =>
    (alJ σ v305 x7).bind fun v310 =>
    (cI rF nMo_has [sJ v310, sI x8] σ).bind fun q313 =>
    if q313.1 = 0 then
      fMo_prepare_341 x0 x7 x8 q313.2
    else
      (gfA q313.2 x0 8 10).bind fun v320 =>
      (gfA q313.2 x0 8 10).bind fun v326 =>
      (alJ q313.2 v326 x7).bind fun v331 =>
      (gfA q313.2 x0 8 10).bind fun v333 =>
      (alJ q313.2 v333 x8).bind fun v338 =>
      (asJ q313.2 v320 x7 (v331 ||| v338)).bind fun σ340 =>
      fMo_prepare_341 x0 x7 x8 σ340
  := (blk_eq sMo_prepare 198 _).trans rfl
set_option maxRecDepth 100000 in
set_option maxHeartbeats 4000000 in
theorem eMo_prepare_341 (x0 : Option Nat) (x7 : Int32) (x8 : Int32) (σ : Hp) : fMo_prepare_341 x0 x7 x8 σ =
  fMo_prepare_297 x0 x7 (x8 + (1 : Int32)) σ
  := (blk_eq sMo_prepare 198 _).trans rfl

-- MeshRoomModel.finish()I
noncomputable def fMo_finish_53 (x0 : Option Nat) (x1 : Int32) (s0 : Option Nat) (s1 : Int32) (σ : Hp) : Option Rs := rF (mMo_finish, 53, [(0, sA x0), (1, sI x1)], [sI s1, sA s0], σ)
noncomputable def fMo_finish_54 (x0 : Option Nat) (x1 : Int32) (s0 : Option Nat) (s1 : Int32) (s2 : Int32) (σ : Hp) : Option Rs := rF (mMo_finish, 54, [(0, sA x0), (1, sI x1)], [sI s2, sI s1, sA s0], σ)
noncomputable def fMo_finish_57 (x0 : Option Nat) (x1 : Int32) (x2 : Int32) (σ : Hp) : Option Rs := rF (mMo_finish, 57, [(0, sA x0), (1, sI x1), (2, sI x2)], [], σ)
noncomputable def fMo_finish_117 (x0 : Option Nat) (x1 : Int32) (σ : Hp) : Option Rs := rF (mMo_finish, 117, [(0, sA x0), (1, sI x1)], [], σ)
noncomputable def fMo_finish_135 (x0 : Option Nat) (x1 : Int32) (x3 : Int32) (x4 : Int32) (σ : Hp) : Option Rs := rF (mMo_finish, 135, [(0, sA x0), (1, sI x1), (3, sI x3), (4, sI x4)], [], σ)
noncomputable def fMo_finish_156 (x0 : Option Nat) (x1 : Int32) (x3 : Int32) (x4 : Int32) (σ : Hp) : Option Rs := rF (mMo_finish, 156, [(0, sA x0), (1, sI x1), (3, sI x3), (4, sI x4)], [], σ)
set_option maxRecDepth 100000 in
set_option maxHeartbeats 4000000 in
theorem eMo_finish (x0 : Option Nat) (σ : Hp) : rF (mMo_finish, 0, [(0, sA x0)], [], σ) =
  (gfI σ x0 8 2).bind fun v2 =>
  (pfI σ x0 8 2 (v2 + (1 : Int32))).bind fun σ7 =>
  (gfI σ7 x0 8 2).bind fun v11 =>
  (rcv σ7 [sA x0, sI v11] 8).bind fun _ =>
  (cV rF nMo_gather [sA x0, sI v11] σ7).bind fun q17 =>
  (gfA q17 x0 8 11).bind fun v21 =>
  (gfA q17 x0 8 15).bind fun v28 =>
  (rcv q17 [sA x0, sI v11, sA v28] 8).bind fun _ =>
  (cI rF nMo_allowed [sA x0, sI v11, sA v28] q17).bind fun q31 =>
  if q31.1 = 0 then
    fMo_finish_53 x0 v11 v21 v11 q31.2
  else
    (gfA q31.2 x0 8 13).bind fun v40 =>
    (rcv q31.2 [sA x0, sI v11, sA v40] 8).bind fun _ =>
    (cI rF nMo_allowed [sA x0, sI v11, sA v40] q31.2).bind fun q43 =>
    if q43.1 = 0 then
      fMo_finish_53 x0 v11 v21 v11 q43.2
    else
      fMo_finish_54 x0 v11 v21 v11 (1 : Int32) q43.2
  := (blk_eq sMo_finish 104 _).trans rfl
set_option maxRecDepth 100000 in
set_option maxHeartbeats 4000000 in
theorem eMo_finish_53 (x0 : Option Nat) (x1 : Int32) (s0 : Option Nat) (s1 : Int32) (σ : Hp) : fMo_finish_53 x0 x1 s0 s1 σ =
  fMo_finish_54 x0 x1 s0 s1 (0 : Int32) σ
  := (blk_eq sMo_finish 104 _).trans rfl
set_option maxRecDepth 100000 in
set_option maxHeartbeats 4000000 in
theorem eMo_finish_54 (x0 : Option Nat) (x1 : Int32) (s0 : Option Nat) (s1 : Int32) (s2 : Int32) (σ : Hp) : fMo_finish_54 x0 x1 s0 s1 s2 σ =
  (asZ σ s0 s1 s2).bind fun σ54 =>
  fMo_finish_57 x0 x1 (0 : Int32) σ54
  := (blk_eq sMo_finish 104 _).trans rfl
set_option maxRecDepth 100000 in
set_option maxHeartbeats 4000000 in
theorem eMo_finish_57 (x0 : Option Nat) (x1 : Int32) (x2 : Int32) (σ : Hp) : fMo_finish_57 x0 x1 x2 σ =
  if (9 : Int32) ≤ x2 then
    (rcv σ [sA x0, sI x1] 8).bind fun _ =>
    (cI rF nMo_key [sA x0, sI x1] σ).bind fun q88 =>
    (gfA q88.2 x0 8 11).bind fun v93 =>
    (alZ q88.2 v93 x1).bind fun v97 =>
    if v97 = 0 then
      fMo_finish_117 x0 x1 q88.2
    else
      if q88.1 < 0 then
        fMo_finish_117 x0 x1 q88.2
      else
        (gfA q88.2 x0 8 12).bind fun v106 =>
        (asI q88.2 v106 (((9 : Int32) * x1) + q88.1) x1).bind fun σ116 =>
        fMo_finish_117 x0 x1 σ116
  else
    (gfA σ x0 8 12).bind fun v64 =>
    (gfA σ x0 8 13).bind fun v74 =>
    (alI σ v74 x2).bind fun v78 =>
    (asI σ v64 (((9 : Int32) * x1) + x2) v78).bind fun σ79 =>
    fMo_finish_57 x0 x1 (x2 + (1 : Int32)) σ79
  := (blk_eq sMo_finish 104 _).trans rfl
set_option maxRecDepth 100000 in
set_option maxHeartbeats 4000000 in
theorem eMo_finish_117 (x0 : Option Nat) (x1 : Int32) (σ : Hp) : fMo_finish_117 x0 x1 σ =
  (gfA σ x0 8 4).bind fun v118 =>
  (alI σ v118 x1).bind fun v122 =>
  (rcv σ [sA x0, sI (v122 - v122 / (3 : Int32) * (3 : Int32)), sI x1] 8).bind fun _ =>
  (cV rF nMo_look [sA x0, sI (v122 - v122 / (3 : Int32) * (3 : Int32)), sI x1] σ).bind fun q129 =>
  fMo_finish_135 x0 x1 (v122 - v122 / (3 : Int32) * (3 : Int32)) (0 : Int32) q129
  := (blk_eq sMo_finish 104 _).trans rfl
set_option maxRecDepth 100000 in
set_option maxHeartbeats 4000000 in
theorem eMo_finish_135 (x0 : Option Nat) (x1 : Int32) (x3 : Int32) (x4 : Int32) (σ : Hp) : fMo_finish_135 x0 x1 x3 x4 σ =
  if (3 : Int32) ≤ x4 then
    some (some (sI x1), σ)
  else
    if x4 = x3 then
      fMo_finish_156 x0 x1 x3 x4 σ
    else
      (rcv σ [sA x0, sI (1 : Int32), sI x1, sI x3, sI x4] 8).bind fun _ =>
      (cV rF nMo_send [sA x0, sI (1 : Int32), sI x1, sI x3, sI x4] σ).bind fun q153 =>
      fMo_finish_156 x0 x1 x3 x4 q153
  := (blk_eq sMo_finish 104 _).trans rfl
set_option maxRecDepth 100000 in
set_option maxHeartbeats 4000000 in
theorem eMo_finish_156 (x0 : Option Nat) (x1 : Int32) (x3 : Int32) (x4 : Int32) (σ : Hp) : fMo_finish_156 x0 x1 x3 x4 σ =
  fMo_finish_135 x0 x1 x3 (x4 + (1 : Int32)) σ
  := (blk_eq sMo_finish 104 _).trans rfl

-- MeshRoomModel.act(IIII)I
noncomputable def fMo_act_20 (σ : Hp) : Option Rs := rF (mMo_act, 20, [], [], σ)
noncomputable def fMo_act_73 (s0 : Int32) (σ : Hp) : Option Rs := rF (mMo_act, 73, [], [sI s0], σ)
set_option maxRecDepth 100000 in
set_option maxHeartbeats 4000000 in
theorem eMo_act (x0 : Option Nat) (x1 : Int32) (x2 : Int32) (x3 : Int32) (x4 : Int32) (σ : Hp) : rF (mMo_act, 0, [(0, sA x0), (1, sI x1), (2, sI x2), (3, sI x3), (4, sI x4)], [], σ) =
  (cI rF nMo_fits [sI x1, sI x2, sI x3, sI x4] σ).bind fun q5 =>
  if q5.1 = 0 then
    fMo_act_20 q5.2
  else
    (gfI q5.2 x0 8 2).bind fun v12 =>
    if ¬ v12 = (40 : Int32) then
      (rcv q5.2 [sA x0, sI (x1 - x1 / (3 : Int32) * (3 : Int32))] 8).bind fun _ =>
      (cJ rF nMo_endsOf [sA x0, sI (x1 - x1 / (3 : Int32) * (3 : Int32))] q5.2).bind fun q26 =>
      (rcv q26.2 [sA x0, sJ q26.1] 8).bind fun _ =>
      (cV rF nMo_resolve [sA x0, sJ q26.1] q26.2).bind fun q34 =>
      (rcv q34 [sA x0, sI x1, sI x2, sI x3, sI x4, sJ q26.1] 8).bind fun _ =>
      (cV rF nMo_prepare [sA x0, sI x1, sI x2, sI x3, sI x4, sJ q26.1] q34).bind fun q45 =>
      (gfI q45 x0 8 2).bind fun v50 =>
      (gfA q45 x0 8 13).bind fun v56 =>
      (rcv q45 [sA x0, sI (v50 + (1 : Int32)), sA v56] 8).bind fun _ =>
      (cI rF nMo_allowed [sA x0, sI (v50 + (1 : Int32)), sA v56] q45).bind fun q59 =>
      if q59.1 = 0 then
        fMo_act_73 (-1 : Int32) q59.2
      else
        (rcv q59.2 [sA x0] 8).bind fun _ =>
        (cI rF nMo_finish [sA x0] q59.2).bind fun q66 =>
        fMo_act_73 q66.1 q66.2
    else
      fMo_act_20 q5.2
  := (blk_eq sMo_act 47 _).trans rfl
set_option maxRecDepth 100000 in
set_option maxHeartbeats 4000000 in
theorem eMo_act_20 (σ : Hp) : fMo_act_20 σ =
  some (some (sI (-1 : Int32)), σ)
  := (blk_eq sMo_act 47 _).trans rfl
set_option maxRecDepth 100000 in
set_option maxHeartbeats 4000000 in
theorem eMo_act_73 (s0 : Int32) (σ : Hp) : fMo_act_73 s0 σ =
  some (some (sI s0), σ)
  := (blk_eq sMo_act 47 _).trans rfl

-- MeshRoomModel.branch(IIIII)I
noncomputable def fMo_branch_47 (σ : Hp) : Option Rs := rF (mMo_branch, 47, [], [], σ)
set_option maxRecDepth 100000 in
set_option maxHeartbeats 4000000 in
theorem eMo_branch (x0 : Option Nat) (x1 : Int32) (x2 : Int32) (x3 : Int32) (x4 : Int32) (x5 : Int32) (σ : Hp) : rF (mMo_branch, 0, [(0, sA x0), (1, sI x1), (2, sI x2), (3, sI x3), (4, sI x4), (5, sI x5)], [], σ) =
  (cI rF nMo_fits [sI x1, sI x2, sI x3, sI x4] σ).bind fun q5 =>
  if q5.1 = 0 then
    fMo_branch_47 q5.2
  else
    (gfI q5.2 x0 8 2).bind fun v12 =>
    if v12 = (40 : Int32) then
      fMo_branch_47 q5.2
    else
      (rcv q5.2 [sA x0, sI x5] 8).bind fun _ =>
      (cI rF nMo_isEvent [sA x0, sI x5] q5.2).bind fun q23 =>
      if q23.1 = 0 then
        fMo_branch_47 q23.2
      else
        (gfA q23.2 x0 8 18).bind fun v30 =>
        (alI q23.2 v30 (((41 : Int32) * (x1 - x1 / (3 : Int32) * (3 : Int32))) + x5)).bind fun v42 =>
        if v42 = (2 : Int32) then
          (rcv q23.2 [sA x0, sJ ((1 : Int64) <<< (Int32.toInt64 x5 &&& 63))] 8).bind fun _ =>
          (cV rF nMo_resolve [sA x0, sJ ((1 : Int64) <<< (Int32.toInt64 x5 &&& 63))] q23.2).bind fun q54 =>
          (rcv q54 [sA x0, sI x1, sI x2, sI x3, sI x4, sJ ((1 : Int64) <<< (Int32.toInt64 x5 &&& 63))] 8).bind fun _ =>
          (cV rF nMo_prepare [sA x0, sI x1, sI x2, sI x3, sI x4, sJ ((1 : Int64) <<< (Int32.toInt64 x5 &&& 63))] q54).bind fun q67 =>
          (rcv q67 [sA x0] 8).bind fun _ =>
          (cI rF nMo_finish [sA x0] q67).bind fun q71 =>
          some (some (sI q71.1), q71.2)
        else
          fMo_branch_47 q23.2
  := (blk_eq sMo_branch 50 _).trans rfl
set_option maxRecDepth 100000 in
set_option maxHeartbeats 4000000 in
theorem eMo_branch_47 (σ : Hp) : fMo_branch_47 σ =
  some (some (sI (-1 : Int32)), σ)
  := (blk_eq sMo_branch 50 _).trans rfl

-- MeshRoomModel.tick(I)Z
set_option maxRecDepth 100000 in
set_option maxHeartbeats 4000000 in
theorem eMo_tick (x0 : Option Nat) (x1 : Int32) (σ : Hp) : rF (mMo_tick, 0, [(0, sA x0), (1, sI x1)], [], σ) =
  (cI rF nMo_in [sI x1, sI (0 : Int32), sI (1000 : Int32)] σ).bind fun q5 =>
  if ¬ q5.1 = 0 then
    (gfI q5.2 x0 8 0).bind fun v15 =>
    (pfI q5.2 x0 8 0 (v15 + x1)).bind fun σ20 =>
    rz (1 : Int32) σ20
  else
    rz (0 : Int32) q5.2
  := (blk_eq sMo_tick 20 _).trans rfl

-- MeshRoomModel.offset(II)Z
noncomputable def fMo_offset_20 (σ : Hp) : Option Rs := rF (mMo_offset, 20, [], [], σ)
set_option maxRecDepth 100000 in
set_option maxHeartbeats 4000000 in
theorem eMo_offset (x0 : Option Nat) (x1 : Int32) (x2 : Int32) (σ : Hp) : rF (mMo_offset, 0, [(0, sA x0), (1, sI x1), (2, sI x2)], [], σ) =
  (cI rF nMo_in [sI x1, sI (0 : Int32), sI (2 : Int32)] σ).bind fun q3 =>
  if q3.1 = 0 then
    fMo_offset_20 q3.2
  else
    (cI rF nMo_in [sI x2, sI (-50 : Int32), sI (50 : Int32)] q3.2).bind fun q14 =>
    if ¬ q14.1 = 0 then
      (gfA q14.2 x0 8 1).bind fun v23 =>
      (asI q14.2 v23 x1 x2).bind fun σ28 =>
      rz (1 : Int32) σ28
    else
      fMo_offset_20 q14.2
  := (blk_eq sMo_offset 24 _).trans rfl
set_option maxRecDepth 100000 in
set_option maxHeartbeats 4000000 in
theorem eMo_offset_20 (σ : Hp) : fMo_offset_20 σ =
  rz (0 : Int32) σ
  := (blk_eq sMo_offset 24 _).trans rfl

-- MeshRoomModel.send(IIII)V
set_option maxRecDepth 100000 in
set_option maxHeartbeats 4000000 in
theorem eMo_send (x0 : Option Nat) (x1 : Int32) (x2 : Int32) (x3 : Int32) (x4 : Int32) (σ : Hp) : rF (mMo_send, 0, [(0, sA x0), (1, sI x1), (2, sI x2), (3, sI x3), (4, sI x4)], [], σ) =
  (gfI σ x0 8 19).bind fun v1 =>
  if ¬ v1 = (24 : Int32) then
    (gfA σ x0 8 20).bind fun v11 =>
    (gfI σ x0 8 19).bind fun v15 =>
    (asI σ v11 v15 x1).bind fun σ19 =>
    (gfA σ19 x0 8 21).bind fun v21 =>
    (gfI σ19 x0 8 19).bind fun v25 =>
    (asI σ19 v21 v25 x2).bind fun σ29 =>
    (gfA σ29 x0 8 22).bind fun v31 =>
    (gfI σ29 x0 8 19).bind fun v35 =>
    (asI σ29 v31 v35 x3).bind fun σ39 =>
    (gfA σ39 x0 8 23).bind fun v41 =>
    (gfI σ39 x0 8 19).bind fun v45 =>
    (asI σ39 v41 v45 x4).bind fun σ50 =>
    (gfA σ50 x0 8 24).bind fun v52 =>
    (gfI σ50 x0 8 19).bind fun v56 =>
    (asZ σ50 v52 v56 (0 : Int32)).bind fun σ60 =>
    (gfI σ60 x0 8 19).bind fun v63 =>
    (pfI σ60 x0 8 19 (v63 + (1 : Int32))).bind fun σ68 =>
    some (none, σ68)
  else
    some (none, σ)
  := (blk_eq sMo_send 47 _).trans rfl

-- MeshRoomModel.take(I)V
noncomputable def fMo_take_12 (x0 : Option Nat) (x2 : Int32) (σ : Hp) : Option Rs := rF (mMo_take, 12, [(0, sA x0), (2, sI x2)], [], σ)
set_option maxRecDepth 100000 in
set_option maxHeartbeats 4000000 in
theorem eMo_take (x0 : Option Nat) (x1 : Int32) (σ : Hp) : rF (mMo_take, 0, [(0, sA x0), (1, sI x1)], [], σ) =
  (gfI σ x0 8 19).bind fun v2 =>
  (pfI σ x0 8 19 (v2 - (1 : Int32))).bind fun σ7 =>
  fMo_take_12 x0 x1 σ7
  := (blk_eq sMo_take 70 _).trans rfl
set_option maxRecDepth 100000 in
set_option maxHeartbeats 4000000 in
theorem eMo_take_12 (x0 : Option Nat) (x2 : Int32) (σ : Hp) : fMo_take_12 x0 x2 σ =
  (gfI σ x0 8 19).bind fun v14 =>
  if v14 ≤ x2 then
    some (none, σ)
  else
    (gfA σ x0 8 20).bind fun v21 =>
    (gfA σ x0 8 20).bind fun v26 =>
    (alI σ v26 (x2 + (1 : Int32))).bind fun v32 =>
    (asI σ v21 x2 v32).bind fun σ33 =>
    (gfA σ33 x0 8 21).bind fun v35 =>
    (gfA σ33 x0 8 21).bind fun v40 =>
    (alI σ33 v40 (x2 + (1 : Int32))).bind fun v46 =>
    (asI σ33 v35 x2 v46).bind fun σ47 =>
    (gfA σ47 x0 8 22).bind fun v49 =>
    (gfA σ47 x0 8 22).bind fun v54 =>
    (alI σ47 v54 (x2 + (1 : Int32))).bind fun v60 =>
    (asI σ47 v49 x2 v60).bind fun σ61 =>
    (gfA σ61 x0 8 23).bind fun v63 =>
    (gfA σ61 x0 8 23).bind fun v68 =>
    (alI σ61 v68 (x2 + (1 : Int32))).bind fun v74 =>
    (asI σ61 v63 x2 v74).bind fun σ75 =>
    (gfA σ75 x0 8 24).bind fun v77 =>
    (gfA σ75 x0 8 24).bind fun v82 =>
    (alZ σ75 v82 (x2 + (1 : Int32))).bind fun v88 =>
    (asZ σ75 v77 x2 v88).bind fun σ89 =>
    fMo_take_12 x0 (x2 + (1 : Int32)) σ89
  := (blk_eq sMo_take 70 _).trans rfl

-- MeshRoomModel.offer(II)I
noncomputable def fMo_offer_23 (σ : Hp) : Option Rs := rF (mMo_offer, 23, [], [], σ)
noncomputable def fMo_offer_34 (x0 : Option Nat) (x1 : Int32) (x2 : Int32) (x3 : Int64) (x5 : Int32) (σ : Hp) : Option Rs := rF (mMo_offer, 34, [(0, sA x0), (1, sI x1), (2, sI x2), (3, sJ x3), (5, sI x5)], [], σ)
noncomputable def fMo_offer_61 (x0 : Option Nat) (x1 : Int32) (x2 : Int32) (x3 : Int64) (x5 : Int32) (σ : Hp) : Option Rs := rF (mMo_offer, 61, [(0, sA x0), (1, sI x1), (2, sI x2), (3, sJ x3), (5, sI x5)], [], σ)
set_option maxRecDepth 100000 in
set_option maxHeartbeats 4000000 in
theorem eMo_offer (x0 : Option Nat) (x1 : Int32) (x2 : Int32) (σ : Hp) : rF (mMo_offer, 0, [(0, sA x0), (1, sI x1), (2, sI x2)], [], σ) =
  (cI rF nMo_in [sI x1, sI (0 : Int32), sI (2 : Int32)] σ).bind fun q3 =>
  if q3.1 = 0 then
    fMo_offer_23 q3.2
  else
    (cI rF nMo_in [sI x2, sI (0 : Int32), sI (2 : Int32)] q3.2).bind fun q12 =>
    if q12.1 = 0 then
      fMo_offer_23 q12.2
    else
      if ¬ x1 = x2 then
        (rcv q12.2 [sA x0, sI x1] 8).bind fun _ =>
        (cJ rF nMo_endsOf [sA x0, sI x1] q12.2).bind fun q27 =>
        fMo_offer_34 x0 x1 x2 q27.1 (1 : Int32) q27.2
      else
        fMo_offer_23 q12.2
  := (blk_eq sMo_offer 45 _).trans rfl
set_option maxRecDepth 100000 in
set_option maxHeartbeats 4000000 in
theorem eMo_offer_23 (σ : Hp) : fMo_offer_23 σ =
  some (some (sI (-1 : Int32)), σ)
  := (blk_eq sMo_offer 45 _).trans rfl
set_option maxRecDepth 100000 in
set_option maxHeartbeats 4000000 in
theorem eMo_offer_34 (x0 : Option Nat) (x1 : Int32) (x2 : Int32) (x3 : Int64) (x5 : Int32) (σ : Hp) : fMo_offer_34 x0 x1 x2 x3 x5 σ =
  (gfI σ x0 8 2).bind fun v37 =>
  if v37 < x5 then
    (cI rF nMo_size [sJ x3] σ).bind fun q68 =>
    some (some (sI q68.1), q68.2)
  else
    (cI rF nMo_has [sJ x3, sI x5] σ).bind fun q46 =>
    if q46.1 = 0 then
      fMo_offer_61 x0 x1 x2 x3 x5 q46.2
    else
      (rcv q46.2 [sA x0, sI (1 : Int32), sI x5, sI x1, sI x2] 8).bind fun _ =>
      (cV rF nMo_send [sA x0, sI (1 : Int32), sI x5, sI x1, sI x2] q46.2).bind fun q58 =>
      fMo_offer_61 x0 x1 x2 x3 x5 q58
  := (blk_eq sMo_offer 45 _).trans rfl
set_option maxRecDepth 100000 in
set_option maxHeartbeats 4000000 in
theorem eMo_offer_61 (x0 : Option Nat) (x1 : Int32) (x2 : Int32) (x3 : Int64) (x5 : Int32) (σ : Hp) : fMo_offer_61 x0 x1 x2 x3 x5 σ =
  fMo_offer_34 x0 x1 x2 x3 (x5 + (1 : Int32)) σ
  := (blk_eq sMo_offer 45 _).trans rfl

-- MeshRoomModel.deliver(I)I
noncomputable def fMo_deliver_88 (x0 : Option Nat) (x2 : Int32) (x3 : Int32) (x4 : Int32) (x5 : Int32) (σ : Hp) : Option Rs := rF (mMo_deliver, 88, [(0, sA x0), (2, sI x2), (3, sI x3), (4, sI x4), (5, sI x5)], [], σ)
noncomputable def fMo_deliver_113 (x2 : Int32) (σ : Hp) : Option Rs := rF (mMo_deliver, 113, [(2, sI x2)], [], σ)
set_option maxRecDepth 100000 in
set_option maxHeartbeats 4000000 in
theorem eMo_deliver (x0 : Option Nat) (x1 : Int32) (σ : Hp) : rF (mMo_deliver, 0, [(0, sA x0), (1, sI x1)], [], σ) =
  (gfI σ x0 8 19).bind fun v3 =>
  (cI rF nMo_in [sI x1, sI (0 : Int32), sI (v3 - (1 : Int32))] σ).bind fun q8 =>
  if ¬ q8.1 = 0 then
    (gfA q8.2 x0 8 20).bind fun v17 =>
    (alI q8.2 v17 x1).bind fun v21 =>
    (gfA q8.2 x0 8 21).bind fun v24 =>
    (alI q8.2 v24 x1).bind fun v28 =>
    (gfA q8.2 x0 8 22).bind fun v31 =>
    (alI q8.2 v31 x1).bind fun v35 =>
    (gfA q8.2 x0 8 23).bind fun v39 =>
    (alI q8.2 v39 x1).bind fun v43 =>
    (gfA q8.2 x0 8 24).bind fun v47 =>
    (alZ q8.2 v47 x1).bind fun v51 =>
    (rcv q8.2 [sA x0, sI x1] 8).bind fun _ =>
    (cV rF nMo_take [sA x0, sI x1] q8.2).bind fun q56 =>
    if ¬ v21 = (1 : Int32) then
      fMo_deliver_88 x0 v21 v28 v35 v43 q56
    else
      if ¬ v51 = 0 then
        fMo_deliver_88 x0 v21 v28 v35 v43 q56
      else
        (rcv q56 [sA x0, sI v43, sI v28] 8).bind fun _ =>
        (cI rF nMo_known [sA x0, sI v43, sI v28] q56).bind fun q73 =>
        if ¬ q73.1 = 0 then
          fMo_deliver_88 x0 v21 v28 v35 v43 q73.2
        else
          (rcv q73.2 [sA x0, sI v43, sI v28, sI v35] 8).bind fun _ =>
          (cV rF nMo_come [sA x0, sI v43, sI v28, sI v35] q73.2).bind fun q85 =>
          fMo_deliver_88 x0 v21 v28 v35 v43 q85
  else
    some (some (sI (-1 : Int32)), q8.2)
  := (blk_eq sMo_deliver 74 _).trans rfl
set_option maxRecDepth 100000 in
set_option maxHeartbeats 4000000 in
theorem eMo_deliver_88 (x0 : Option Nat) (x2 : Int32) (x3 : Int32) (x4 : Int32) (x5 : Int32) (σ : Hp) : fMo_deliver_88 x0 x2 x3 x4 x5 σ =
  if ¬ x2 = (2 : Int32) then
    fMo_deliver_113 x2 σ
  else
    (rcv σ [sA x0, sI x5, sI x3] 8).bind fun _ =>
    (cI rF nMo_known [sA x0, sI x5, sI x3] σ).bind fun q97 =>
    if q97.1 = 0 then
      fMo_deliver_113 x2 q97.2
    else
      (rcv q97.2 [sA x0, sI (1 : Int32), sI x3, sI x5, sI x4] 8).bind fun _ =>
      (cV rF nMo_send [sA x0, sI (1 : Int32), sI x3, sI x5, sI x4] q97.2).bind fun q110 =>
      fMo_deliver_113 x2 q110
  := (blk_eq sMo_deliver 74 _).trans rfl
set_option maxRecDepth 100000 in
set_option maxHeartbeats 4000000 in
theorem eMo_deliver_113 (x2 : Int32) (σ : Hp) : fMo_deliver_113 x2 σ =
  some (some (sI x2), σ)
  := (blk_eq sMo_deliver 74 _).trans rfl

-- MeshRoomModel.come(III)V
noncomputable def fMo_come_31 (x0 : Option Nat) (x1 : Int32) (x2 : Int32) (x3 : Int32) (x4 : Int32) (σ : Hp) : Option Rs := rF (mMo_come, 31, [(0, sA x0), (1, sI x1), (2, sI x2), (3, sI x3), (4, sI x4)], [], σ)
noncomputable def fMo_come_73 (x0 : Option Nat) (x1 : Int32) (x2 : Int32) (x3 : Int32) (x4 : Int32) (σ : Hp) : Option Rs := rF (mMo_come, 73, [(0, sA x0), (1, sI x1), (2, sI x2), (3, sI x3), (4, sI x4)], [], σ)
set_option maxRecDepth 100000 in
set_option maxHeartbeats 4000000 in
theorem eMo_come (x0 : Option Nat) (x1 : Int32) (x2 : Int32) (x3 : Int32) (σ : Hp) : rF (mMo_come, 0, [(0, sA x0), (1, sI x1), (2, sI x2), (3, sI x3)], [], σ) =
  (rcv σ [sA x0, sI x1, sI x2] 8).bind fun _ =>
  (cI rF nMo_ready [sA x0, sI x1, sI x2] σ).bind fun q3 =>
  if q3.1 = 0 then
    (gfA q3.2 x0 8 18).bind fun v17 =>
    (asI q3.2 v17 (((41 : Int32) * x1) + x2) (1 : Int32)).bind fun σ27 =>
    fMo_come_31 x0 x1 x2 x3 (1 : Int32) σ27
  else
    (rcv q3.2 [sA x0, sI x1, sI x2] 8).bind fun _ =>
    (cV rF nMo_look [sA x0, sI x1, sI x2] q3.2).bind fun q12 =>
    some (none, q12)
  := (blk_eq sMo_come 51 _).trans rfl
set_option maxRecDepth 100000 in
set_option maxHeartbeats 4000000 in
theorem eMo_come_31 (x0 : Option Nat) (x1 : Int32) (x2 : Int32) (x3 : Int32) (x4 : Int32) (σ : Hp) : fMo_come_31 x0 x1 x2 x3 x4 σ =
  (gfI σ x0 8 2).bind fun v34 =>
  if v34 < x4 then
    some (none, σ)
  else
    (gfA σ x0 8 8).bind fun v41 =>
    (alJ σ v41 x2).bind fun v45 =>
    (cI rF nMo_has [sJ v45, sI x4] σ).bind fun q48 =>
    if q48.1 = 0 then
      fMo_come_73 x0 x1 x2 x3 x4 q48.2
    else
      (rcv q48.2 [sA x0, sI x1, sI x4] 8).bind fun _ =>
      (cI rF nMo_known [sA x0, sI x1, sI x4] q48.2).bind fun q58 =>
      if ¬ q58.1 = 0 then
        fMo_come_73 x0 x1 x2 x3 x4 q58.2
      else
        (rcv q58.2 [sA x0, sI (2 : Int32), sI x4, sI x1, sI x3] 8).bind fun _ =>
        (cV rF nMo_send [sA x0, sI (2 : Int32), sI x4, sI x1, sI x3] q58.2).bind fun q70 =>
        fMo_come_73 x0 x1 x2 x3 x4 q70
  := (blk_eq sMo_come 51 _).trans rfl
set_option maxRecDepth 100000 in
set_option maxHeartbeats 4000000 in
theorem eMo_come_73 (x0 : Option Nat) (x1 : Int32) (x2 : Int32) (x3 : Int32) (x4 : Int32) (σ : Hp) : fMo_come_73 x0 x1 x2 x3 x4 σ =
  fMo_come_31 x0 x1 x2 x3 (x4 + (1 : Int32)) σ
  := (blk_eq sMo_come 51 _).trans rfl

-- MeshRoomModel.lose(I)I
set_option maxRecDepth 100000 in
set_option maxHeartbeats 4000000 in
theorem eMo_lose (x0 : Option Nat) (x1 : Int32) (σ : Hp) : rF (mMo_lose, 0, [(0, sA x0), (1, sI x1)], [], σ) =
  (gfI σ x0 8 19).bind fun v3 =>
  (cI rF nMo_in [sI x1, sI (0 : Int32), sI (v3 - (1 : Int32))] σ).bind fun q8 =>
  if ¬ q8.1 = 0 then
    (gfA q8.2 x0 8 20).bind fun v17 =>
    (alI q8.2 v17 x1).bind fun v21 =>
    (rcv q8.2 [sA x0, sI x1] 8).bind fun _ =>
    (cV rF nMo_take [sA x0, sI x1] q8.2).bind fun q25 =>
    some (some (sI v21), q25)
  else
    some (some (sI (-1 : Int32)), q8.2)
  := (blk_eq sMo_lose 25 _).trans rfl

-- MeshRoomModel.spoil(I)Z
noncomputable def fMo_spoil_33 (σ : Hp) : Option Rs := rF (mMo_spoil, 33, [], [], σ)
set_option maxRecDepth 100000 in
set_option maxHeartbeats 4000000 in
theorem eMo_spoil (x0 : Option Nat) (x1 : Int32) (σ : Hp) : rF (mMo_spoil, 0, [(0, sA x0), (1, sI x1)], [], σ) =
  (gfI σ x0 8 19).bind fun v3 =>
  (cI rF nMo_in [sI x1, sI (0 : Int32), sI (v3 - (1 : Int32))] σ).bind fun q8 =>
  if q8.1 = 0 then
    fMo_spoil_33 q8.2
  else
    (gfA q8.2 x0 8 20).bind fun v15 =>
    (alI q8.2 v15 x1).bind fun v19 =>
    if v19 = (2 : Int32) then
      fMo_spoil_33 q8.2
    else
      (gfA q8.2 x0 8 24).bind fun v25 =>
      (alZ q8.2 v25 x1).bind fun v29 =>
      if v29 = 0 then
        (gfA q8.2 x0 8 24).bind fun v36 =>
        (asZ q8.2 v36 x1 (1 : Int32)).bind fun σ41 =>
        rz (1 : Int32) σ41
      else
        fMo_spoil_33 q8.2
  := (blk_eq sMo_spoil 33 _).trans rfl
set_option maxRecDepth 100000 in
set_option maxHeartbeats 4000000 in
theorem eMo_spoil_33 (σ : Hp) : fMo_spoil_33 σ =
  rz (0 : Int32) σ
  := (blk_eq sMo_spoil 33 _).trans rfl

-- MeshRoomModel.flying()I
set_option maxRecDepth 100000 in
set_option maxHeartbeats 4000000 in
theorem eMo_flying (x0 : Option Nat) (σ : Hp) : rF (mMo_flying, 0, [(0, sA x0)], [], σ) =
  (gfI σ x0 8 19).bind fun v1 =>
  some (some (sI v1), σ)
  := (blk_eq sMo_flying 8 _).trans rfl

-- MeshRoomModel.message(I)I
noncomputable def fMo_message_68 (s0 : Int32) (s1 : Int32) (σ : Hp) : Option Rs := rF (mMo_message, 68, [], [sI s1, sI s0], σ)
noncomputable def fMo_message_73 (s0 : Int32) (σ : Hp) : Option Rs := rF (mMo_message, 73, [], [sI s0], σ)
set_option maxRecDepth 100000 in
set_option maxHeartbeats 4000000 in
theorem eMo_message (x0 : Option Nat) (x1 : Int32) (σ : Hp) : rF (mMo_message, 0, [(0, sA x0), (1, sI x1)], [], σ) =
  (gfI σ x0 8 19).bind fun v3 =>
  (cI rF nMo_in [sI x1, sI (0 : Int32), sI (v3 - (1 : Int32))] σ).bind fun q8 =>
  if q8.1 = 0 then
    fMo_message_73 (-1 : Int32) q8.2
  else
    (gfA q8.2 x0 8 21).bind fun v15 =>
    (alI q8.2 v15 x1).bind fun v19 =>
    (gfA q8.2 x0 8 23).bind fun v23 =>
    (alI q8.2 v23 x1).bind fun v27 =>
    (gfA q8.2 x0 8 22).bind fun v34 =>
    (alI q8.2 v34 x1).bind fun v38 =>
    (gfA q8.2 x0 8 20).bind fun v45 =>
    (alI q8.2 v45 x1).bind fun v49 =>
    (gfA q8.2 x0 8 24).bind fun v53 =>
    (alZ q8.2 v53 x1).bind fun v57 =>
    if v57 = 0 then
      fMo_message_68 (((v19 + ((64 : Int32) * v27)) + ((256 : Int32) * v38)) + ((1024 : Int32) * v49)) (0 : Int32) q8.2
    else
      fMo_message_68 (((v19 + ((64 : Int32) * v27)) + ((256 : Int32) * v38)) + ((1024 : Int32) * v49)) (4096 : Int32) q8.2
  := (blk_eq sMo_message 50 _).trans rfl
set_option maxRecDepth 100000 in
set_option maxHeartbeats 4000000 in
theorem eMo_message_68 (s0 : Int32) (s1 : Int32) (σ : Hp) : fMo_message_68 s0 s1 σ =
  fMo_message_73 (s0 + s1) σ
  := (blk_eq sMo_message 50 _).trans rfl
set_option maxRecDepth 100000 in
set_option maxHeartbeats 4000000 in
theorem eMo_message_73 (s0 : Int32) (σ : Hp) : fMo_message_73 s0 σ =
  some (some (sI s0), σ)
  := (blk_eq sMo_message 50 _).trans rfl

-- MeshRoomModel.status(II)I
noncomputable def fMo_status_31 (σ : Hp) : Option Rs := rF (mMo_status, 31, [], [], σ)
noncomputable def fMo_status_32 (s0 : Int32) (σ : Hp) : Option Rs := rF (mMo_status, 32, [], [sI s0], σ)
set_option maxRecDepth 100000 in
set_option maxHeartbeats 4000000 in
theorem eMo_status (x0 : Option Nat) (x1 : Int32) (x2 : Int32) (σ : Hp) : rF (mMo_status, 0, [(0, sA x0), (1, sI x1), (2, sI x2)], [], σ) =
  (cI rF nMo_in [sI x1, sI (0 : Int32), sI (2 : Int32)] σ).bind fun q3 =>
  if q3.1 = 0 then
    fMo_status_31 q3.2
  else
    (rcv q3.2 [sA x0, sI x2] 8).bind fun _ =>
    (cI rF nMo_isEvent [sA x0, sI x2] q3.2).bind fun q11 =>
    if q11.1 = 0 then
      fMo_status_31 q11.2
    else
      (gfA q11.2 x0 8 18).bind fun v18 =>
      (alI q11.2 v18 (((41 : Int32) * x1) + x2)).bind fun v27 =>
      fMo_status_32 v27 q11.2
  := (blk_eq sMo_status 25 _).trans rfl
set_option maxRecDepth 100000 in
set_option maxHeartbeats 4000000 in
theorem eMo_status_31 (σ : Hp) : fMo_status_31 σ =
  fMo_status_32 (-1 : Int32) σ
  := (blk_eq sMo_status 25 _).trans rfl
set_option maxRecDepth 100000 in
set_option maxHeartbeats 4000000 in
theorem eMo_status_32 (s0 : Int32) (σ : Hp) : fMo_status_32 s0 σ =
  some (some (sI s0), σ)
  := (blk_eq sMo_status 25 _).trans rfl

-- MeshRoomModel.ends(I)I
set_option maxRecDepth 100000 in
set_option maxHeartbeats 4000000 in
theorem eMo_ends (x0 : Option Nat) (x1 : Int32) (σ : Hp) : rF (mMo_ends, 0, [(0, sA x0), (1, sI x1)], [], σ) =
  (cI rF nMo_in [sI x1, sI (0 : Int32), sI (2 : Int32)] σ).bind fun q3 =>
  if ¬ q3.1 = 0 then
    (rcv q3.2 [sA x0, sI x1] 8).bind fun _ =>
    (cJ rF nMo_endsOf [sA x0, sI x1] q3.2).bind fun q13 =>
    (cI rF nMo_size [sJ q13.1] q13.2).bind fun q18 =>
    some (some (sI q18.1), q18.2)
  else
    some (some (sI (-1 : Int32)), q3.2)
  := (blk_eq sMo_ends 19 _).trans rfl

-- MeshRoomModel.refresh(I)V
set_option maxRecDepth 100000 in
set_option maxHeartbeats 4000000 in
theorem eMo_refresh (x0 : Option Nat) (x1 : Int32) (σ : Hp) : rF (mMo_refresh, 0, [(0, sA x0), (1, sI x1)], [], σ) =
  (rcv σ [sA x0, sI x1] 8).bind fun _ =>
  (cJ rF nMo_endsOf [sA x0, sI x1] σ).bind fun q2 =>
  (rcv q2.2 [sA x0, sJ q2.1] 8).bind fun _ =>
  (cV rF nMo_resolve [sA x0, sJ q2.1] q2.2).bind fun q8 =>
  some (none, q8)
  := (blk_eq sMo_refresh 13 _).trans rfl

-- MeshRoomModel.current(II)I
noncomputable def fMo_current_19 (σ : Hp) : Option Rs := rF (mMo_current, 19, [], [], σ)
set_option maxRecDepth 100000 in
set_option maxHeartbeats 4000000 in
theorem eMo_current (x0 : Option Nat) (x1 : Int32) (x2 : Int32) (σ : Hp) : rF (mMo_current, 0, [(0, sA x0), (1, sI x1), (2, sI x2)], [], σ) =
  (cI rF nMo_in [sI x1, sI (0 : Int32), sI (2 : Int32)] σ).bind fun q3 =>
  if q3.1 = 0 then
    fMo_current_19 q3.2
  else
    (cI rF nMo_in [sI x2, sI (0 : Int32), sI (8 : Int32)] q3.2).bind fun q13 =>
    if ¬ q13.1 = 0 then
      (rcv q13.2 [sA x0, sI x1] 8).bind fun _ =>
      (cV rF nMo_refresh [sA x0, sI x1] q13.2).bind fun q23 =>
      (gfA q23 x0 8 13).bind fun v27 =>
      (alI q23 v27 x2).bind fun v31 =>
      some (some (sI v31), q23)
    else
      fMo_current_19 q13.2
  := (blk_eq sMo_current 25 _).trans rfl
set_option maxRecDepth 100000 in
set_option maxHeartbeats 4000000 in
theorem eMo_current_19 (σ : Hp) : fMo_current_19 σ =
  some (some (sI (-1 : Int32)), σ)
  := (blk_eq sMo_current 25 _).trans rfl

-- MeshRoomModel.member(II)I
noncomputable def fMo_member_18 (σ : Hp) : Option Rs := rF (mMo_member, 18, [], [], σ)
set_option maxRecDepth 100000 in
set_option maxHeartbeats 4000000 in
theorem eMo_member (x0 : Option Nat) (x1 : Int32) (x2 : Int32) (σ : Hp) : rF (mMo_member, 0, [(0, sA x0), (1, sI x1), (2, sI x2)], [], σ) =
  (cI rF nMo_in [sI x1, sI (0 : Int32), sI (2 : Int32)] σ).bind fun q3 =>
  if q3.1 = 0 then
    fMo_member_18 q3.2
  else
    (cI rF nMo_in [sI x2, sI (0 : Int32), sI (5 : Int32)] q3.2).bind fun q12 =>
    if ¬ q12.1 = 0 then
      (rcv q12.2 [sA x0, sI x1] 8).bind fun _ =>
      (cV rF nMo_refresh [sA x0, sI x1] q12.2).bind fun q22 =>
      (gfA q22 x0 8 13).bind fun v27 =>
      (rcv q22 [sA x0, sA v27, sI x2] 8).bind fun _ =>
      (cI rF nMo_membership [sA x0, sA v27, sI x2] q22).bind fun q31 =>
      (gfA q31.2 x0 8 13).bind fun v38 =>
      (rcv q31.2 [sA x0, sA v38, sI x2] 8).bind fun _ =>
      (cI rF nMo_level [sA x0, sA v38, sI x2] q31.2).bind fun q42 =>
      some (some (sI (q31.1 + ((8 : Int32) * q42.1))), q42.2)
    else
      fMo_member_18 q12.2
  := (blk_eq sMo_member 34 _).trans rfl
set_option maxRecDepth 100000 in
set_option maxHeartbeats 4000000 in
theorem eMo_member_18 (σ : Hp) : fMo_member_18 σ =
  some (some (sI (-1 : Int32)), σ)
  := (blk_eq sMo_member 34 _).trans rfl

-- MeshRoomModel.after(II)I
noncomputable def fMo_after_32 (σ : Hp) : Option Rs := rF (mMo_after, 32, [], [], σ)
noncomputable def fMo_after_33 (s0 : Int32) (σ : Hp) : Option Rs := rF (mMo_after, 33, [], [sI s0], σ)
set_option maxRecDepth 100000 in
set_option maxHeartbeats 4000000 in
theorem eMo_after (x0 : Option Nat) (x1 : Int32) (x2 : Int32) (σ : Hp) : rF (mMo_after, 0, [(0, sA x0), (1, sI x1), (2, sI x2)], [], σ) =
  (rcv σ [sA x0, sI x1] 8).bind fun _ =>
  (cI rF nMo_isEvent [sA x0, sI x1] σ).bind fun q2 =>
  if q2.1 = 0 then
    fMo_after_32 q2.2
  else
    (cI rF nMo_in [sI x2, sI (0 : Int32), sI (8 : Int32)] q2.2).bind fun q12 =>
    if q12.1 = 0 then
      fMo_after_32 q12.2
    else
      (gfA q12.2 x0 8 12).bind fun v19 =>
      (alI q12.2 v19 (((9 : Int32) * x1) + x2)).bind fun v28 =>
      fMo_after_33 v28 q12.2
  := (blk_eq sMo_after 25 _).trans rfl
set_option maxRecDepth 100000 in
set_option maxHeartbeats 4000000 in
theorem eMo_after_32 (σ : Hp) : fMo_after_32 σ =
  fMo_after_33 (-1 : Int32) σ
  := (blk_eq sMo_after 25 _).trans rfl
set_option maxRecDepth 100000 in
set_option maxHeartbeats 4000000 in
theorem eMo_after_33 (s0 : Int32) (σ : Hp) : fMo_after_33 s0 σ =
  some (some (sI s0), σ)
  := (blk_eq sMo_after 25 _).trans rfl

-- MeshRoomModel.event(II)I
noncomputable def fMo_event_139 (s0 : Int32) (σ : Hp) : Option Rs := rF (mMo_event, 139, [], [sI s0], σ)
set_option maxRecDepth 100000 in
set_option maxHeartbeats 4000000 in
theorem eMo_event (x0 : Option Nat) (x1 : Int32) (x2 : Int32) (σ : Hp) : rF (mMo_event, 0, [(0, sA x0), (1, sI x1), (2, sI x2)], [], σ) =
  (rcv σ [sA x0, sI x1] 8).bind fun _ =>
  (cI rF nMo_isEvent [sA x0, sI x1] σ).bind fun q2 =>
  if ¬ q2.1 = 0 then
    if x2 = (0 : Int32) then
      (gfA q2.2 x0 8 3).bind fun v61 =>
      (alI q2.2 v61 x1).bind fun v65 =>
      some (some (sI v65), q2.2)
    else
     if x2 = (1 : Int32) then
      (gfA q2.2 x0 8 4).bind fun v68 =>
      (alI q2.2 v68 x1).bind fun v72 =>
      some (some (sI v72), q2.2)
     else
      if x2 = (2 : Int32) then
      (gfA q2.2 x0 8 5).bind fun v75 =>
      (alI q2.2 v75 x1).bind fun v79 =>
      some (some (sI v79), q2.2)
      else
       if x2 = (3 : Int32) then
      (gfA q2.2 x0 8 6).bind fun v82 =>
      (alI q2.2 v82 x1).bind fun v86 =>
      some (some (sI v86), q2.2)
       else
        if x2 = (4 : Int32) then
      (gfA q2.2 x0 8 7).bind fun v89 =>
      (alI q2.2 v89 x1).bind fun v93 =>
      some (some (sI v93), q2.2)
        else
         if x2 = (5 : Int32) then
      (gfA q2.2 x0 8 8).bind fun v96 =>
      (alJ q2.2 v96 x1).bind fun v100 =>
      (cI rF nMo_size [sJ v100] q2.2).bind fun q101 =>
      some (some (sI q101.1), q101.2)
         else
          if x2 = (6 : Int32) then
      (gfA q2.2 x0 8 9).bind fun v106 =>
      (alJ q2.2 v106 x1).bind fun v110 =>
      (cI rF nMo_size [sJ v110] q2.2).bind fun q111 =>
      some (some (sI q111.1), q111.2)
          else
           if x2 = (7 : Int32) then
      (gfA q2.2 x0 8 10).bind fun v116 =>
      (alJ q2.2 v116 x1).bind fun v120 =>
      (cI rF nMo_size [sJ v120] q2.2).bind fun q121 =>
      some (some (sI q121.1), q121.2)
           else
            if x2 = (8 : Int32) then
      (gfA q2.2 x0 8 11).bind fun v126 =>
      (alZ q2.2 v126 x1).bind fun v130 =>
      if v130 = 0 then
        fMo_event_139 (0 : Int32) q2.2
      else
        fMo_event_139 (1 : Int32) q2.2
            else
              some (some (sI (-1 : Int32)), q2.2)
  else
    some (some (sI (-1 : Int32)), q2.2)
  := (blk_eq sMo_event 67 _).trans rfl
set_option maxRecDepth 100000 in
set_option maxHeartbeats 4000000 in
theorem eMo_event_139 (s0 : Int32) (σ : Hp) : fMo_event_139 s0 σ =
  some (some (sI s0), σ)
  := (blk_eq sMo_event 67 _).trans rfl

-- MeshRoomModel.linked(II)I
noncomputable def fMo_linked_34 (x0 : Option Nat) (x1 : Int32) (x2 : Int32) (s0 : Int32) (σ : Hp) : Option Rs := rF (mMo_linked, 34, [(0, sA x0), (1, sI x1), (2, sI x2)], [sI s0], σ)
noncomputable def fMo_linked_52 (x0 : Option Nat) (x1 : Int32) (x2 : Int32) (s0 : Int32) (s1 : Int32) (σ : Hp) : Option Rs := rF (mMo_linked, 52, [(0, sA x0), (1, sI x1), (2, sI x2)], [sI s1, sI s0], σ)
noncomputable def fMo_linked_71 (s0 : Int32) (s1 : Int32) (σ : Hp) : Option Rs := rF (mMo_linked, 71, [], [sI s1, sI s0], σ)
noncomputable def fMo_linked_75 (σ : Hp) : Option Rs := rF (mMo_linked, 75, [], [], σ)
noncomputable def fMo_linked_76 (s0 : Int32) (σ : Hp) : Option Rs := rF (mMo_linked, 76, [], [sI s0], σ)
set_option maxRecDepth 100000 in
set_option maxHeartbeats 4000000 in
theorem eMo_linked (x0 : Option Nat) (x1 : Int32) (x2 : Int32) (σ : Hp) : rF (mMo_linked, 0, [(0, sA x0), (1, sI x1), (2, sI x2)], [], σ) =
  (rcv σ [sA x0, sI x1] 8).bind fun _ =>
  (cI rF nMo_isEvent [sA x0, sI x1] σ).bind fun q2 =>
  if q2.1 = 0 then
    fMo_linked_75 q2.2
  else
    (rcv q2.2 [sA x0, sI x2] 8).bind fun _ =>
    (cI rF nMo_isEvent [sA x0, sI x2] q2.2).bind fun q10 =>
    if q10.1 = 0 then
      fMo_linked_75 q10.2
    else
      (gfA q10.2 x0 8 8).bind fun v17 =>
      (alJ q10.2 v17 x1).bind fun v21 =>
      (cI rF nMo_has [sJ v21, sI x2] q10.2).bind fun q23 =>
      if q23.1 = 0 then
        fMo_linked_34 x0 x1 x2 (0 : Int32) q23.2
      else
        fMo_linked_34 x0 x1 x2 (1 : Int32) q23.2
  := (blk_eq sMo_linked 48 _).trans rfl
set_option maxRecDepth 100000 in
set_option maxHeartbeats 4000000 in
theorem eMo_linked_34 (x0 : Option Nat) (x1 : Int32) (x2 : Int32) (s0 : Int32) (σ : Hp) : fMo_linked_34 x0 x1 x2 s0 σ =
  (gfA σ x0 8 9).bind fun v35 =>
  (alJ σ v35 x1).bind fun v39 =>
  (cI rF nMo_has [sJ v39, sI x2] σ).bind fun q41 =>
  if q41.1 = 0 then
    fMo_linked_52 x0 x1 x2 s0 (0 : Int32) q41.2
  else
    fMo_linked_52 x0 x1 x2 s0 (2 : Int32) q41.2
  := (blk_eq sMo_linked 48 _).trans rfl
set_option maxRecDepth 100000 in
set_option maxHeartbeats 4000000 in
theorem eMo_linked_52 (x0 : Option Nat) (x1 : Int32) (x2 : Int32) (s0 : Int32) (s1 : Int32) (σ : Hp) : fMo_linked_52 x0 x1 x2 s0 s1 σ =
  (gfA σ x0 8 10).bind fun v54 =>
  (alJ σ v54 x1).bind fun v58 =>
  (cI rF nMo_has [sJ v58, sI x2] σ).bind fun q60 =>
  if q60.1 = 0 then
    fMo_linked_71 (s0 + s1) (0 : Int32) q60.2
  else
    fMo_linked_71 (s0 + s1) (4 : Int32) q60.2
  := (blk_eq sMo_linked 48 _).trans rfl
set_option maxRecDepth 100000 in
set_option maxHeartbeats 4000000 in
theorem eMo_linked_71 (s0 : Int32) (s1 : Int32) (σ : Hp) : fMo_linked_71 s0 s1 σ =
  fMo_linked_76 (s0 + s1) σ
  := (blk_eq sMo_linked 48 _).trans rfl
set_option maxRecDepth 100000 in
set_option maxHeartbeats 4000000 in
theorem eMo_linked_75 (σ : Hp) : fMo_linked_75 σ =
  fMo_linked_76 (0 : Int32) σ
  := (blk_eq sMo_linked 48 _).trans rfl
set_option maxRecDepth 100000 in
set_option maxHeartbeats 4000000 in
theorem eMo_linked_76 (s0 : Int32) (σ : Hp) : fMo_linked_76 s0 σ =
  some (some (sI s0), σ)
  := (blk_eq sMo_linked 48 _).trans rfl
