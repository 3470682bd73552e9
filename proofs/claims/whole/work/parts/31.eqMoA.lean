/-! Equations of the stretches (printed by wip/gen/tabs.py). -/
-- MeshRoomModel.<init>()V
noncomputable def fMo_init_51 (x0 : Option Nat) (σ : Hp) : Option Rs := rF (mMo_init, 51, [(0, sA x0)], [], σ)
noncomputable def fMo_init_100 (x0 : Option Nat) (σ : Hp) : Option Rs := rF (mMo_init, 100, [(0, sA x0)], [], σ)
noncomputable def fMo_init_148 (x0 : Option Nat) (σ : Hp) : Option Rs := rF (mMo_init, 148, [(0, sA x0)], [], σ)
noncomputable def fMo_init_192 (x0 : Option Nat) (σ : Hp) : Option Rs := rF (mMo_init, 192, [(0, sA x0)], [], σ)
noncomputable def fMo_init_233 (x0 : Option Nat) (σ : Hp) : Option Rs := rF (mMo_init, 233, [(0, sA x0)], [], σ)
noncomputable def fMo_init_259 (x0 : Option Nat) (x1 : Int32) (σ : Hp) : Option Rs := rF (mMo_init, 259, [(0, sA x0), (1, sI x1)], [], σ)
set_option maxRecDepth 100000 in
set_option maxHeartbeats 4000000 in
theorem eMo_init (x0 : Option Nat) (σ : Hp) : rF (mMo_init, 0, [(0, sA x0)], [], σ) =
  (x0).bind fun _ =>
  (mkA σ 0 (3 : Int32)).bind fun σ6 =>
  (pfA σ6 x0 8 1 (some (Prod.fst σ))).bind fun σ8 =>
  (mkA σ8 0 (41 : Int32)).bind fun σ14 =>
  (pfA σ14 x0 8 3 (some (Prod.fst σ8))).bind fun σ16 =>
  (mkA σ16 0 (41 : Int32)).bind fun σ22 =>
  (pfA σ22 x0 8 4 (some (Prod.fst σ16))).bind fun σ24 =>
  (mkA σ24 0 (41 : Int32)).bind fun σ30 =>
  (pfA σ30 x0 8 5 (some (Prod.fst σ24))).bind fun σ32 =>
  (mkA σ32 0 (41 : Int32)).bind fun σ38 =>
  (pfA σ38 x0 8 6 (some (Prod.fst σ32))).bind fun σ40 =>
  (mkA σ40 0 (41 : Int32)).bind fun σ46 =>
  (pfA σ46 x0 8 7 (some (Prod.fst σ40))).bind fun σ48 =>
  fMo_init_51 x0 σ48
  := (blk_eq sMo_init 169 _).trans rfl
set_option maxRecDepth 100000 in
set_option maxHeartbeats 4000000 in
theorem eMo_init_51 (x0 : Option Nat) (σ : Hp) : fMo_init_51 x0 σ =
  (mkA σ 1 (41 : Int32)).bind fun σ54 =>
  (pfA σ54 x0 8 8 (some (Prod.fst σ))).bind fun σ56 =>
  (mkA σ56 1 (41 : Int32)).bind fun σ62 =>
  (pfA σ62 x0 8 9 (some (Prod.fst σ56))).bind fun σ64 =>
  (mkA σ64 1 (41 : Int32)).bind fun σ70 =>
  (pfA σ70 x0 8 10 (some (Prod.fst σ64))).bind fun σ72 =>
  (mkA σ72 2 (41 : Int32)).bind fun σ78 =>
  (pfA σ78 x0 8 11 (some (Prod.fst σ72))).bind fun σ80 =>
  (mkA σ80 0 (369 : Int32)).bind fun σ87 =>
  (pfA σ87 x0 8 12 (some (Prod.fst σ80))).bind fun σ89 =>
  (mkA σ89 0 (9 : Int32)).bind fun σ95 =>
  (pfA σ95 x0 8 13 (some (Prod.fst σ89))).bind fun σ97 =>
  fMo_init_100 x0 σ97
  := (blk_eq sMo_init 169 _).trans rfl
set_option maxRecDepth 100000 in
set_option maxHeartbeats 4000000 in
theorem eMo_init_100 (x0 : Option Nat) (σ : Hp) : fMo_init_100 x0 σ =
  (mkA σ 0 (9 : Int32)).bind fun σ103 =>
  (pfA σ103 x0 8 14 (some (Prod.fst σ))).bind fun σ105 =>
  (mkA σ105 0 (9 : Int32)).bind fun σ111 =>
  (pfA σ111 x0 8 15 (some (Prod.fst σ105))).bind fun σ113 =>
  (mkA σ113 2 (9 : Int32)).bind fun σ119 =>
  (pfA σ119 x0 8 16 (some (Prod.fst σ113))).bind fun σ121 =>
  (mkA σ121 0 (41 : Int32)).bind fun σ127 =>
  (pfA σ127 x0 8 17 (some (Prod.fst σ121))).bind fun σ129 =>
  (mkA σ129 0 (123 : Int32)).bind fun σ135 =>
  (pfA σ135 x0 8 18 (some (Prod.fst σ129))).bind fun σ137 =>
  (mkA σ137 0 (24 : Int32)).bind fun σ143 =>
  (pfA σ143 x0 8 20 (some (Prod.fst σ137))).bind fun σ145 =>
  fMo_init_148 x0 σ145
  := (blk_eq sMo_init 169 _).trans rfl
set_option maxRecDepth 100000 in
set_option maxHeartbeats 4000000 in
theorem eMo_init_148 (x0 : Option Nat) (σ : Hp) : fMo_init_148 x0 σ =
  (mkA σ 0 (24 : Int32)).bind fun σ151 =>
  (pfA σ151 x0 8 21 (some (Prod.fst σ))).bind fun σ153 =>
  (mkA σ153 0 (24 : Int32)).bind fun σ159 =>
  (pfA σ159 x0 8 22 (some (Prod.fst σ153))).bind fun σ161 =>
  (mkA σ161 0 (24 : Int32)).bind fun σ167 =>
  (pfA σ167 x0 8 23 (some (Prod.fst σ161))).bind fun σ169 =>
  (mkA σ169 2 (24 : Int32)).bind fun σ175 =>
  (pfA σ175 x0 8 24 (some (Prod.fst σ169))).bind fun σ177 =>
  (pfI σ177 x0 8 2 (2 : Int32)).bind fun σ182 =>
  (gfA σ182 x0 8 3).bind fun v186 =>
  (asI σ182 v186 (2 : Int32) (1 : Int32)).bind fun σ191 =>
  fMo_init_192 x0 σ191
  := (blk_eq sMo_init 169 _).trans rfl
set_option maxRecDepth 100000 in
set_option maxHeartbeats 4000000 in
theorem eMo_init_192 (x0 : Option Nat) (σ : Hp) : fMo_init_192 x0 σ =
  (gfA σ x0 8 8).bind fun v193 =>
  (asJ σ v193 (2 : Int32) (2 : Int64)).bind fun σ200 =>
  (gfA σ200 x0 8 9).bind fun v202 =>
  (asJ σ200 v202 (2 : Int32) (2 : Int64)).bind fun σ209 =>
  (gfA σ209 x0 8 10).bind fun v211 =>
  (asJ σ209 v211 (2 : Int32) (2 : Int64)).bind fun σ218 =>
  (gfA σ218 x0 8 11).bind fun v220 =>
  (asZ σ218 v220 (1 : Int32) (1 : Int32)).bind fun σ225 =>
  (gfA σ225 x0 8 11).bind fun v227 =>
  (asZ σ225 v227 (2 : Int32) (1 : Int32)).bind fun σ232 =>
  fMo_init_233 x0 σ232
  := (blk_eq sMo_init 169 _).trans rfl
set_option maxRecDepth 100000 in
set_option maxHeartbeats 4000000 in
theorem eMo_init_233 (x0 : Option Nat) (σ : Hp) : fMo_init_233 x0 σ =
  (gfA σ x0 8 12).bind fun v234 =>
  (asI σ v234 (9 : Int32) (1 : Int32)).bind fun σ240 =>
  (gfA σ240 x0 8 12).bind fun v242 =>
  (asI σ240 v242 (18 : Int32) (1 : Int32)).bind fun σ248 =>
  (gfA σ248 x0 8 12).bind fun v250 =>
  (asI σ248 v250 (21 : Int32) (2 : Int32)).bind fun σ256 =>
  fMo_init_259 x0 (0 : Int32) σ256
  := (blk_eq sMo_init 169 _).trans rfl
set_option maxRecDepth 100000 in
set_option maxHeartbeats 4000000 in
theorem eMo_init_259 (x0 : Option Nat) (x1 : Int32) (σ : Hp) : fMo_init_259 x0 x1 σ =
  if (3 : Int32) ≤ x1 then
    some (none, σ)
  else
    (gfA σ x0 8 18).bind fun v265 =>
    (asI σ v265 (((41 : Int32) * x1) + (1 : Int32)) (2 : Int32)).bind fun σ275 =>
    (gfA σ275 x0 8 18).bind fun v277 =>
    (asI σ275 v277 (((41 : Int32) * x1) + (2 : Int32)) (2 : Int32)).bind fun σ287 =>
    fMo_init_259 x0 (x1 + (1 : Int32)) σ287
  := (blk_eq sMo_init 169 _).trans rfl

-- MeshRoomModel.in(III)Z
noncomputable def fMo_in_14 (σ : Hp) : Option Rs := rF (mMo_in, 14, [], [], σ)
noncomputable def fMo_in_15 (s0 : Int32) (σ : Hp) : Option Rs := rF (mMo_in, 15, [], [sI s0], σ)
set_option maxRecDepth 100000 in
set_option maxHeartbeats 4000000 in
theorem eMo_in (x0 : Int32) (x1 : Int32) (x2 : Int32) (σ : Hp) : rF (mMo_in, 0, [(0, sI x0), (1, sI x1), (2, sI x2)], [], σ) =
  if x0 < x1 then
    fMo_in_14 σ
  else
    if x2 < x0 then
      fMo_in_14 σ
    else
      fMo_in_15 (1 : Int32) σ
  := (blk_eq sMo_in 15 _).trans rfl
set_option maxRecDepth 100000 in
set_option maxHeartbeats 4000000 in
theorem eMo_in_14 (σ : Hp) : fMo_in_14 σ =
  fMo_in_15 (0 : Int32) σ
  := (blk_eq sMo_in 15 _).trans rfl
set_option maxRecDepth 100000 in
set_option maxHeartbeats 4000000 in
theorem eMo_in_15 (s0 : Int32) (σ : Hp) : fMo_in_15 s0 σ =
  rz s0 σ
  := (blk_eq sMo_in 15 _).trans rfl

-- MeshRoomModel.has(JI)Z
noncomputable def fMo_has_15 (s0 : Int32) (σ : Hp) : Option Rs := rF (mMo_has, 15, [], [sI s0], σ)
set_option maxRecDepth 100000 in
set_option maxHeartbeats 4000000 in
theorem eMo_has (x0 : Int64) (x2 : Int32) (σ : Hp) : rF (mMo_has, 0, [(0, sJ x0), (2, sI x2)], [], σ) =
  if ¬ (lg_cmp ((x0 >>> (Int32.toInt64 x2 &&& 63)) &&& (1 : Int64)) (1 : Int64)) = 0 then
    fMo_has_15 (0 : Int32) σ
  else
    fMo_has_15 (1 : Int32) σ
  := (blk_eq sMo_has 17 _).trans rfl
set_option maxRecDepth 100000 in
set_option maxHeartbeats 4000000 in
theorem eMo_has_15 (s0 : Int32) (σ : Hp) : fMo_has_15 s0 σ =
  rz s0 σ
  := (blk_eq sMo_has 17 _).trans rfl

-- MeshRoomModel.isEvent(I)Z
set_option maxRecDepth 100000 in
set_option maxHeartbeats 4000000 in
theorem eMo_isEvent (x0 : Option Nat) (x1 : Int32) (σ : Hp) : rF (mMo_isEvent, 0, [(0, sA x0), (1, sI x1)], [], σ) =
  (gfI σ x0 8 2).bind fun v3 =>
  (cI rF nMo_in [sI x1, sI (1 : Int32), sI v3] σ).bind fun q6 =>
  rz q6.1 q6.2
  := (blk_eq sMo_isEvent 11 _).trans rfl

-- MeshRoomModel.key(I)I
noncomputable def fMo_key_64 (s0 : Int32) (σ : Hp) : Option Rs := rF (mMo_key, 64, [], [sI s0], σ)
set_option maxRecDepth 100000 in
set_option maxHeartbeats 4000000 in
theorem eMo_key (x0 : Option Nat) (x1 : Int32) (σ : Hp) : rF (mMo_key, 0, [(0, sA x0), (1, sI x1)], [], σ) =
  (gfA σ x0 8 3).bind fun v1 =>
  (alI σ v1 x1).bind fun v5 =>
  if ¬ v5 = 0 then
    (gfA σ x0 8 3).bind fun v14 =>
    (alI σ v14 x1).bind fun v18 =>
    if ¬ v18 = (5 : Int32) then
      (gfA σ x0 8 3).bind fun v28 =>
      (alI σ v28 x1).bind fun v32 =>
      if ¬ v32 = (6 : Int32) then
        (gfA σ x0 8 3).bind fun v43 =>
        (alI σ v43 x1).bind fun v47 =>
        if (4 : Int32) < v47 then
          fMo_key_64 (-1 : Int32) σ
        else
          (gfA σ x0 8 5).bind fun v54 =>
          (alI σ v54 x1).bind fun v58 =>
          fMo_key_64 ((3 : Int32) + v58) σ
      else
        fMo_key_64 (2 : Int32) σ
    else
      fMo_key_64 (1 : Int32) σ
  else
    fMo_key_64 (0 : Int32) σ
  := (blk_eq sMo_key 43 _).trans rfl
set_option maxRecDepth 100000 in
set_option maxHeartbeats 4000000 in
theorem eMo_key_64 (s0 : Int32) (σ : Hp) : fMo_key_64 s0 σ =
  some (some (sI s0), σ)
  := (blk_eq sMo_key 43 _).trans rfl

-- MeshRoomModel.membership([II)I
noncomputable def fMo_membership_22 (s0 : Int32) (σ : Hp) : Option Rs := rF (mMo_membership, 22, [], [sI s0], σ)
set_option maxRecDepth 100000 in
set_option maxHeartbeats 4000000 in
theorem eMo_membership (x0 : Option Nat) (x1 : Option Nat) (x2 : Int32) (σ : Hp) : rF (mMo_membership, 0, [(0, sA x0), (1, sA x1), (2, sI x2)], [], σ) =
  (alI σ x1 ((3 : Int32) + x2)).bind fun v4 =>
  if ¬ v4 = 0 then
    (gfA σ x0 8 3).bind fun v13 =>
    (alI σ x1 ((3 : Int32) + x2)).bind fun v20 =>
    (alI σ v13 v20).bind fun v21 =>
    fMo_membership_22 v21 σ
  else
    fMo_membership_22 (0 : Int32) σ
  := (blk_eq sMo_membership 22 _).trans rfl
set_option maxRecDepth 100000 in
set_option maxHeartbeats 4000000 in
theorem eMo_membership_22 (s0 : Int32) (σ : Hp) : fMo_membership_22 s0 σ =
  some (some (sI s0), σ)
  := (blk_eq sMo_membership 22 _).trans rfl

-- MeshRoomModel.level([II)I
noncomputable def fMo_level_32 (s0 : Int32) (σ : Hp) : Option Rs := rF (mMo_level, 32, [], [sI s0], σ)
set_option maxRecDepth 100000 in
set_option maxHeartbeats 4000000 in
theorem eMo_level (x0 : Option Nat) (x1 : Option Nat) (x2 : Int32) (σ : Hp) : rF (mMo_level, 0, [(0, sA x0), (1, sA x1), (2, sI x2)], [], σ) =
  (alI σ x1 (1 : Int32)).bind fun v2 =>
  if v2 ≤ 0 then
    if ¬ x2 = 0 then
      fMo_level_32 (0 : Int32) σ
    else
      fMo_level_32 (3 : Int32) σ
  else
    (gfA σ x0 8 6).bind fun v7 =>
    (alI σ x1 (1 : Int32)).bind fun v12 =>
    (alI σ v7 v12).bind fun v13 =>
    fMo_level_32 ((v13 >>> (((2 : Int32) * x2) &&& 31)) &&& (3 : Int32)) σ
  := (blk_eq sMo_level 28 _).trans rfl
set_option maxRecDepth 100000 in
set_option maxHeartbeats 4000000 in
theorem eMo_level_32 (s0 : Int32) (σ : Hp) : fMo_level_32 s0 σ =
  some (some (sI s0), σ)
  := (blk_eq sMo_level 28 _).trans rfl

-- MeshRoomModel.joins(I[I)Z
noncomputable def fMo_joins_38 (x0 : Option Nat) (x1 : Int32) (x2 : Option Nat) (x3 : Int32) (σ : Hp) : Option Rs := rF (mMo_joins, 38, [(0, sA x0), (1, sI x1), (2, sA x2), (3, sI x3)], [], σ)
noncomputable def fMo_joins_39 (x0 : Option Nat) (x1 : Int32) (x2 : Option Nat) (x3 : Int32) (s0 : Int32) (σ : Hp) : Option Rs := rF (mMo_joins, 39, [(0, sA x0), (1, sI x1), (2, sA x2), (3, sI x3)], [sI s0], σ)
noncomputable def fMo_joins_63 (x0 : Option Nat) (x1 : Int32) (x3 : Int32) (x4 : Int32) (σ : Hp) : Option Rs := rF (mMo_joins, 63, [(0, sA x0), (1, sI x1), (3, sI x3), (4, sI x4)], [], σ)
noncomputable def fMo_joins_64 (x0 : Option Nat) (x1 : Int32) (x3 : Int32) (x4 : Int32) (s0 : Int32) (σ : Hp) : Option Rs := rF (mMo_joins, 64, [(0, sA x0), (1, sI x1), (3, sI x3), (4, sI x4)], [sI s0], σ)
noncomputable def fMo_joins_106 (σ : Hp) : Option Rs := rF (mMo_joins, 106, [], [], σ)
noncomputable def fMo_joins_110 (σ : Hp) : Option Rs := rF (mMo_joins, 110, [], [], σ)
noncomputable def fMo_joins_111 (s0 : Int32) (σ : Hp) : Option Rs := rF (mMo_joins, 111, [], [sI s0], σ)
set_option maxRecDepth 100000 in
set_option maxHeartbeats 4000000 in
theorem eMo_joins (x0 : Option Nat) (x1 : Int32) (x2 : Option Nat) (σ : Hp) : rF (mMo_joins, 0, [(0, sA x0), (1, sI x1), (2, sA x2)], [], σ) =
  (gfA σ x0 8 5).bind fun v3 =>
  (alI σ v3 x1).bind fun v7 =>
  (rcv σ [sA x0, sA x2, sI v7] 8).bind fun _ =>
  (cI rF nMo_membership [sA x0, sA x2, sI v7] σ).bind fun q8 =>
  (gfA q8.2 x0 8 8).bind fun v13 =>
  (alJ q8.2 v13 x1).bind fun v17 =>
  if ¬ (lg_cmp v17 (2 : Int64)) = 0 then
    fMo_joins_38 x0 x1 x2 q8.1 q8.2
  else
    (gfA q8.2 x0 8 4).bind fun v26 =>
    (alI q8.2 v26 x1).bind fun v30 =>
    if ¬ v30 = 0 then
      fMo_joins_38 x0 x1 x2 q8.1 q8.2
    else
      fMo_joins_39 x0 x1 x2 q8.1 (1 : Int32) q8.2
  := (blk_eq sMo_joins 71 _).trans rfl
set_option maxRecDepth 100000 in
set_option maxHeartbeats 4000000 in
theorem eMo_joins_38 (x0 : Option Nat) (x1 : Int32) (x2 : Option Nat) (x3 : Int32) (σ : Hp) : fMo_joins_38 x0 x1 x2 x3 σ =
  fMo_joins_39 x0 x1 x2 x3 (0 : Int32) σ
  := (blk_eq sMo_joins 71 _).trans rfl
set_option maxRecDepth 100000 in
set_option maxHeartbeats 4000000 in
theorem eMo_joins_39 (x0 : Option Nat) (x1 : Int32) (x2 : Option Nat) (x3 : Int32) (s0 : Int32) (σ : Hp) : fMo_joins_39 x0 x1 x2 x3 s0 σ =
  (alI σ x2 (2 : Int32)).bind fun v43 =>
  if v43 ≤ 0 then
    fMo_joins_63 x0 x1 x3 s0 σ
  else
    (gfA σ x0 8 6).bind fun v48 =>
    (alI σ x2 (2 : Int32)).bind fun v53 =>
    (alI σ v48 v53).bind fun v54 =>
    if ¬ v54 = (1 : Int32) then
      fMo_joins_63 x0 x1 x3 s0 σ
    else
      fMo_joins_64 x0 x1 x3 s0 (1 : Int32) σ
  := (blk_eq sMo_joins 71 _).trans rfl
set_option maxRecDepth 100000 in
set_option maxHeartbeats 4000000 in
theorem eMo_joins_63 (x0 : Option Nat) (x1 : Int32) (x3 : Int32) (x4 : Int32) (σ : Hp) : fMo_joins_63 x0 x1 x3 x4 σ =
  fMo_joins_64 x0 x1 x3 x4 (0 : Int32) σ
  := (blk_eq sMo_joins 71 _).trans rfl
set_option maxRecDepth 100000 in
set_option maxHeartbeats 4000000 in
theorem eMo_joins_64 (x0 : Option Nat) (x1 : Int32) (x3 : Int32) (x4 : Int32) (s0 : Int32) (σ : Hp) : fMo_joins_64 x0 x1 x3 x4 s0 σ =
  (gfA σ x0 8 4).bind fun v67 =>
  (alI σ v67 x1).bind fun v71 =>
  (gfA σ x0 8 5).bind fun v73 =>
  (alI σ v73 x1).bind fun v77 =>
  if ¬ v71 = v77 then
    fMo_joins_110 σ
  else
    if x3 = (4 : Int32) then
      fMo_joins_110 σ
    else
      if ¬ s0 = 0 then
        fMo_joins_106 σ
      else
        if x3 = (1 : Int32) then
          fMo_joins_106 σ
        else
          if x3 = (2 : Int32) then
            fMo_joins_106 σ
          else
            if x4 = 0 then
              fMo_joins_110 σ
            else
              fMo_joins_106 σ
  := (blk_eq sMo_joins 71 _).trans rfl
set_option maxRecDepth 100000 in
set_option maxHeartbeats 4000000 in
theorem eMo_joins_106 (σ : Hp) : fMo_joins_106 σ =
  fMo_joins_111 (1 : Int32) σ
  := (blk_eq sMo_joins 71 _).trans rfl
set_option maxRecDepth 100000 in
set_option maxHeartbeats 4000000 in
theorem eMo_joins_110 (σ : Hp) : fMo_joins_110 σ =
  fMo_joins_111 (0 : Int32) σ
  := (blk_eq sMo_joins 71 _).trans rfl
set_option maxRecDepth 100000 in
set_option maxHeartbeats 4000000 in
theorem eMo_joins_111 (s0 : Int32) (σ : Hp) : fMo_joins_111 s0 σ =
  rz s0 σ
  := (blk_eq sMo_joins 71 _).trans rfl

-- MeshRoomModel.levels(I[I)Z
noncomputable def fMo_levels_15 (x0 : Option Nat) (x1 : Int32) (x2 : Option Nat) (x3 : Int32) (x4 : Int32) (σ : Hp) : Option Rs := rF (mMo_levels, 15, [(0, sA x0), (1, sI x1), (2, sA x2), (3, sI x3), (4, sI x4)], [], σ)
noncomputable def fMo_levels_76 (σ : Hp) : Option Rs := rF (mMo_levels, 76, [], [], σ)
noncomputable def fMo_levels_78 (x0 : Option Nat) (x1 : Int32) (x2 : Option Nat) (x3 : Int32) (x4 : Int32) (σ : Hp) : Option Rs := rF (mMo_levels, 78, [(0, sA x0), (1, sI x1), (2, sA x2), (3, sI x3), (4, sI x4)], [], σ)
set_option maxRecDepth 100000 in
set_option maxHeartbeats 4000000 in
theorem eMo_levels (x0 : Option Nat) (x1 : Int32) (x2 : Option Nat) (σ : Hp) : rF (mMo_levels, 0, [(0, sA x0), (1, sI x1), (2, sA x2)], [], σ) =
  (gfA σ x0 8 4).bind fun v3 =>
  (alI σ v3 x1).bind fun v7 =>
  (rcv σ [sA x0, sA x2, sI v7] 8).bind fun _ =>
  (cI rF nMo_level [sA x0, sA x2, sI v7] σ).bind fun q8 =>
  fMo_levels_15 x0 x1 x2 q8.1 (0 : Int32) q8.2
  := (blk_eq sMo_levels 55 _).trans rfl
set_option maxRecDepth 100000 in
set_option maxHeartbeats 4000000 in
theorem eMo_levels_15 (x0 : Option Nat) (x1 : Int32) (x2 : Option Nat) (x3 : Int32) (x4 : Int32) (σ : Hp) : fMo_levels_15 x0 x1 x2 x3 x4 σ =
  if (6 : Int32) ≤ x4 then
    rz (1 : Int32) σ
  else
    (gfA σ x0 8 6).bind fun v23 =>
    (alI σ v23 x1).bind fun v27 =>
    (rcv σ [sA x0, sA x2, sI x4] 8).bind fun _ =>
    (cI rF nMo_level [sA x0, sA x2, sI x4] σ).bind fun q41 =>
    if ((v27 >>> (((2 : Int32) * x4) &&& 31)) &&& (3 : Int32)) = q41.1 then
      fMo_levels_78 x0 x1 x2 x3 x4 q41.2
    else
      if x3 < ((v27 >>> (((2 : Int32) * x4) &&& 31)) &&& (3 : Int32)) then
        fMo_levels_76 q41.2
      else
        if q41.1 < x3 then
          fMo_levels_78 x0 x1 x2 x3 x4 q41.2
        else
          (gfA q41.2 x0 8 4).bind fun v68 =>
          (alI q41.2 v68 x1).bind fun v72 =>
          if x4 = v72 then
            fMo_levels_78 x0 x1 x2 x3 x4 q41.2
          else
            fMo_levels_76 q41.2
  := (blk_eq sMo_levels 55 _).trans rfl
set_option maxRecDepth 100000 in
set_option maxHeartbeats 4000000 in
theorem eMo_levels_76 (σ : Hp) : fMo_levels_76 σ =
  rz (0 : Int32) σ
  := (blk_eq sMo_levels 55 _).trans rfl
set_option maxRecDepth 100000 in
set_option maxHeartbeats 4000000 in
theorem eMo_levels_78 (x0 : Option Nat) (x1 : Int32) (x2 : Option Nat) (x3 : Int32) (x4 : Int32) (σ : Hp) : fMo_levels_78 x0 x1 x2 x3 x4 σ =
  fMo_levels_15 x0 x1 x2 x3 (x4 + (1 : Int32)) σ
  := (blk_eq sMo_levels 55 _).trans rfl

-- MeshRoomModel.allowed(I[I)Z
noncomputable def fMo_allowed_77 (x0 : Option Nat) (x1 : Int32) (x2 : Option Nat) (x3 : Int32) (x4 : Int32) (x5 : Int32) (σ : Hp) : Option Rs := rF (mMo_allowed, 77, [(0, sA x0), (1, sI x1), (2, sA x2), (3, sI x3), (4, sI x4), (5, sI x5)], [], σ)
noncomputable def fMo_allowed_78 (x0 : Option Nat) (x1 : Int32) (x2 : Option Nat) (x3 : Int32) (x4 : Int32) (x5 : Int32) (s0 : Int32) (σ : Hp) : Option Rs := rF (mMo_allowed, 78, [(0, sA x0), (1, sI x1), (2, sA x2), (3, sI x3), (4, sI x4), (5, sI x5)], [sI s0], σ)
noncomputable def fMo_allowed_128 (σ : Hp) : Option Rs := rF (mMo_allowed, 128, [], [], σ)
noncomputable def fMo_allowed_130 (x0 : Option Nat) (x1 : Int32) (x2 : Option Nat) (σ : Hp) : Option Rs := rF (mMo_allowed, 130, [(0, sA x0), (1, sI x1), (2, sA x2)], [], σ)
noncomputable def fMo_allowed_137 (x3 : Int32) (x4 : Int32) (σ : Hp) : Option Rs := rF (mMo_allowed, 137, [(3, sI x3), (4, sI x4)], [], σ)
noncomputable def fMo_allowed_158 (σ : Hp) : Option Rs := rF (mMo_allowed, 158, [], [], σ)
noncomputable def fMo_allowed_159 (s0 : Int32) (σ : Hp) : Option Rs := rF (mMo_allowed, 159, [], [sI s0], σ)
noncomputable def fMo_allowed_160 (x0 : Option Nat) (x1 : Int32) (x3 : Int32) (x4 : Int32) (x6 : Int32) (σ : Hp) : Option Rs := rF (mMo_allowed, 160, [(0, sA x0), (1, sI x1), (3, sI x3), (4, sI x4), (6, sI x6)], [], σ)
noncomputable def fMo_allowed_185 (σ : Hp) : Option Rs := rF (mMo_allowed, 185, [], [], σ)
noncomputable def fMo_allowed_216 (σ : Hp) : Option Rs := rF (mMo_allowed, 216, [], [], σ)
noncomputable def fMo_allowed_220 (σ : Hp) : Option Rs := rF (mMo_allowed, 220, [], [], σ)
noncomputable def fMo_allowed_221 (s0 : Int32) (σ : Hp) : Option Rs := rF (mMo_allowed, 221, [], [sI s0], σ)
noncomputable def fMo_allowed_222 (x6 : Int32) (σ : Hp) : Option Rs := rF (mMo_allowed, 222, [(6, sI x6)], [], σ)
noncomputable def fMo_allowed_225 (x0 : Option Nat) (x1 : Int32) (x2 : Option Nat) (x3 : Int32) (x5 : Int32) (σ : Hp) : Option Rs := rF (mMo_allowed, 225, [(0, sA x0), (1, sI x1), (2, sA x2), (3, sI x3), (5, sI x5)], [], σ)
noncomputable def fMo_allowed_249 (σ : Hp) : Option Rs := rF (mMo_allowed, 249, [], [], σ)
noncomputable def fMo_allowed_250 (s0 : Int32) (σ : Hp) : Option Rs := rF (mMo_allowed, 250, [], [sI s0], σ)
noncomputable def fMo_allowed_251 (x3 : Int32) (x5 : Int32) (σ : Hp) : Option Rs := rF (mMo_allowed, 251, [(3, sI x3), (5, sI x5)], [], σ)
noncomputable def fMo_allowed_266 (σ : Hp) : Option Rs := rF (mMo_allowed, 266, [], [], σ)
noncomputable def fMo_allowed_267 (s0 : Int32) (σ : Hp) : Option Rs := rF (mMo_allowed, 267, [], [sI s0], σ)
noncomputable def fMo_allowed_278 (s0 : Int32) (σ : Hp) : Option Rs := rF (mMo_allowed, 278, [], [sI s0], σ)
set_option maxRecDepth 100000 in
set_option maxHeartbeats 4000000 in
theorem eMo_allowed (x0 : Option Nat) (x1 : Int32) (x2 : Option Nat) (σ : Hp) : rF (mMo_allowed, 0, [(0, sA x0), (1, sI x1), (2, sA x2)], [], σ) =
  (alI σ x2 (0 : Int32)).bind fun v2 =>
  if ¬ v2 = 0 then
    (gfA σ x0 8 4).bind fun v11 =>
    (alI σ v11 x1).bind fun v15 =>
    (rcv σ [sA x0, sA x2, sI v15] 8).bind fun _ =>
    (cI rF nMo_membership [sA x0, sA x2, sI v15] σ).bind fun q16 =>
    (gfA q16.2 x0 8 5).bind fun v23 =>
    (alI q16.2 v23 x1).bind fun v27 =>
    (rcv q16.2 [sA x0, sA x2, sI v27] 8).bind fun _ =>
    (cI rF nMo_membership [sA x0, sA x2, sI v27] q16.2).bind fun q28 =>
    (gfA q28.2 x0 8 4).bind fun v36 =>
    (alI q28.2 v36 x1).bind fun v40 =>
    (rcv q28.2 [sA x0, sA x2, sI v40] 8).bind fun _ =>
    (cI rF nMo_level [sA x0, sA x2, sI v40] q28.2).bind fun q41 =>
    if ¬ q16.1 = (1 : Int32) then
      fMo_allowed_77 x0 x1 x2 q16.1 q28.1 q41.1 q41.2
    else
      if q41.1 < (2 : Int32) then
        fMo_allowed_77 x0 x1 x2 q16.1 q28.1 q41.1 q41.2
      else
        (gfA q41.2 x0 8 5).bind fun v62 =>
        (alI q41.2 v62 x1).bind fun v66 =>
        (rcv q41.2 [sA x0, sA x2, sI v66] 8).bind fun _ =>
        (cI rF nMo_level [sA x0, sA x2, sI v66] q41.2).bind fun q67 =>
        if q41.1 ≤ q67.1 then
          fMo_allowed_77 x0 x1 x2 q16.1 q28.1 q41.1 q67.2
        else
          fMo_allowed_78 x0 x1 x2 q16.1 q28.1 q41.1 (1 : Int32) q67.2
  else
    rz (0 : Int32) σ
  := (blk_eq sMo_allowed 147 _).trans rfl
set_option maxRecDepth 100000 in
set_option maxHeartbeats 4000000 in
theorem eMo_allowed_77 (x0 : Option Nat) (x1 : Int32) (x2 : Option Nat) (x3 : Int32) (x4 : Int32) (x5 : Int32) (σ : Hp) : fMo_allowed_77 x0 x1 x2 x3 x4 x5 σ =
  fMo_allowed_78 x0 x1 x2 x3 x4 x5 (0 : Int32) σ
  := (blk_eq sMo_allowed 147 _).trans rfl
set_option maxRecDepth 100000 in
set_option maxHeartbeats 4000000 in
theorem eMo_allowed_78 (x0 : Option Nat) (x1 : Int32) (x2 : Option Nat) (x3 : Int32) (x4 : Int32) (x5 : Int32) (s0 : Int32) (σ : Hp) : fMo_allowed_78 x0 x1 x2 x3 x4 x5 s0 σ =
  (gfA σ x0 8 3).bind fun v81 =>
  (alI σ v81 x1).bind fun v85 =>
  if v85 = (0 : Int32) then
    fMo_allowed_128 σ
  else
   if v85 = (1 : Int32) then
    fMo_allowed_130 x0 x1 x2 σ
   else
    if v85 = (2 : Int32) then
    fMo_allowed_137 x3 x4 σ
    else
     if v85 = (3 : Int32) then
    fMo_allowed_160 x0 x1 x3 x4 s0 σ
     else
      if v85 = (4 : Int32) then
    fMo_allowed_222 s0 σ
      else
       if v85 = (5 : Int32) then
    fMo_allowed_225 x0 x1 x2 x3 x5 σ
       else
        if v85 = (6 : Int32) then
    fMo_allowed_251 x3 x5 σ
        else
          if ¬ x3 = (1 : Int32) then
            fMo_allowed_278 (0 : Int32) σ
          else
            fMo_allowed_278 (1 : Int32) σ
  := (blk_eq sMo_allowed 147 _).trans rfl
set_option maxRecDepth 100000 in
set_option maxHeartbeats 4000000 in
theorem eMo_allowed_128 (σ : Hp) : fMo_allowed_128 σ =
  rz (1 : Int32) σ
  := (blk_eq sMo_allowed 147 _).trans rfl
set_option maxRecDepth 100000 in
set_option maxHeartbeats 4000000 in
theorem eMo_allowed_130 (x0 : Option Nat) (x1 : Int32) (x2 : Option Nat) (σ : Hp) : fMo_allowed_130 x0 x1 x2 σ =
  (rcv σ [sA x0, sI x1, sA x2] 8).bind fun _ =>
  (cI rF nMo_joins [sA x0, sI x1, sA x2] σ).bind fun q133 =>
  rz q133.1 q133.2
  := (blk_eq sMo_allowed 147 _).trans rfl
set_option maxRecDepth 100000 in
set_option maxHeartbeats 4000000 in
theorem eMo_allowed_137 (x3 : Int32) (x4 : Int32) (σ : Hp) : fMo_allowed_137 x3 x4 σ =
  if ¬ x3 = (1 : Int32) then
    fMo_allowed_158 σ
  else
    if x4 = (1 : Int32) then
      fMo_allowed_158 σ
    else
      if x4 = (4 : Int32) then
        fMo_allowed_158 σ
      else
        fMo_allowed_159 (1 : Int32) σ
  := (blk_eq sMo_allowed 147 _).trans rfl
set_option maxRecDepth 100000 in
set_option maxHeartbeats 4000000 in
theorem eMo_allowed_158 (σ : Hp) : fMo_allowed_158 σ =
  fMo_allowed_159 (0 : Int32) σ
  := (blk_eq sMo_allowed 147 _).trans rfl
set_option maxRecDepth 100000 in
set_option maxHeartbeats 4000000 in
theorem eMo_allowed_159 (s0 : Int32) (σ : Hp) : fMo_allowed_159 s0 σ =
  rz s0 σ
  := (blk_eq sMo_allowed 147 _).trans rfl
set_option maxRecDepth 100000 in
set_option maxHeartbeats 4000000 in
theorem eMo_allowed_160 (x0 : Option Nat) (x1 : Int32) (x3 : Int32) (x4 : Int32) (x6 : Int32) (σ : Hp) : fMo_allowed_160 x0 x1 x3 x4 x6 σ =
  (gfA σ x0 8 4).bind fun v161 =>
  (alI σ v161 x1).bind fun v165 =>
  (gfA σ x0 8 5).bind fun v167 =>
  (alI σ v167 x1).bind fun v171 =>
  if ¬ v165 = v171 then
    if x6 = 0 then
      fMo_allowed_220 σ
    else
      if x4 = (1 : Int32) then
        fMo_allowed_216 σ
      else
        if x4 = (2 : Int32) then
          fMo_allowed_216 σ
        else
          if ¬ x4 = (4 : Int32) then
            fMo_allowed_220 σ
          else
            fMo_allowed_216 σ
  else
    if x3 = (1 : Int32) then
      fMo_allowed_185 σ
    else
      if ¬ x3 = (2 : Int32) then
        fMo_allowed_221 (0 : Int32) σ
      else
        fMo_allowed_185 σ
  := (blk_eq sMo_allowed 147 _).trans rfl
set_option maxRecDepth 100000 in
set_option maxHeartbeats 4000000 in
theorem eMo_allowed_185 (σ : Hp) : fMo_allowed_185 σ =
  fMo_allowed_221 (1 : Int32) σ
  := (blk_eq sMo_allowed 147 _).trans rfl
set_option maxRecDepth 100000 in
set_option maxHeartbeats 4000000 in
theorem eMo_allowed_216 (σ : Hp) : fMo_allowed_216 σ =
  fMo_allowed_221 (1 : Int32) σ
  := (blk_eq sMo_allowed 147 _).trans rfl
set_option maxRecDepth 100000 in
set_option maxHeartbeats 4000000 in
theorem eMo_allowed_220 (σ : Hp) : fMo_allowed_220 σ =
  fMo_allowed_221 (0 : Int32) σ
  := (blk_eq sMo_allowed 147 _).trans rfl
set_option maxRecDepth 100000 in
set_option maxHeartbeats 4000000 in
theorem eMo_allowed_221 (s0 : Int32) (σ : Hp) : fMo_allowed_221 s0 σ =
  rz s0 σ
  := (blk_eq sMo_allowed 147 _).trans rfl
set_option maxRecDepth 100000 in
set_option maxHeartbeats 4000000 in
theorem eMo_allowed_222 (x6 : Int32) (σ : Hp) : fMo_allowed_222 x6 σ =
  rz x6 σ
  := (blk_eq sMo_allowed 147 _).trans rfl
set_option maxRecDepth 100000 in
set_option maxHeartbeats 4000000 in
theorem eMo_allowed_225 (x0 : Option Nat) (x1 : Int32) (x2 : Option Nat) (x3 : Int32) (x5 : Int32) (σ : Hp) : fMo_allowed_225 x0 x1 x2 x3 x5 σ =
  if ¬ x3 = (1 : Int32) then
    fMo_allowed_249 σ
  else
    if x5 < (2 : Int32) then
      fMo_allowed_249 σ
    else
      (rcv σ [sA x0, sI x1, sA x2] 8).bind fun _ =>
      (cI rF nMo_levels [sA x0, sI x1, sA x2] σ).bind fun q239 =>
      if q239.1 = 0 then
        fMo_allowed_249 q239.2
      else
        fMo_allowed_250 (1 : Int32) q239.2
  := (blk_eq sMo_allowed 147 _).trans rfl
set_option maxRecDepth 100000 in
set_option maxHeartbeats 4000000 in
theorem eMo_allowed_249 (σ : Hp) : fMo_allowed_249 σ =
  fMo_allowed_250 (0 : Int32) σ
  := (blk_eq sMo_allowed 147 _).trans rfl
set_option maxRecDepth 100000 in
set_option maxHeartbeats 4000000 in
theorem eMo_allowed_250 (s0 : Int32) (σ : Hp) : fMo_allowed_250 s0 σ =
  rz s0 σ
  := (blk_eq sMo_allowed 147 _).trans rfl
set_option maxRecDepth 100000 in
set_option maxHeartbeats 4000000 in
theorem eMo_allowed_251 (x3 : Int32) (x5 : Int32) (σ : Hp) : fMo_allowed_251 x3 x5 σ =
  if ¬ x3 = (1 : Int32) then
    fMo_allowed_266 σ
  else
    if x5 < (2 : Int32) then
      fMo_allowed_266 σ
    else
      fMo_allowed_267 (1 : Int32) σ
  := (blk_eq sMo_allowed 147 _).trans rfl
set_option maxRecDepth 100000 in
set_option maxHeartbeats 4000000 in
theorem eMo_allowed_266 (σ : Hp) : fMo_allowed_266 σ =
  fMo_allowed_267 (0 : Int32) σ
  := (blk_eq sMo_allowed 147 _).trans rfl
set_option maxRecDepth 100000 in
set_option maxHeartbeats 4000000 in
theorem eMo_allowed_267 (s0 : Int32) (σ : Hp) : fMo_allowed_267 s0 σ =
  rz s0 σ
  := (blk_eq sMo_allowed 147 _).trans rfl
set_option maxRecDepth 100000 in
set_option maxHeartbeats 4000000 in
theorem eMo_allowed_278 (s0 : Int32) (σ : Hp) : fMo_allowed_278 s0 σ =
  rz s0 σ
  := (blk_eq sMo_allowed 147 _).trans rfl

-- MeshRoomModel.gather(I)V
noncomputable def fMo_gather_2 (x0 : Option Nat) (x1 : Int32) (x2 : Int32) (σ : Hp) : Option Rs := rF (mMo_gather, 2, [(0, sA x0), (1, sI x1), (2, sI x2)], [], σ)
noncomputable def fMo_gather_23 (x0 : Option Nat) (x1 : Int32) (x2 : Int32) (σ : Hp) : Option Rs := rF (mMo_gather, 23, [(0, sA x0), (1, sI x1), (2, sI x2)], [], σ)
noncomputable def fMo_gather_53 (x0 : Option Nat) (x1 : Int32) (x2 : Int32) (σ : Hp) : Option Rs := rF (mMo_gather, 53, [(0, sA x0), (1, sI x1), (2, sI x2)], [], σ)
set_option maxRecDepth 100000 in
set_option maxHeartbeats 4000000 in
theorem eMo_gather (x0 : Option Nat) (x1 : Int32) (σ : Hp) : rF (mMo_gather, 0, [(0, sA x0), (1, sI x1)], [], σ) =
  fMo_gather_2 x0 x1 (0 : Int32) σ
  := (blk_eq sMo_gather 39 _).trans rfl
set_option maxRecDepth 100000 in
set_option maxHeartbeats 4000000 in
theorem eMo_gather_2 (x0 : Option Nat) (x1 : Int32) (x2 : Int32) (σ : Hp) : fMo_gather_2 x0 x1 x2 σ =
  if (9 : Int32) ≤ x2 then
    fMo_gather_23 x0 x1 (1 : Int32) σ
  else
    (gfA σ x0 8 15).bind fun v9 =>
    (asI σ v9 x2 (0 : Int32)).bind fun σ14 =>
    fMo_gather_2 x0 x1 (x2 + (1 : Int32)) σ14
  := (blk_eq sMo_gather 39 _).trans rfl
set_option maxRecDepth 100000 in
set_option maxHeartbeats 4000000 in
theorem eMo_gather_23 (x0 : Option Nat) (x1 : Int32) (x2 : Int32) (σ : Hp) : fMo_gather_23 x0 x1 x2 σ =
  if (41 : Int32) ≤ x2 then
    some (none, σ)
  else
    (gfA σ x0 8 9).bind fun v30 =>
    (alJ σ v30 x1).bind fun v34 =>
    (cI rF nMo_has [sJ v34, sI x2] σ).bind fun q36 =>
    if q36.1 = 0 then
      fMo_gather_53 x0 x1 x2 q36.2
    else
      (gfA q36.2 x0 8 15).bind fun v43 =>
      (rcv q36.2 [sA x0, sI x2] 8).bind fun _ =>
      (cI rF nMo_key [sA x0, sI x2] q36.2).bind fun q48 =>
      (asI q48.2 v43 q48.1 x2).bind fun σ52 =>
      fMo_gather_53 x0 x1 x2 σ52
  := (blk_eq sMo_gather 39 _).trans rfl
set_option maxRecDepth 100000 in
set_option maxHeartbeats 4000000 in
theorem eMo_gather_53 (x0 : Option Nat) (x1 : Int32) (x2 : Int32) (σ : Hp) : fMo_gather_53 x0 x1 x2 σ =
  fMo_gather_23 x0 x1 (x2 + (1 : Int32)) σ
  := (blk_eq sMo_gather 39 _).trans rfl

-- MeshRoomModel.tryIt(I)V
noncomputable def fMo_tryIt_7 (x0 : Option Nat) (x1 : Int32) (x2 : Int32) (σ : Hp) : Option Rs := rF (mMo_tryIt, 7, [(0, sA x0), (1, sI x1), (2, sI x2)], [], σ)
noncomputable def fMo_tryIt_42 (x0 : Option Nat) (x1 : Int32) (x2 : Int32) (s0 : Option Nat) (s1 : Int32) (s2 : Int32) (σ : Hp) : Option Rs := rF (mMo_tryIt, 42, [(0, sA x0), (1, sI x1), (2, sI x2)], [sI s2, sI s1, sA s0], σ)
noncomputable def fMo_tryIt_72 (σ : Hp) : Option Rs := rF (mMo_tryIt, 72, [], [], σ)
set_option maxRecDepth 100000 in
set_option maxHeartbeats 4000000 in
theorem eMo_tryIt (x0 : Option Nat) (x1 : Int32) (σ : Hp) : rF (mMo_tryIt, 0, [(0, sA x0), (1, sI x1)], [], σ) =
  (rcv σ [sA x0, sI x1] 8).bind fun _ =>
  (cV rF nMo_gather [sA x0, sI x1] σ).bind fun q2 =>
  fMo_tryIt_7 x0 x1 (0 : Int32) q2
  := (blk_eq sMo_tryIt 47 _).trans rfl
set_option maxRecDepth 100000 in
set_option maxHeartbeats 4000000 in
theorem eMo_tryIt_7 (x0 : Option Nat) (x1 : Int32) (x2 : Int32) (σ : Hp) : fMo_tryIt_7 x0 x1 x2 σ =
  if (9 : Int32) ≤ x2 then
    (gfA σ x0 8 14).bind fun v52 =>
    (rcv σ [sA x0, sI x1, sA v52] 8).bind fun _ =>
    (cI rF nMo_allowed [sA x0, sI x1, sA v52] σ).bind fun q55 =>
    if q55.1 = 0 then
      fMo_tryIt_72 q55.2
    else
      (gfA q55.2 x0 8 13).bind fun v62 =>
      (rcv q55.2 [sA x0, sI x1] 8).bind fun _ =>
      (cI rF nMo_key [sA x0, sI x1] q55.2).bind fun q67 =>
      (asI q67.2 v62 q67.1 x1).bind fun σ71 =>
      fMo_tryIt_72 σ71
  else
    (gfA σ x0 8 14).bind fun v14 =>
    (gfA σ x0 8 13).bind fun v19 =>
    (alI σ v19 x2).bind fun v23 =>
    if ¬ v23 = 0 then
      (gfA σ x0 8 13).bind fun v37 =>
      (alI σ v37 x2).bind fun v41 =>
      fMo_tryIt_42 x0 x1 x2 v14 x2 v41 σ
    else
      (gfA σ x0 8 15).bind fun v28 =>
      (alI σ v28 x2).bind fun v32 =>
      fMo_tryIt_42 x0 x1 x2 v14 x2 v32 σ
  := (blk_eq sMo_tryIt 47 _).trans rfl
set_option maxRecDepth 100000 in
set_option maxHeartbeats 4000000 in
theorem eMo_tryIt_42 (x0 : Option Nat) (x1 : Int32) (x2 : Int32) (s0 : Option Nat) (s1 : Int32) (s2 : Int32) (σ : Hp) : fMo_tryIt_42 x0 x1 x2 s0 s1 s2 σ =
  (asI σ s0 s1 s2).bind fun σ42 =>
  fMo_tryIt_7 x0 x1 (x2 + (1 : Int32)) σ42
  := (blk_eq sMo_tryIt 47 _).trans rfl
set_option maxRecDepth 100000 in
set_option maxHeartbeats 4000000 in
theorem eMo_tryIt_72 (σ : Hp) : fMo_tryIt_72 σ =
  some (none, σ)
  := (blk_eq sMo_tryIt 47 _).trans rfl

-- MeshRoomModel.heavy(I)Z
noncomputable def fMo_heavy_21 (x0 : Option Nat) (x1 : Int32) (σ : Hp) : Option Rs := rF (mMo_heavy, 21, [(0, sA x0), (1, sI x1)], [], σ)
noncomputable def fMo_heavy_46 (σ : Hp) : Option Rs := rF (mMo_heavy, 46, [], [], σ)
noncomputable def fMo_heavy_50 (σ : Hp) : Option Rs := rF (mMo_heavy, 50, [], [], σ)
noncomputable def fMo_heavy_51 (s0 : Int32) (σ : Hp) : Option Rs := rF (mMo_heavy, 51, [], [sI s0], σ)
set_option maxRecDepth 100000 in
set_option maxHeartbeats 4000000 in
theorem eMo_heavy (x0 : Option Nat) (x1 : Int32) (σ : Hp) : rF (mMo_heavy, 0, [(0, sA x0), (1, sI x1)], [], σ) =
  (gfA σ x0 8 3).bind fun v1 =>
  (alI σ v1 x1).bind fun v5 =>
  if v5 < (4 : Int32) then
    fMo_heavy_21 x0 x1 σ
  else
    (gfA σ x0 8 3).bind fun v11 =>
    (alI σ v11 x1).bind fun v15 =>
    if v15 ≤ (6 : Int32) then
      fMo_heavy_46 σ
    else
      fMo_heavy_21 x0 x1 σ
  := (blk_eq sMo_heavy 36 _).trans rfl
set_option maxRecDepth 100000 in
set_option maxHeartbeats 4000000 in
theorem eMo_heavy_21 (x0 : Option Nat) (x1 : Int32) (σ : Hp) : fMo_heavy_21 x0 x1 σ =
  (gfA σ x0 8 3).bind fun v22 =>
  (alI σ v22 x1).bind fun v26 =>
  if ¬ v26 = (3 : Int32) then
    fMo_heavy_50 σ
  else
    (gfA σ x0 8 4).bind fun v32 =>
    (alI σ v32 x1).bind fun v36 =>
    (gfA σ x0 8 5).bind fun v38 =>
    (alI σ v38 x1).bind fun v42 =>
    if v36 = v42 then
      fMo_heavy_50 σ
    else
      fMo_heavy_46 σ
  := (blk_eq sMo_heavy 36 _).trans rfl
set_option maxRecDepth 100000 in
set_option maxHeartbeats 4000000 in
theorem eMo_heavy_46 (σ : Hp) : fMo_heavy_46 σ =
  fMo_heavy_51 (1 : Int32) σ
  := (blk_eq sMo_heavy 36 _).trans rfl
set_option maxRecDepth 100000 in
set_option maxHeartbeats 4000000 in
theorem eMo_heavy_50 (σ : Hp) : fMo_heavy_50 σ =
  fMo_heavy_51 (0 : Int32) σ
  := (blk_eq sMo_heavy 36 _).trans rfl
set_option maxRecDepth 100000 in
set_option maxHeartbeats 4000000 in
theorem eMo_heavy_51 (s0 : Int32) (σ : Hp) : fMo_heavy_51 s0 σ =
  rz s0 σ
  := (blk_eq sMo_heavy 36 _).trans rfl

-- MeshRoomModel.standing(I)I
set_option maxRecDepth 100000 in
set_option maxHeartbeats 4000000 in
theorem eMo_standing (x0 : Option Nat) (x1 : Int32) (σ : Hp) : rF (mMo_standing, 0, [(0, sA x0), (1, sI x1)], [], σ) =
  (rcv σ [sA x0, sI x1] 8).bind fun _ =>
  (cV rF nMo_gather [sA x0, sI x1] σ).bind fun q2 =>
  (gfA q2 x0 8 15).bind fun v7 =>
  (gfA q2 x0 8 4).bind fun v11 =>
  (alI q2 v11 x1).bind fun v15 =>
  (rcv q2 [sA x0, sA v7, sI v15] 8).bind fun _ =>
  (cI rF nMo_level [sA x0, sA v7, sI v15] q2).bind fun q16 =>
  some (some (sI q16.1), q16.2)
  := (blk_eq sMo_standing 17 _).trans rfl

-- MeshRoomModel.sooner(II)Z
noncomputable def fMo_sooner_35 (σ : Hp) : Option Rs := rF (mMo_sooner, 35, [], [], σ)
noncomputable def fMo_sooner_39 (σ : Hp) : Option Rs := rF (mMo_sooner, 39, [], [], σ)
noncomputable def fMo_sooner_40 (s0 : Int32) (σ : Hp) : Option Rs := rF (mMo_sooner, 40, [], [sI s0], σ)
set_option maxRecDepth 100000 in
set_option maxHeartbeats 4000000 in
theorem eMo_sooner (x0 : Option Nat) (x1 : Int32) (x2 : Int32) (σ : Hp) : rF (mMo_sooner, 0, [(0, sA x0), (1, sI x1), (2, sI x2)], [], σ) =
  (gfA σ x0 8 7).bind fun v1 =>
  (alI σ v1 x1).bind fun v5 =>
  (gfA σ x0 8 7).bind fun v7 =>
  (alI σ v7 x2).bind fun v11 =>
  if v5 < v11 then
    fMo_sooner_35 σ
  else
    (gfA σ x0 8 7).bind fun v16 =>
    (alI σ v16 x1).bind fun v20 =>
    (gfA σ x0 8 7).bind fun v22 =>
    (alI σ v22 x2).bind fun v26 =>
    if ¬ v20 = v26 then
      fMo_sooner_39 σ
    else
      if x2 ≤ x1 then
        fMo_sooner_39 σ
      else
        fMo_sooner_35 σ
  := (blk_eq sMo_sooner 30 _).trans rfl
set_option maxRecDepth 100000 in
set_option maxHeartbeats 4000000 in
theorem eMo_sooner_35 (σ : Hp) : fMo_sooner_35 σ =
  fMo_sooner_40 (1 : Int32) σ
  := (blk_eq sMo_sooner 30 _).trans rfl
set_option maxRecDepth 100000 in
set_option maxHeartbeats 4000000 in
theorem eMo_sooner_39 (σ : Hp) : fMo_sooner_39 σ =
  fMo_sooner_40 (0 : Int32) σ
  := (blk_eq sMo_sooner 30 _).trans rfl
set_option maxRecDepth 100000 in
set_option maxHeartbeats 4000000 in
theorem eMo_sooner_40 (s0 : Int32) (σ : Hp) : fMo_sooner_40 s0 σ =
  rz s0 σ
  := (blk_eq sMo_sooner 30 _).trans rfl

-- MeshRoomModel.tryHeavy(J)V
noncomputable def fMo_tryHeavy_5 (x0 : Option Nat) (x3 : Int64) (x5 : Int32) (σ : Hp) : Option Rs := rF (mMo_tryHeavy, 5, [(0, sA x0), (3, sJ x3), (5, sI x5)], [], σ)
noncomputable def fMo_tryHeavy_27 (x0 : Option Nat) (x3 : Int64) (x5 : Int32) (x6 : Int32) (x7 : Int32) (x8 : Int32) (σ : Hp) : Option Rs := rF (mMo_tryHeavy, 27, [(0, sA x0), (3, sJ x3), (5, sI x5), (6, sI x6), (7, sI x7), (8, sI x8)], [], σ)
noncomputable def fMo_tryHeavy_95 (x0 : Option Nat) (x3 : Int64) (x5 : Int32) (x8 : Int32) (x9 : Int32) (σ : Hp) : Option Rs := rF (mMo_tryHeavy, 95, [(0, sA x0), (3, sJ x3), (5, sI x5), (8, sI x8), (9, sI x9)], [], σ)
noncomputable def fMo_tryHeavy_103 (x0 : Option Nat) (x3 : Int64) (x5 : Int32) (x6 : Int32) (x7 : Int32) (x8 : Int32) (σ : Hp) : Option Rs := rF (mMo_tryHeavy, 103, [(0, sA x0), (3, sJ x3), (5, sI x5), (6, sI x6), (7, sI x7), (8, sI x8)], [], σ)
noncomputable def fMo_tryHeavy_132 (σ : Hp) : Option Rs := rF (mMo_tryHeavy, 132, [], [], σ)
set_option maxRecDepth 100000 in
set_option maxHeartbeats 4000000 in
theorem eMo_tryHeavy (x0 : Option Nat) (x1 : Int64) (σ : Hp) : rF (mMo_tryHeavy, 0, [(0, sA x0), (1, sJ x1)], [], σ) =
  fMo_tryHeavy_5 x0 x1 (0 : Int32) σ
  := (blk_eq sMo_tryHeavy 75 _).trans rfl
set_option maxRecDepth 100000 in
set_option maxHeartbeats 4000000 in
theorem eMo_tryHeavy_5 (x0 : Option Nat) (x3 : Int64) (x5 : Int32) (σ : Hp) : fMo_tryHeavy_5 x0 x3 x5 σ =
  if (41 : Int32) ≤ x5 then
    fMo_tryHeavy_132 σ
  else
    if (lg_cmp x3 (0 : Int64)) = 0 then
      fMo_tryHeavy_132 σ
    else
      fMo_tryHeavy_27 x0 x3 x5 (0 : Int32) (0 : Int32) (1 : Int32) σ
  := (blk_eq sMo_tryHeavy 75 _).trans rfl
set_option maxRecDepth 100000 in
set_option maxHeartbeats 4000000 in
theorem eMo_tryHeavy_27 (x0 : Option Nat) (x3 : Int64) (x5 : Int32) (x6 : Int32) (x7 : Int32) (x8 : Int32) (σ : Hp) : fMo_tryHeavy_27 x0 x3 x5 x6 x7 x8 σ =
  if (41 : Int32) ≤ x8 then
    (rcv σ [sA x0, sI x6] 8).bind fun _ =>
    (cV rF nMo_tryIt [sA x0, sI x6] σ).bind fun q123 =>
    fMo_tryHeavy_5 x0 (x3 &&& (((1 : Int64) <<< (Int32.toInt64 x6 &&& 63)) ^^^ (-1 : Int64))) (x5 + (1 : Int32)) q123
  else
    (cI rF nMo_has [sJ x3, sI x8] σ).bind fun q37 =>
    if q37.1 = 0 then
      fMo_tryHeavy_103 x0 x3 x5 x6 x7 x8 q37.2
    else
      (gfA q37.2 x0 8 10).bind fun v44 =>
      (alJ q37.2 v44 x8).bind fun v49 =>
      if ¬ (lg_cmp (v49 &&& x3) (0 : Int64)) = 0 then
        fMo_tryHeavy_103 x0 x3 x5 x6 x7 x8 q37.2
      else
        (rcv q37.2 [sA x0, sI x8] 8).bind fun _ =>
        (cI rF nMo_standing [sA x0, sI x8] q37.2).bind fun q60 =>
        if x6 = 0 then
          fMo_tryHeavy_95 x0 x3 x5 x8 q60.1 q60.2
        else
          if x7 < q60.1 then
            fMo_tryHeavy_95 x0 x3 x5 x8 q60.1 q60.2
          else
            if ¬ q60.1 = x7 then
              fMo_tryHeavy_103 x0 x3 x5 x6 x7 x8 q60.2
            else
              (rcv q60.2 [sA x0, sI x8, sI x6] 8).bind fun _ =>
              (cI rF nMo_sooner [sA x0, sI x8, sI x6] q60.2).bind fun q89 =>
              if q89.1 = 0 then
                fMo_tryHeavy_103 x0 x3 x5 x6 x7 x8 q89.2
              else
                fMo_tryHeavy_95 x0 x3 x5 x8 q60.1 q89.2
  := (blk_eq sMo_tryHeavy 75 _).trans rfl
set_option maxRecDepth 100000 in
set_option maxHeartbeats 4000000 in
theorem eMo_tryHeavy_95 (x0 : Option Nat) (x3 : Int64) (x5 : Int32) (x8 : Int32) (x9 : Int32) (σ : Hp) : fMo_tryHeavy_95 x0 x3 x5 x8 x9 σ =
  fMo_tryHeavy_103 x0 x3 x5 x8 x9 x8 σ
  := (blk_eq sMo_tryHeavy 75 _).trans rfl
set_option maxRecDepth 100000 in
set_option maxHeartbeats 4000000 in
theorem eMo_tryHeavy_103 (x0 : Option Nat) (x3 : Int64) (x5 : Int32) (x6 : Int32) (x7 : Int32) (x8 : Int32) (σ : Hp) : fMo_tryHeavy_103 x0 x3 x5 x6 x7 x8 σ =
  fMo_tryHeavy_27 x0 x3 x5 x6 x7 (x8 + (1 : Int32)) σ
  := (blk_eq sMo_tryHeavy 75 _).trans rfl
set_option maxRecDepth 100000 in
set_option maxHeartbeats 4000000 in
theorem eMo_tryHeavy_132 (σ : Hp) : fMo_tryHeavy_132 σ =
  some (none, σ)
  := (blk_eq sMo_tryHeavy 75 _).trans rfl

-- MeshRoomModel.levelsOf(I)I
set_option maxRecDepth 100000 in
set_option maxHeartbeats 4000000 in
theorem eMo_levelsOf (x0 : Option Nat) (x1 : Int32) (σ : Hp) : rF (mMo_levelsOf, 0, [(0, sA x0), (1, sI x1)], [], σ) =
  (rcv σ [sA x0, sI x1] 8).bind fun _ =>
  (cV rF nMo_gather [sA x0, sI x1] σ).bind fun q2 =>
  (gfA q2 x0 8 15).bind fun v6 =>
  (alI q2 v6 (1 : Int32)).bind fun v10 =>
  some (some (sI v10), q2)
  := (blk_eq sMo_levelsOf 13 _).trans rfl

-- MeshRoomModel.mainline()V
noncomputable def fMo_mainline_2 (x0 : Option Nat) (x1 : Int32) (σ : Hp) : Option Rs := rF (mMo_mainline, 2, [(0, sA x0), (1, sI x1)], [], σ)
noncomputable def fMo_mainline_30 (x0 : Option Nat) (x1 : Int32) (x2 : Int32) (σ : Hp) : Option Rs := rF (mMo_mainline, 30, [(0, sA x0), (1, sI x1), (2, sI x2)], [], σ)
noncomputable def fMo_mainline_59 (σ : Hp) : Option Rs := rF (mMo_mainline, 59, [], [], σ)
set_option maxRecDepth 100000 in
set_option maxHeartbeats 4000000 in
theorem eMo_mainline (x0 : Option Nat) (σ : Hp) : rF (mMo_mainline, 0, [(0, sA x0)], [], σ) =
  fMo_mainline_2 x0 (0 : Int32) σ
  := (blk_eq sMo_mainline 41 _).trans rfl
set_option maxRecDepth 100000 in
set_option maxHeartbeats 4000000 in
theorem eMo_mainline_2 (x0 : Option Nat) (x1 : Int32) (σ : Hp) : fMo_mainline_2 x0 x1 σ =
  if (41 : Int32) ≤ x1 then
    (gfA σ x0 8 13).bind fun v22 =>
    (alI σ v22 (1 : Int32)).bind fun v26 =>
    fMo_mainline_30 x0 v26 (0 : Int32) σ
  else
    (gfA σ x0 8 17).bind fun v9 =>
    (asI σ v9 x1 (-1 : Int32)).bind fun σ14 =>
    fMo_mainline_2 x0 (x1 + (1 : Int32)) σ14
  := (blk_eq sMo_mainline 41 _).trans rfl
set_option maxRecDepth 100000 in
set_option maxHeartbeats 4000000 in
theorem eMo_mainline_30 (x0 : Option Nat) (x1 : Int32) (x2 : Int32) (σ : Hp) : fMo_mainline_30 x0 x1 x2 σ =
  if (41 : Int32) ≤ x2 then
    fMo_mainline_59 σ
  else
    if x1 ≤ 0 then
      fMo_mainline_59 σ
    else
      (gfA σ x0 8 17).bind fun v41 =>
      (asI σ v41 x1 x2).bind fun σ46 =>
      (rcv σ46 [sA x0, sI x1] 8).bind fun _ =>
      (cI rF nMo_levelsOf [sA x0, sI x1] σ46).bind fun q49 =>
      fMo_mainline_30 x0 q49.1 (x2 + (1 : Int32)) q49.2
  := (blk_eq sMo_mainline 41 _).trans rfl
set_option maxRecDepth 100000 in
set_option maxHeartbeats 4000000 in
theorem eMo_mainline_59 (σ : Hp) : fMo_mainline_59 σ =
  some (none, σ)
  := (blk_eq sMo_mainline 41 _).trans rfl

-- MeshRoomModel.placeOf(I)I
noncomputable def fMo_placeOf_6 (x0 : Option Nat) (x2 : Int32) (σ : Hp) : Option Rs := rF (mMo_placeOf, 6, [(0, sA x0), (2, sI x2)], [], σ)
noncomputable def fMo_placeOf_28 (x0 : Option Nat) (x2 : Int32) (σ : Hp) : Option Rs := rF (mMo_placeOf, 28, [(0, sA x0), (2, sI x2)], [], σ)
noncomputable def fMo_placeOf_43 (s0 : Int32) (σ : Hp) : Option Rs := rF (mMo_placeOf, 43, [], [sI s0], σ)
set_option maxRecDepth 100000 in
set_option maxHeartbeats 4000000 in
theorem eMo_placeOf (x0 : Option Nat) (x1 : Int32) (σ : Hp) : rF (mMo_placeOf, 0, [(0, sA x0), (1, sI x1)], [], σ) =
  (rcv σ [sA x0, sI x1] 8).bind fun _ =>
  (cI rF nMo_levelsOf [sA x0, sI x1] σ).bind fun q2 =>
  fMo_placeOf_6 x0 q2.1 q2.2
  := (blk_eq sMo_placeOf 30 _).trans rfl
set_option maxRecDepth 100000 in
set_option maxHeartbeats 4000000 in
theorem eMo_placeOf_6 (x0 : Option Nat) (x2 : Int32) (σ : Hp) : fMo_placeOf_6 x0 x2 σ =
  if x2 ≤ 0 then
    fMo_placeOf_28 x0 x2 σ
  else
    (gfA σ x0 8 17).bind fun v11 =>
    (alI σ v11 x2).bind fun v15 =>
    if 0 ≤ v15 then
      fMo_placeOf_28 x0 x2 σ
    else
      (rcv σ [sA x0, sI x2] 8).bind fun _ =>
      (cI rF nMo_levelsOf [sA x0, sI x2] σ).bind fun q21 =>
      fMo_placeOf_6 x0 q21.1 q21.2
  := (blk_eq sMo_placeOf 30 _).trans rfl
set_option maxRecDepth 100000 in
set_option maxHeartbeats 4000000 in
theorem eMo_placeOf_28 (x0 : Option Nat) (x2 : Int32) (σ : Hp) : fMo_placeOf_28 x0 x2 σ =
  if ¬ x2 = 0 then
    (gfA σ x0 8 17).bind fun v38 =>
    (alI σ v38 x2).bind fun v42 =>
    fMo_placeOf_43 v42 σ
  else
    fMo_placeOf_43 (100 : Int32) σ
  := (blk_eq sMo_placeOf 30 _).trans rfl
set_option maxRecDepth 100000 in
set_option maxHeartbeats 4000000 in
theorem eMo_placeOf_43 (s0 : Int32) (σ : Hp) : fMo_placeOf_43 s0 σ =
  some (some (sI s0), σ)
  := (blk_eq sMo_placeOf 30 _).trans rfl

-- MeshRoomModel.tryOthers(J)V
noncomputable def fMo_tryOthers_5 (x0 : Option Nat) (x3 : Int64) (x5 : Int32) (σ : Hp) : Option Rs := rF (mMo_tryOthers, 5, [(0, sA x0), (3, sJ x3), (5, sI x5)], [], σ)
noncomputable def fMo_tryOthers_27 (x0 : Option Nat) (x3 : Int64) (x5 : Int32) (x6 : Int32) (x7 : Int32) (x8 : Int32) (σ : Hp) : Option Rs := rF (mMo_tryOthers, 27, [(0, sA x0), (3, sJ x3), (5, sI x5), (6, sI x6), (7, sI x7), (8, sI x8)], [], σ)
noncomputable def fMo_tryOthers_81 (x0 : Option Nat) (x3 : Int64) (x5 : Int32) (x8 : Int32) (x9 : Int32) (σ : Hp) : Option Rs := rF (mMo_tryOthers, 81, [(0, sA x0), (3, sJ x3), (5, sI x5), (8, sI x8), (9, sI x9)], [], σ)
noncomputable def fMo_tryOthers_89 (x0 : Option Nat) (x3 : Int64) (x5 : Int32) (x6 : Int32) (x7 : Int32) (x8 : Int32) (σ : Hp) : Option Rs := rF (mMo_tryOthers, 89, [(0, sA x0), (3, sJ x3), (5, sI x5), (6, sI x6), (7, sI x7), (8, sI x8)], [], σ)
noncomputable def fMo_tryOthers_118 (σ : Hp) : Option Rs := rF (mMo_tryOthers, 118, [], [], σ)
set_option maxRecDepth 100000 in
set_option maxHeartbeats 4000000 in
theorem eMo_tryOthers (x0 : Option Nat) (x1 : Int64) (σ : Hp) : rF (mMo_tryOthers, 0, [(0, sA x0), (1, sJ x1)], [], σ) =
  fMo_tryOthers_5 x0 x1 (0 : Int32) σ
  := (blk_eq sMo_tryOthers 66 _).trans rfl
set_option maxRecDepth 100000 in
set_option maxHeartbeats 4000000 in
theorem eMo_tryOthers_5 (x0 : Option Nat) (x3 : Int64) (x5 : Int32) (σ : Hp) : fMo_tryOthers_5 x0 x3 x5 σ =
  if (41 : Int32) ≤ x5 then
    fMo_tryOthers_118 σ
  else
    if (lg_cmp x3 (0 : Int64)) = 0 then
      fMo_tryOthers_118 σ
    else
      fMo_tryOthers_27 x0 x3 x5 (0 : Int32) (0 : Int32) (1 : Int32) σ
  := (blk_eq sMo_tryOthers 66 _).trans rfl
set_option maxRecDepth 100000 in
set_option maxHeartbeats 4000000 in
theorem eMo_tryOthers_27 (x0 : Option Nat) (x3 : Int64) (x5 : Int32) (x6 : Int32) (x7 : Int32) (x8 : Int32) (σ : Hp) : fMo_tryOthers_27 x0 x3 x5 x6 x7 x8 σ =
  if (41 : Int32) ≤ x8 then
    (rcv σ [sA x0, sI x6] 8).bind fun _ =>
    (cV rF nMo_tryIt [sA x0, sI x6] σ).bind fun q109 =>
    fMo_tryOthers_5 x0 (x3 &&& (((1 : Int64) <<< (Int32.toInt64 x6 &&& 63)) ^^^ (-1 : Int64))) (x5 + (1 : Int32)) q109
  else
    (cI rF nMo_has [sJ x3, sI x8] σ).bind fun q37 =>
    if q37.1 = 0 then
      fMo_tryOthers_89 x0 x3 x5 x6 x7 x8 q37.2
    else
      (rcv q37.2 [sA x0, sI x8] 8).bind fun _ =>
      (cI rF nMo_placeOf [sA x0, sI x8] q37.2).bind fun q46 =>
      if x6 = 0 then
        fMo_tryOthers_81 x0 x3 x5 x8 q46.1 q46.2
      else
        if x7 < q46.1 then
          fMo_tryOthers_81 x0 x3 x5 x8 q46.1 q46.2
        else
          if ¬ q46.1 = x7 then
            fMo_tryOthers_89 x0 x3 x5 x6 x7 x8 q46.2
          else
            (rcv q46.2 [sA x0, sI x8, sI x6] 8).bind fun _ =>
            (cI rF nMo_sooner [sA x0, sI x8, sI x6] q46.2).bind fun q75 =>
            if q75.1 = 0 then
              fMo_tryOthers_89 x0 x3 x5 x6 x7 x8 q75.2
            else
              fMo_tryOthers_81 x0 x3 x5 x8 q46.1 q75.2
  := (blk_eq sMo_tryOthers 66 _).trans rfl
set_option maxRecDepth 100000 in
set_option maxHeartbeats 4000000 in
theorem eMo_tryOthers_81 (x0 : Option Nat) (x3 : Int64) (x5 : Int32) (x8 : Int32) (x9 : Int32) (σ : Hp) : fMo_tryOthers_81 x0 x3 x5 x8 x9 σ =
  fMo_tryOthers_89 x0 x3 x5 x8 x9 x8 σ
  := (blk_eq sMo_tryOthers 66 _).trans rfl
set_option maxRecDepth 100000 in
set_option maxHeartbeats 4000000 in
theorem eMo_tryOthers_89 (x0 : Option Nat) (x3 : Int64) (x5 : Int32) (x6 : Int32) (x7 : Int32) (x8 : Int32) (σ : Hp) : fMo_tryOthers_89 x0 x3 x5 x6 x7 x8 σ =
  fMo_tryOthers_27 x0 x3 x5 x6 x7 (x8 + (1 : Int32)) σ
  := (blk_eq sMo_tryOthers 66 _).trans rfl
set_option maxRecDepth 100000 in
set_option maxHeartbeats 4000000 in
theorem eMo_tryOthers_118 (σ : Hp) : fMo_tryOthers_118 σ =
  some (none, σ)
  := (blk_eq sMo_tryOthers 66 _).trans rfl
