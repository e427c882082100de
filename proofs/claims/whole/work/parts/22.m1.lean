def it_X12_in : List (Nat × Instr × Nat × Nat) := [(0, .lload_n 0, 1, 1), (1, .lload_n 2, 1, 2), (2, .lcmp, 1, 3), (3, .ifCond .lt 14, 3, 6), (6, .lload_n 0, 1, 7), (7, .lload 4, 2, 9), (9, .lcmp, 1, 10), (10, .ifCond .gt 7, 3, 13), (13, .iconst 1, 1, 14), (14, .goto 4, 3, 17), (17, .iconst 0, 1, 18), (18, .ireturn, 1, 19)]
theorem id_X12_in : ∀ q ∈ it_X12_in, decode cX12_in q.1 = .ok (q.2.1, q.2.2.1) ∧ q.1 + q.2.2.1 = q.2.2.2 := by decide +kernel
theorem dc_X12_in {pc : Nat} {i : Instr} {n pc' : Nat} (j : Nat) (h : it_X12_in[j]? = some (pc, i, n, pc')) : Dc cX12_in pc i n pc' := dc_of id_X12_in j h
abbrev rm_X12_in : Room := { frames := 0, cells := 0, slots := 0, locals := 0 }
def b_X12_in_18    (s0 : Int32)  : Option (Int32) := chk (s0 = 0 ∨ s0 = 1) (some s0)
set_option maxHeartbeats 4000000 in
set_option maxRecDepth 20000 in
theorem c_X12_in_18 {X : CX} {Ω : OM} (hX : CF X Ω RX12 cX12_in 6 (some .boolean) rm_X12_in) (hO : OKO Ω) (hΩ : oSH Ω = SHM)   (σ : MS)   (s0 : Int32)   : GE X Ω 6 0 0 (emPI σ) 0 0 18 [] [.int s0] σ (b_X12_in_18  s0) := by
  unfold b_X12_in_18
  refine g_chk (fun hc4 => ?_)
  exact g_iret hX (dc_X12_in 11 rfl) (nz_bool hc4).1 rfl (Nat.le_refl _) (Nat.le_refl _)
def b_X12_in_17      : Option (Int32) := (b_X12_in_18 ((0 : Int32)))
set_option maxHeartbeats 4000000 in
set_option maxRecDepth 20000 in
theorem c_X12_in_17 {X : CX} {Ω : OM} (hX : CF X Ω RX12 cX12_in 6 (some .boolean) rm_X12_in) (hO : OKO Ω) (hΩ : oSH Ω = SHM)   (σ : MS)      : GE X Ω 6 0 0 (emPI σ) 0 0 17 [] [] σ (b_X12_in_17  ) := by
  unfold b_X12_in_17
  refine g_iconst (w := (0 : Int32)) hX (dc_X12_in 10 rfl) (by decide) ?_
  exact g_sub [] rfl (c_X12_in_18 hX hO hΩ σ ((0 : Int32)))
def b_X12_in_0   (x0 : Int64) (x1 : Int64) (x2 : Int64)   : Option (Int32) := (if (lg_cmp x0 x1) < 0 then (b_X12_in_17) else (if 0 < (lg_cmp x0 x2) then (b_X12_in_17) else (b_X12_in_18 ((1 : Int32)))))
set_option maxHeartbeats 4000000 in
set_option maxRecDepth 20000 in
theorem c_X12_in_0 {X : CX} {Ω : OM} (hX : CF X Ω RX12 cX12_in 6 (some .boolean) rm_X12_in) (hO : OKO Ω) (hΩ : oSH Ω = SHM)   (σ : MS)  (x0 : Int64) (x1 : Int64) (x2 : Int64)    : GE X Ω 6 0 0 (emPI σ) 0 0 0 [(0, .long x0), (2, .long x1), (4, .long x2)] [] σ (b_X12_in_0  x0 x1 x2) := by
  unfold b_X12_in_0
  refine g_lload_n hX (dc_X12_in 0 rfl) rfl 0 rfl ?_
  refine g_lload_n hX (dc_X12_in 1 rfl) rfl 1 rfl ?_
  refine g_lcmp hX (dc_X12_in 2 rfl) ?_
  refine g_if_lt (tgt := 17) hX (dc_X12_in 3 rfl) (by decide) (fun h5 => ?_) (fun h5 => ?_)
  · exact g_sub [] rfl (c_X12_in_17 hX hO hΩ σ)
  · refine g_lload_n hX (dc_X12_in 4 rfl) rfl 0 rfl ?_
    refine g_lload hX (dc_X12_in 5 rfl) 2 rfl ?_
    refine g_lcmp hX (dc_X12_in 6 rfl) ?_
    refine g_if_gt (tgt := 17) hX (dc_X12_in 7 rfl) (by decide) (fun h6 => ?_) (fun h6 => ?_)
    · exact g_sub [] rfl (c_X12_in_17 hX hO hΩ σ)
    · refine g_iconst (w := (1 : Int32)) hX (dc_X12_in 8 rfl) (by decide) ?_
      refine g_goto (tgt := 18) hX (dc_X12_in 9 rfl) (by decide) ?_
      exact g_sub [] rfl (c_X12_in_18 hX hO hΩ σ ((1 : Int32)))
def f_X12_in (x0 : Int64) (x1 : Int64) (x2 : Int64)  : Option (Int32) := b_X12_in_0  x0 x1 x2 
theorem con_X12_in {Ω : OM} (hO : OKO Ω) (hΩ : oSH Ω = SHM) (x0 : Int64) (x1 : Int64) (x2 : Int64) (σ : MS)  : Con Ω yX12_in cX12_in 6 (some .boolean) rm_X12_in (emPI σ) [.long x0, .long x1, .long x2] σ (f_X12_in x0 x1 x2 ) :=
  con_of hO (by decide +kernel) (Nat.le_of_ble_eq_true rfl) rfl (fun X hX _ => c_X12_in_0 hX hO hΩ   σ x0 x1 x2)
def it_X12_has : List (Nat × Instr × Nat × Nat) := [(0, .iload_n 0, 1, 1), (1, .iload_n 1, 1, 2), (2, .ishr, 1, 3), (3, .iconst 1, 1, 4), (4, .iand, 1, 5), (5, .iconst 1, 1, 6), (6, .if_icmp .ne 7, 3, 9), (9, .iconst 1, 1, 10), (10, .goto 4, 3, 13), (13, .iconst 0, 1, 14), (14, .ireturn, 1, 15)]
theorem id_X12_has : ∀ q ∈ it_X12_has, decode cX12_has q.1 = .ok (q.2.1, q.2.2.1) ∧ q.1 + q.2.2.1 = q.2.2.2 := by decide +kernel
theorem dc_X12_has {pc : Nat} {i : Instr} {n pc' : Nat} (j : Nat) (h : it_X12_has[j]? = some (pc, i, n, pc')) : Dc cX12_has pc i n pc' := dc_of id_X12_has j h
abbrev rm_X12_has : Room := { frames := 0, cells := 0, slots := 0, locals := 0 }
def b_X12_has_14    (s0 : Int32)  : Option (Int32) := chk (s0 = 0 ∨ s0 = 1) (some s0)
set_option maxHeartbeats 4000000 in
set_option maxRecDepth 20000 in
theorem c_X12_has_14 {X : CX} {Ω : OM} (hX : CF X Ω RX12 cX12_has 2 (some .boolean) rm_X12_has) (hO : OKO Ω) (hΩ : oSH Ω = SHM)   (σ : MS)   (s0 : Int32)   : GE X Ω 2 0 0 (emPI σ) 0 0 14 [] [.int s0] σ (b_X12_has_14  s0) := by
  unfold b_X12_has_14
  refine g_chk (fun hc3 => ?_)
  exact g_iret hX (dc_X12_has 10 rfl) (nz_bool hc3).1 rfl (Nat.le_refl _) (Nat.le_refl _)
def b_X12_has_0   (x0 : Int32) (x1 : Int32)   : Option (Int32) := (if ((x0 >>> (x1 &&& 31)) &&& (1 : Int32)) = (1 : Int32) then (b_X12_has_14 ((1 : Int32))) else (b_X12_has_14 ((0 : Int32))))
set_option maxHeartbeats 4000000 in
set_option maxRecDepth 20000 in
theorem c_X12_has_0 {X : CX} {Ω : OM} (hX : CF X Ω RX12 cX12_has 2 (some .boolean) rm_X12_has) (hO : OKO Ω) (hΩ : oSH Ω = SHM)   (σ : MS)  (x0 : Int32) (x1 : Int32)    : GE X Ω 2 0 0 (emPI σ) 0 0 0 [(0, .int x0), (1, .int x1)] [] σ (b_X12_has_0  x0 x1) := by
  unfold b_X12_has_0
  refine g_iload_n hX (dc_X12_has 0 rfl) rfl 0 rfl ?_
  refine g_iload_n hX (dc_X12_has 1 rfl) rfl 1 rfl ?_
  refine g_ishr hX (dc_X12_has 2 rfl) ?_
  refine g_iconst (w := (1 : Int32)) hX (dc_X12_has 3 rfl) (by decide) ?_
  refine g_iand hX (dc_X12_has 4 rfl) ?_
  refine g_iconst (w := (1 : Int32)) hX (dc_X12_has 5 rfl) (by decide) ?_
  refine g_icmp_ne (tgt := 13) hX (dc_X12_has 6 rfl) (by decide) (fun h4 => ?_) (fun h4 => ?_)
  · refine g_iconst (w := (1 : Int32)) hX (dc_X12_has 7 rfl) (by decide) ?_
    refine g_goto (tgt := 14) hX (dc_X12_has 8 rfl) (by decide) ?_
    exact g_sub [] rfl (c_X12_has_14 hX hO hΩ σ ((1 : Int32)))
  · refine g_iconst (w := (0 : Int32)) hX (dc_X12_has 9 rfl) (by decide) ?_
    exact g_sub [] rfl (c_X12_has_14 hX hO hΩ σ ((0 : Int32)))
def f_X12_has (x0 : Int32) (x1 : Int32)  : Option (Int32) := b_X12_has_0  x0 x1 
theorem con_X12_has {Ω : OM} (hO : OKO Ω) (hΩ : oSH Ω = SHM) (x0 : Int32) (x1 : Int32) (σ : MS)  : Con Ω yX12_has cX12_has 2 (some .boolean) rm_X12_has (emPI σ) [.int x0, .int x1] σ (f_X12_has x0 x1 ) :=
  con_of hO (by decide +kernel) (Nat.le_of_ble_eq_true rfl) rfl (fun X hX _ => c_X12_has_0 hX hO hΩ   σ x0 x1)
def it_X12_isKind : List (Nat × Instr × Nat × Nat) := [(0, .iload_n 1, 1, 1), (1, .i2l, 1, 2), (2, .lconst 0, 1, 3), (3, .aload_n 0, 1, 4), (4, .getfield 9, 3, 7), (7, .iconst 2, 1, 8), (8, .iaload, 1, 9), (9, .iconst 1, 1, 10), (10, .isub, 1, 11), (11, .i2l, 1, 12), (12, .invokestatic 161, 3, 15), (15, .ireturn, 1, 16)]
theorem id_X12_isKind : ∀ q ∈ it_X12_isKind, decode cX12_isKind q.1 = .ok (q.2.1, q.2.2.1) ∧ q.1 + q.2.2.1 = q.2.2.2 := by decide +kernel
theorem dc_X12_isKind {pc : Nat} {i : Instr} {n pc' : Nat} (j : Nat) (h : it_X12_isKind[j]? = some (pc, i, n, pc')) : Dc cX12_isKind pc i n pc' := dc_of id_X12_isKind j h
abbrev rm_X12_isKind : Room := { frames := 1, cells := 0, slots := 0, locals := 25 }
def b_X12_isKind_0   (x1 : Int32)  (σ : MS) : Option (Int32) := (f_X12_in (x1).toInt64 (0 : Int64) (((sI σ 1 2) - (1 : Int32))).toInt64).bind (fun r3 => chk (r3 = 0 ∨ r3 = 1) (some r3))
set_option maxHeartbeats 4000000 in
set_option maxRecDepth 20000 in
theorem c_X12_isKind_0 {X : CX} {Ω : OM} (hX : CF X Ω RX12 cX12_isKind 2 (some .boolean) rm_X12_isKind) (hO : OKO Ω) (hΩ : oSH Ω = SHM)   (σ : MS)  (x1 : Int32)    : GE X Ω 2 0 0 (emPI σ) 0 0 0 [(0, .ref 0), (1, .int x1)] [] σ (b_X12_isKind_0  x1 σ) := by
  unfold b_X12_isKind_0
  refine g_iload_n hX (dc_X12_isKind 0 rfl) rfl 1 rfl ?_
  refine g_i2l hX (dc_X12_isKind 1 rfl) ?_
  refine g_lconst (w := (0 : Int64)) hX (dc_X12_isKind 2 rfl) (by decide) ?_
  refine g_aload_n hX (dc_X12_isKind 3 rfl) rfl 0 rfl ?_
  refine g_getF (q := 1) hX (dc_X12_isKind 4 rfl) fl_X12_9 (by decide) rfl (stS hΩ 0 rfl) rfl ?_
  refine g_iconst (w := (2 : Int32)) hX (dc_X12_isKind 5 rfl) (by decide) ?_
  refine g_iald (j := 2) hX (dc_X12_isKind 6 rfl) (stS hΩ 1 rfl) (by decide) (by decide) ?_
  refine g_iconst (w := (1 : Int32)) hX (dc_X12_isKind 7 rfl) (by decide) ?_
  refine g_isub hX (dc_X12_isKind 8 rfl) ?_
  refine g_i2l hX (dc_X12_isKind 9 rfl) ?_
  refine gS_PI (As := [.long (x1).toInt64, .long (0 : Int64), .long (((sI σ 1 2) - (1 : Int32))).toInt64]) (st := []) hX (dc_X12_isKind 10 rfl) ml_X12_161 (con_X12_in hO hΩ (x1).toInt64 (0 : Int64) (((sI σ 1 2) - (1 : Int32))).toInt64 σ) rfl rfl ⟨by decide, by decide⟩ ⟨rfl, rfl⟩ ⟨Nat.zero_le _, Nat.zero_le _⟩ (Nat.le_of_ble_eq_true rfl) (fun r3 _ => ?_)
  refine g_chk (fun hc4 => ?_)
  exact g_iret hX (dc_X12_isKind 11 rfl) (nz_bool hc4).1 rfl (Nat.le_refl _) (Nat.le_refl _)
def f_X12_isKind (x1 : Int32) (σ : MS) : Option (Int32) := b_X12_isKind_0  x1 σ
theorem con_X12_isKind {Ω : OM} (hO : OKO Ω) (hΩ : oSH Ω = SHM) (x1 : Int32) (σ : MS)  : Con Ω yX12_isKind cX12_isKind 2 (some .boolean) rm_X12_isKind (emPI σ) [.ref 0, .int x1] σ (f_X12_isKind x1 σ) :=
  con_of hO (by decide +kernel) (Nat.le_of_ble_eq_true rfl) rfl (fun X hX _ => c_X12_isKind_0 hX hO hΩ   σ x1)
def it_X12_isPerson : List (Nat × Instr × Nat × Nat) := [(0, .iload_n 1, 1, 1), (1, .i2l, 1, 2), (2, .lconst 0, 1, 3), (3, .aload_n 0, 1, 4), (4, .getfield 9, 3, 7), (7, .iconst 3, 1, 8), (8, .iaload, 1, 9), (9, .iconst 1, 1, 10), (10, .isub, 1, 11), (11, .i2l, 1, 12), (12, .invokestatic 161, 3, 15), (15, .ireturn, 1, 16)]
theorem id_X12_isPerson : ∀ q ∈ it_X12_isPerson, decode cX12_isPerson q.1 = .ok (q.2.1, q.2.2.1) ∧ q.1 + q.2.2.1 = q.2.2.2 := by decide +kernel
theorem dc_X12_isPerson {pc : Nat} {i : Instr} {n pc' : Nat} (j : Nat) (h : it_X12_isPerson[j]? = some (pc, i, n, pc')) : Dc cX12_isPerson pc i n pc' := dc_of id_X12_isPerson j h
abbrev rm_X12_isPerson : Room := { frames := 1, cells := 0, slots := 0, locals := 25 }
def b_X12_isPerson_0   (x1 : Int32)  (σ : MS) : Option (Int32) := (f_X12_in (x1).toInt64 (0 : Int64) (((sI σ 1 3) - (1 : Int32))).toInt64).bind (fun r3 => chk (r3 = 0 ∨ r3 = 1) (some r3))
set_option maxHeartbeats 4000000 in
set_option maxRecDepth 20000 in
theorem c_X12_isPerson_0 {X : CX} {Ω : OM} (hX : CF X Ω RX12 cX12_isPerson 2 (some .boolean) rm_X12_isPerson) (hO : OKO Ω) (hΩ : oSH Ω = SHM)   (σ : MS)  (x1 : Int32)    : GE X Ω 2 0 0 (emPI σ) 0 0 0 [(0, .ref 0), (1, .int x1)] [] σ (b_X12_isPerson_0  x1 σ) := by
  unfold b_X12_isPerson_0
  refine g_iload_n hX (dc_X12_isPerson 0 rfl) rfl 1 rfl ?_
  refine g_i2l hX (dc_X12_isPerson 1 rfl) ?_
  refine g_lconst (w := (0 : Int64)) hX (dc_X12_isPerson 2 rfl) (by decide) ?_
  refine g_aload_n hX (dc_X12_isPerson 3 rfl) rfl 0 rfl ?_
  refine g_getF (q := 1) hX (dc_X12_isPerson 4 rfl) fl_X12_9 (by decide) rfl (stS hΩ 0 rfl) rfl ?_
  refine g_iconst (w := (3 : Int32)) hX (dc_X12_isPerson 5 rfl) (by decide) ?_
  refine g_iald (j := 3) hX (dc_X12_isPerson 6 rfl) (stS hΩ 1 rfl) (by decide) (by decide) ?_
  refine g_iconst (w := (1 : Int32)) hX (dc_X12_isPerson 7 rfl) (by decide) ?_
  refine g_isub hX (dc_X12_isPerson 8 rfl) ?_
  refine g_i2l hX (dc_X12_isPerson 9 rfl) ?_
  refine gS_PI (As := [.long (x1).toInt64, .long (0 : Int64), .long (((sI σ 1 3) - (1 : Int32))).toInt64]) (st := []) hX (dc_X12_isPerson 10 rfl) ml_X12_161 (con_X12_in hO hΩ (x1).toInt64 (0 : Int64) (((sI σ 1 3) - (1 : Int32))).toInt64 σ) rfl rfl ⟨by decide, by decide⟩ ⟨rfl, rfl⟩ ⟨Nat.zero_le _, Nat.zero_le _⟩ (Nat.le_of_ble_eq_true rfl) (fun r3 _ => ?_)
  refine g_chk (fun hc4 => ?_)
  exact g_iret hX (dc_X12_isPerson 11 rfl) (nz_bool hc4).1 rfl (Nat.le_refl _) (Nat.le_refl _)
def f_X12_isPerson (x1 : Int32) (σ : MS) : Option (Int32) := b_X12_isPerson_0  x1 σ
theorem con_X12_isPerson {Ω : OM} (hO : OKO Ω) (hΩ : oSH Ω = SHM) (x1 : Int32) (σ : MS)  : Con Ω yX12_isPerson cX12_isPerson 2 (some .boolean) rm_X12_isPerson (emPI σ) [.ref 0, .int x1] σ (f_X12_isPerson x1 σ) :=
  con_of hO (by decide +kernel) (Nat.le_of_ble_eq_true rfl) rfl (fun X hX _ => c_X12_isPerson_0 hX hO hΩ   σ x1)
def it_X12_isWork : List (Nat × Instr × Nat × Nat) := [(0, .iload_n 1, 1, 1), (1, .i2l, 1, 2), (2, .lconst 0, 1, 3), (3, .aload_n 0, 1, 4), (4, .getfield 9, 3, 7), (7, .iconst 4, 1, 8), (8, .iaload, 1, 9), (9, .iconst 1, 1, 10), (10, .isub, 1, 11), (11, .i2l, 1, 12), (12, .invokestatic 161, 3, 15), (15, .ireturn, 1, 16)]
theorem id_X12_isWork : ∀ q ∈ it_X12_isWork, decode cX12_isWork q.1 = .ok (q.2.1, q.2.2.1) ∧ q.1 + q.2.2.1 = q.2.2.2 := by decide +kernel
theorem dc_X12_isWork {pc : Nat} {i : Instr} {n pc' : Nat} (j : Nat) (h : it_X12_isWork[j]? = some (pc, i, n, pc')) : Dc cX12_isWork pc i n pc' := dc_of id_X12_isWork j h
abbrev rm_X12_isWork : Room := { frames := 1, cells := 0, slots := 0, locals := 25 }
def b_X12_isWork_0   (x1 : Int32)  (σ : MS) : Option (Int32) := (f_X12_in (x1).toInt64 (0 : Int64) (((sI σ 1 4) - (1 : Int32))).toInt64).bind (fun r3 => chk (r3 = 0 ∨ r3 = 1) (some r3))
set_option maxHeartbeats 4000000 in
set_option maxRecDepth 20000 in
theorem c_X12_isWork_0 {X : CX} {Ω : OM} (hX : CF X Ω RX12 cX12_isWork 2 (some .boolean) rm_X12_isWork) (hO : OKO Ω) (hΩ : oSH Ω = SHM)   (σ : MS)  (x1 : Int32)    : GE X Ω 2 0 0 (emPI σ) 0 0 0 [(0, .ref 0), (1, .int x1)] [] σ (b_X12_isWork_0  x1 σ) := by
  unfold b_X12_isWork_0
  refine g_iload_n hX (dc_X12_isWork 0 rfl) rfl 1 rfl ?_
  refine g_i2l hX (dc_X12_isWork 1 rfl) ?_
  refine g_lconst (w := (0 : Int64)) hX (dc_X12_isWork 2 rfl) (by decide) ?_
  refine g_aload_n hX (dc_X12_isWork 3 rfl) rfl 0 rfl ?_
  refine g_getF (q := 1) hX (dc_X12_isWork 4 rfl) fl_X12_9 (by decide) rfl (stS hΩ 0 rfl) rfl ?_
  refine g_iconst (w := (4 : Int32)) hX (dc_X12_isWork 5 rfl) (by decide) ?_
  refine g_iald (j := 4) hX (dc_X12_isWork 6 rfl) (stS hΩ 1 rfl) (by decide) (by decide) ?_
  refine g_iconst (w := (1 : Int32)) hX (dc_X12_isWork 7 rfl) (by decide) ?_
  refine g_isub hX (dc_X12_isWork 8 rfl) ?_
  refine g_i2l hX (dc_X12_isWork 9 rfl) ?_
  refine gS_PI (As := [.long (x1).toInt64, .long (0 : Int64), .long (((sI σ 1 4) - (1 : Int32))).toInt64]) (st := []) hX (dc_X12_isWork 10 rfl) ml_X12_161 (con_X12_in hO hΩ (x1).toInt64 (0 : Int64) (((sI σ 1 4) - (1 : Int32))).toInt64 σ) rfl rfl ⟨by decide, by decide⟩ ⟨rfl, rfl⟩ ⟨Nat.zero_le _, Nat.zero_le _⟩ (Nat.le_of_ble_eq_true rfl) (fun r3 _ => ?_)
  refine g_chk (fun hc4 => ?_)
  exact g_iret hX (dc_X12_isWork 11 rfl) (nz_bool hc4).1 rfl (Nat.le_refl _) (Nat.le_refl _)
def f_X12_isWork (x1 : Int32) (σ : MS) : Option (Int32) := b_X12_isWork_0  x1 σ
theorem con_X12_isWork {Ω : OM} (hO : OKO Ω) (hΩ : oSH Ω = SHM) (x1 : Int32) (σ : MS)  : Con Ω yX12_isWork cX12_isWork 2 (some .boolean) rm_X12_isWork (emPI σ) [.ref 0, .int x1] σ (f_X12_isWork x1 σ) :=
  con_of hO (by decide +kernel) (Nat.le_of_ble_eq_true rfl) rfl (fun X hX _ => c_X12_isWork_0 hX hO hΩ   σ x1)
def it_X12_doesGo : List (Nat × Instr × Nat × Nat) := [(0, .aload_n 0, 1, 1), (1, .iload_n 1, 1, 2), (2, .invokevirtual 165, 3, 5), (5, .ifCond .eq 17, 3, 8), (8, .aload_n 0, 1, 9), (9, .getfield 34, 3, 12), (12, .iload_n 1, 1, 13), (13, .iaload, 1, 14), (14, .iconst (-1), 1, 15), (15, .if_icmp .eq 7, 3, 18), (18, .iconst 1, 1, 19), (19, .goto 4, 3, 22), (22, .iconst 0, 1, 23), (23, .ireturn, 1, 24)]
theorem id_X12_doesGo : ∀ q ∈ it_X12_doesGo, decode cX12_doesGo q.1 = .ok (q.2.1, q.2.2.1) ∧ q.1 + q.2.2.1 = q.2.2.2 := by decide +kernel
theorem dc_X12_doesGo {pc : Nat} {i : Instr} {n pc' : Nat} (j : Nat) (h : it_X12_doesGo[j]? = some (pc, i, n, pc')) : Dc cX12_doesGo pc i n pc' := dc_of id_X12_doesGo j h
abbrev rm_X12_doesGo : Room := { frames := 2, cells := 0, slots := 0, locals := 46 }
def b_X12_doesGo_23    (s0 : Int32) (σ : MS) : Option (Int32) := chk (s0 = 0 ∨ s0 = 1) (some s0)
set_option maxHeartbeats 4000000 in
set_option maxRecDepth 20000 in
theorem c_X12_doesGo_23 {X : CX} {Ω : OM} (hX : CF X Ω RX12 cX12_doesGo 2 (some .boolean) rm_X12_doesGo) (hO : OKO Ω) (hΩ : oSH Ω = SHM)   (σ : MS)   (s0 : Int32)   : GE X Ω 2 0 0 (emPI σ) 0 0 23 [] [.int s0] σ (b_X12_doesGo_23  s0 σ) := by
  unfold b_X12_doesGo_23
  refine g_chk (fun hc6 => ?_)
  exact g_iret hX (dc_X12_doesGo 13 rfl) (nz_bool hc6).1 rfl (Nat.le_refl _) (Nat.le_refl _)
def b_X12_doesGo_22     (σ : MS) : Option (Int32) := (b_X12_doesGo_23 ((0 : Int32)) σ)
set_option maxHeartbeats 4000000 in
set_option maxRecDepth 20000 in
theorem c_X12_doesGo_22 {X : CX} {Ω : OM} (hX : CF X Ω RX12 cX12_doesGo 2 (some .boolean) rm_X12_doesGo) (hO : OKO Ω) (hΩ : oSH Ω = SHM)   (σ : MS)      : GE X Ω 2 0 0 (emPI σ) 0 0 22 [] [] σ (b_X12_doesGo_22  σ) := by
  unfold b_X12_doesGo_22
  refine g_iconst (w := (0 : Int32)) hX (dc_X12_doesGo 12 rfl) (by decide) ?_
  exact g_sub [] rfl (c_X12_doesGo_23 hX hO hΩ σ ((0 : Int32)))
def b_X12_doesGo_0   (x1 : Int32)  (σ : MS) : Option (Int32) := (f_X12_isWork x1 σ).bind (fun r7 => (if r7 = 0 then (b_X12_doesGo_22 σ) else chk (inb x1 6) ((if (sI σ 9 (ix x1)) = (-1 : Int32) then (b_X12_doesGo_22 σ) else (b_X12_doesGo_23 ((1 : Int32)) σ)))))
set_option maxHeartbeats 4000000 in
set_option maxRecDepth 20000 in
theorem c_X12_doesGo_0 {X : CX} {Ω : OM} (hX : CF X Ω RX12 cX12_doesGo 2 (some .boolean) rm_X12_doesGo) (hO : OKO Ω) (hΩ : oSH Ω = SHM)   (σ : MS)  (x1 : Int32)    : GE X Ω 2 0 0 (emPI σ) 0 0 0 [(0, .ref 0), (1, .int x1)] [] σ (b_X12_doesGo_0  x1 σ) := by
  unfold b_X12_doesGo_0
  refine g_aload_n hX (dc_X12_doesGo 0 rfl) rfl 0 rfl ?_
  refine g_iload_n hX (dc_X12_doesGo 1 rfl) rfl 1 rfl ?_
  refine gV_PI (As := [.int x1]) (st := []) hX (dc_X12_doesGo 2 rfl) ml_X12_165 (con_X12_isWork hO hΩ x1 σ) (stS hΩ 0 rfl) rfl rfl ⟨by decide, by decide⟩ ⟨rfl, rfl⟩ ⟨Nat.zero_le _, Nat.zero_le _⟩ (Nat.le_of_ble_eq_true rfl) (fun r7 _ => ?_)
  refine g_if_eq (tgt := 22) hX (dc_X12_doesGo 3 rfl) (by decide) (fun h8 => ?_) (fun h8 => ?_)
  · exact g_sub [] rfl (c_X12_doesGo_22 hX hO hΩ σ)
  · refine g_aload_n hX (dc_X12_doesGo 4 rfl) rfl 0 rfl ?_
    refine g_getF (q := 9) hX (dc_X12_doesGo 5 rfl) fl_X12_34 (by decide) rfl (stS hΩ 0 rfl) rfl ?_
    refine g_iload_n hX (dc_X12_doesGo 6 rfl) rfl 1 rfl ?_
    refine g_chk (fun hc9 => ?_)
    refine g_iald hX (dc_X12_doesGo 7 rfl) (stS hΩ 9 rfl) hc9 rfl ?_
    refine g_iconst (w := (-1 : Int32)) hX (dc_X12_doesGo 8 rfl) (by decide) ?_
    refine g_icmp_eq (tgt := 22) hX (dc_X12_doesGo 9 rfl) (by decide) (fun h10 => ?_) (fun h10 => ?_)
    · exact g_sub [] rfl (c_X12_doesGo_22 hX hO hΩ σ)
    · refine g_iconst (w := (1 : Int32)) hX (dc_X12_doesGo 10 rfl) (by decide) ?_
      refine g_goto (tgt := 23) hX (dc_X12_doesGo 11 rfl) (by decide) ?_
      exact g_sub [] rfl (c_X12_doesGo_23 hX hO hΩ σ ((1 : Int32)))
def f_X12_doesGo (x1 : Int32) (σ : MS) : Option (Int32) := b_X12_doesGo_0  x1 σ
theorem con_X12_doesGo {Ω : OM} (hO : OKO Ω) (hΩ : oSH Ω = SHM) (x1 : Int32) (σ : MS)  : Con Ω yX12_doesGo cX12_doesGo 2 (some .boolean) rm_X12_doesGo (emPI σ) [.ref 0, .int x1] σ (f_X12_doesGo x1 σ) :=
  con_of hO (by decide +kernel) (Nat.le_of_ble_eq_true rfl) rfl (fun X hX _ => c_X12_doesGo_0 hX hO hΩ   σ x1)
def it_X12_put : List (Nat × Instr × Nat × Nat) := [(0, .bipush 24, 2, 2), (2, .istore_n 2, 1, 3), (3, .iload_n 2, 1, 4), (4, .ifCond .lt 32, 3, 7), (7, .aload_n 0, 1, 8), (8, .getfield 95, 3, 11), (11, .aload_n 0, 1, 12), (12, .getfield 169, 3, 15), (15, .iload_n 1, 1, 16), (16, .iload_n 2, 1, 17), (17, .ishr, 1, 18), (18, .i2b, 1, 19), (19, .bastore, 1, 20), (20, .aload_n 0, 1, 21), (21, .dup, 1, 22), (22, .getfield 169, 3, 25), (25, .iconst 1, 1, 26), (26, .iadd, 1, 27), (27, .putfield 169, 3, 30), (30, .iinc 2 (-8), 3, 33), (33, .goto (-30), 3, 36), (36, .return_, 1, 37)]
theorem id_X12_put : ∀ q ∈ it_X12_put, decode cX12_put q.1 = .ok (q.2.1, q.2.2.1) ∧ q.1 + q.2.2.1 = q.2.2.2 := by decide +kernel
theorem dc_X12_put {pc : Nat} {i : Instr} {n pc' : Nat} (j : Nat) (h : it_X12_put[j]? = some (pc, i, n, pc')) : Dc cX12_put pc i n pc' := dc_of id_X12_put j h
abbrev rm_X12_put : Room := { frames := 0, cells := 0, slots := 0, locals := 0 }
def b_X12_put_30  (k3 : Int32 → Int32 → MS → Option (MS))  (y1 : Int32) (y2 : Int32) (σ : MS) : Option (MS) := (k3 (y1) ((y2 + (-8 : Int32))) σ)
set_option maxHeartbeats 4000000 in
set_option maxRecDepth 20000 in
theorem c_X12_put_30 {X : CX} {Ω : OM} (hX : CF X Ω RX12 cX12_put 3 none rm_X12_put) (hO : OKO Ω) (hΩ : oSH Ω = SHM)   (k3 : Int32 → Int32 → MS → Option (MS)) (hk3 : ∀ (y1 : Int32) (y2 : Int32) (σ : MS) , GE X Ω 3 0 0 (emWV) 0 0 3 [(0, .ref 0), (1, .int y1), (2, .int y2)] [] σ (k3 y1 y2 σ))  (y1 : Int32) (y2 : Int32) (σ : MS)  : GE X Ω 3 0 0 (emWV) 0 0 30 [(0, .ref 0), (1, .int y1), (2, .int y2)] [] σ (b_X12_put_30  k3 y1 y2 σ) := by
  unfold b_X12_put_30
  refine g_iinc (w := (y2 + (-8 : Int32))) (L' := [(2, .int (y2 + (-8 : Int32))), (0, .ref 0), (1, .int y1)]) hX (dc_X12_put 19 rfl) 2 rfl rfl (by decide) rfl ?_
  refine g_goto (tgt := 3) hX (dc_X12_put 20 rfl) (by decide) ?_
  exact g_sub [1, 2, 0] rfl (hk3 (y1) ((y2 + (-8 : Int32))) σ )
def b_X12_put_3   : Nat → Int32 → Int32 → MS → Option (MS)
  | 0, _, _, _ => none
  | n + 1, y1, y2, σ => (if y2 < 0 then some (σ) else chk (inb (sI σ 0 29) 400) ((b_X12_put_30 (b_X12_put_3  n) (y1) (y2) (wI (wI σ 28 (ix (sI σ 0 29)) (vp_nar .byte ((y1 >>> (y2 &&& 31))).toInt8.toInt32)) 0 29 ((sI (wI σ 28 (ix (sI σ 0 29)) (vp_nar .byte ((y1 >>> (y2 &&& 31))).toInt8.toInt32)) 0 29) + (1 : Int32))))))
set_option maxHeartbeats 4000000 in
set_option maxRecDepth 20000 in
theorem c_X12_put_3 {X : CX} {Ω : OM} (hX : CF X Ω RX12 cX12_put 3 none rm_X12_put) (hO : OKO Ω) (hΩ : oSH Ω = SHM)    : ∀ (n : Nat) (y1 : Int32) (y2 : Int32) (σ : MS) , GE X Ω 3 0 0 (emWV) 0 0 3 [(0, .ref 0), (1, .int y1), (2, .int y2)] [] σ (b_X12_put_3  n y1 y2 σ)
  | 0, _, _, _ => g_none
  | n + 1, y1, y2, σ => by
    have hk3 := c_X12_put_3 hX hO hΩ  n
    unfold b_X12_put_3
    refine g_iload_n hX (dc_X12_put 2 rfl) rfl 2 rfl ?_
    refine g_if_lt (tgt := 36) hX (dc_X12_put 3 rfl) (by decide) (fun h3 => ?_) (fun h3 => ?_)
    · exact g_vret hX (dc_X12_put 21 rfl) rfl (Nat.le_refl _) (Nat.le_refl _)
    · refine g_aload_n hX (dc_X12_put 4 rfl) rfl 0 rfl ?_
      refine g_getF (q := 28) hX (dc_X12_put 5 rfl) fl_X12_95 (by decide) rfl (stS hΩ 0 rfl) rfl ?_
      refine g_aload_n hX (dc_X12_put 6 rfl) rfl 0 rfl ?_
      refine g_getI hX (dc_X12_put 7 rfl) fl_X12_169 (by decide) rfl (stS hΩ 0 rfl) ?_
      refine g_iload_n hX (dc_X12_put 8 rfl) rfl 1 rfl ?_
      refine g_iload_n hX (dc_X12_put 9 rfl) rfl 2 rfl ?_
      refine g_ishr hX (dc_X12_put 10 rfl) ?_
      refine g_i2b hX (dc_X12_put 11 rfl) ?_
      refine g_chk (fun hc4 => ?_)
      refine g_bast hX (dc_X12_put 12 rfl) (stS hΩ 28 rfl) hc4 rfl ?_
      refine g_aload_n hX (dc_X12_put 13 rfl) rfl 0 rfl ?_
      refine g_dup hX (dc_X12_put 14 rfl) rfl ?_
      refine g_getI hX (dc_X12_put 15 rfl) fl_X12_169 (by decide) rfl (stS hΩ 0 rfl) ?_
      refine g_iconst (w := (1 : Int32)) hX (dc_X12_put 16 rfl) (by decide) ?_
      refine g_iadd hX (dc_X12_put 17 rfl) ?_
      refine g_putI (raw := false) hX (dc_X12_put 18 rfl) fl_X12_169 (by decide) ⟨rfl, rfl⟩ ⟨rfl, rfl⟩ (stS hΩ 0 rfl) ?_
      exact g_sub [0, 1, 2] rfl (c_X12_put_30 hX hO hΩ _ hk3 (y1) (y2) (wI (wI σ 28 (ix (sI σ 0 29)) (vp_nar .byte ((y1 >>> (y2 &&& 31))).toInt8.toInt32)) 0 29 ((sI (wI σ 28 (ix (sI σ 0 29)) (vp_nar .byte ((y1 >>> (y2 &&& 31))).toInt8.toInt32)) 0 29) + (1 : Int32))))
def b_X12_put_0   (x1 : Int32)  (σ : MS) : Option (MS) := (b_X12_put_3 FU (x1) ((24 : Int32)) σ)
set_option maxHeartbeats 4000000 in
set_option maxRecDepth 20000 in
theorem c_X12_put_0 {X : CX} {Ω : OM} (hX : CF X Ω RX12 cX12_put 3 none rm_X12_put) (hO : OKO Ω) (hΩ : oSH Ω = SHM)    (x1 : Int32)  (σ : MS)  : GE X Ω 3 0 0 (emWV) 0 0 0 [(0, .ref 0), (1, .int x1)] [] σ (b_X12_put_0  x1 σ) := by
  unfold b_X12_put_0
  refine g_bipush (w := (24 : Int32)) hX (dc_X12_put 0 rfl) (by decide) ?_
  refine g_istore_n (L' := [(2, .int (24 : Int32)), (0, .ref 0), (1, .int x1)]) hX (dc_X12_put 1 rfl) rfl (by decide) rfl ?_
  exact g_sub [1, 2, 0] rfl (c_X12_put_3 hX hO hΩ FU (x1) ((24 : Int32)) σ)
def f_X12_put (x1 : Int32) (σ : MS) : Option (MS) := b_X12_put_0  x1 σ
theorem con_X12_put {Ω : OM} (hO : OKO Ω) (hΩ : oSH Ω = SHM) (x1 : Int32) (σ : MS)  : Con Ω yX12_put cX12_put 3 none rm_X12_put (emWV) [.ref 0, .int x1] σ (f_X12_put x1 σ) :=
  con_of hO (by decide +kernel) (Nat.le_of_ble_eq_true rfl) rfl (fun X hX _ => c_X12_put_0 hX hO hΩ   x1 σ )
def it_X12_feed : List (Nat × Instr × Nat × Nat) := [(0, .aload_n 0, 1, 1), (1, .getfield 169, 3, 4), (4, .bipush 20, 2, 6), (6, .iadd, 1, 7), (7, .sipush 400, 3, 10), (10, .if_icmp .le 5, 3, 13), (13, .iconst (-1), 1, 14), (14, .ireturn, 1, 15), (15, .aload_n 0, 1, 16), (16, .iload_n 1, 1, 17), (17, .invokevirtual 172, 3, 20), (20, .aload_n 0, 1, 21), (21, .iload_n 2, 1, 22), (22, .invokevirtual 172, 3, 25), (25, .aload_n 0, 1, 26), (26, .iload_n 3, 1, 27), (27, .invokevirtual 172, 3, 30), (30, .aload_n 0, 1, 31), (31, .iload 4, 2, 33), (33, .invokevirtual 172, 3, 36), (36, .aload_n 0, 1, 37), (37, .iload 5, 2, 39), (39, .invokevirtual 172, 3, 42), (42, .aload_n 0, 1, 43), (43, .getfield 169, 3, 46), (46, .ireturn, 1, 47)]
theorem id_X12_feed : ∀ q ∈ it_X12_feed, decode cX12_feed q.1 = .ok (q.2.1, q.2.2.1) ∧ q.1 + q.2.2.1 = q.2.2.2 := by decide +kernel
theorem dc_X12_feed {pc : Nat} {i : Instr} {n pc' : Nat} (j : Nat) (h : it_X12_feed[j]? = some (pc, i, n, pc')) : Dc cX12_feed pc i n pc' := dc_of id_X12_feed j h
abbrev rm_X12_feed : Room := { frames := 1, cells := 0, slots := 0, locals := 22 }
def b_X12_feed_0   (x1 : Int32) (x2 : Int32) (x3 : Int32) (x4 : Int32) (x5 : Int32)  (σ : MS) : Option (Int32 × MS) := (if ((sI σ 0 29) + (20 : Int32)) ≤ (400 : Int32) then (f_X12_put x1 σ).bind (fun r8 => (f_X12_put x2 r8).bind (fun r9 => (f_X12_put x3 r9).bind (fun r10 => (f_X12_put x4 r10).bind (fun r11 => (f_X12_put x5 r11).bind (fun r12 => some ((sI r12 0 29), r12)))))) else some ((-1 : Int32), σ))
set_option maxHeartbeats 4000000 in
set_option maxRecDepth 20000 in
theorem c_X12_feed_0 {X : CX} {Ω : OM} (hX : CF X Ω RX12 cX12_feed 6 (some .int) rm_X12_feed) (hO : OKO Ω) (hΩ : oSH Ω = SHM)    (x1 : Int32) (x2 : Int32) (x3 : Int32) (x4 : Int32) (x5 : Int32)  (σ : MS)  : GE X Ω 6 0 0 (emWI) 0 0 0 [(0, .ref 0), (1, .int x1), (2, .int x2), (3, .int x3), (4, .int x4), (5, .int x5)] [] σ (b_X12_feed_0  x1 x2 x3 x4 x5 σ) := by
  unfold b_X12_feed_0
  refine g_aload_n hX (dc_X12_feed 0 rfl) rfl 0 rfl ?_
  refine g_getI hX (dc_X12_feed 1 rfl) fl_X12_169 (by decide) rfl (stS hΩ 0 rfl) ?_
  refine g_bipush (w := (20 : Int32)) hX (dc_X12_feed 2 rfl) (by decide) ?_
  refine g_iadd hX (dc_X12_feed 3 rfl) ?_
  refine g_sipush (w := (400 : Int32)) hX (dc_X12_feed 4 rfl) (by decide) ?_
  refine g_icmp_le (tgt := 15) hX (dc_X12_feed 5 rfl) (by decide) (fun h7 => ?_) (fun h7 => ?_)
  · refine g_aload_n hX (dc_X12_feed 8 rfl) rfl 0 rfl ?_
    refine g_iload_n hX (dc_X12_feed 9 rfl) rfl 1 rfl ?_
    refine gV_WV (As := [.int x1]) (st := []) hX (dc_X12_feed 10 rfl) ml_X12_172 (con_X12_put hO hΩ x1 σ) (stS hΩ 0 rfl) rfl rfl ⟨by decide, by decide⟩ ⟨rfl, rfl⟩ ⟨Nat.zero_le _, Nat.zero_le _⟩ (Nat.le_of_ble_eq_true rfl) (fun r8 _ => ?_)
    refine g_aload_n hX (dc_X12_feed 11 rfl) rfl 0 rfl ?_
    refine g_iload_n hX (dc_X12_feed 12 rfl) rfl 2 rfl ?_
    refine gV_WV (As := [.int x2]) (st := []) hX (dc_X12_feed 13 rfl) ml_X12_172 (con_X12_put hO hΩ x2 r8) (stS hΩ 0 rfl) rfl rfl ⟨by decide, by decide⟩ ⟨rfl, rfl⟩ ⟨Nat.zero_le _, Nat.zero_le _⟩ (Nat.le_of_ble_eq_true rfl) (fun r9 _ => ?_)
    refine g_aload_n hX (dc_X12_feed 14 rfl) rfl 0 rfl ?_
    refine g_iload_n hX (dc_X12_feed 15 rfl) rfl 3 rfl ?_
    refine gV_WV (As := [.int x3]) (st := []) hX (dc_X12_feed 16 rfl) ml_X12_172 (con_X12_put hO hΩ x3 r9) (stS hΩ 0 rfl) rfl rfl ⟨by decide, by decide⟩ ⟨rfl, rfl⟩ ⟨Nat.zero_le _, Nat.zero_le _⟩ (Nat.le_of_ble_eq_true rfl) (fun r10 _ => ?_)
    refine g_aload_n hX (dc_X12_feed 17 rfl) rfl 0 rfl ?_
    refine g_iload hX (dc_X12_feed 18 rfl) 4 rfl ?_
    refine gV_WV (As := [.int x4]) (st := []) hX (dc_X12_feed 19 rfl) ml_X12_172 (con_X12_put hO hΩ x4 r10) (stS hΩ 0 rfl) rfl rfl ⟨by decide, by decide⟩ ⟨rfl, rfl⟩ ⟨Nat.zero_le _, Nat.zero_le _⟩ (Nat.le_of_ble_eq_true rfl) (fun r11 _ => ?_)
    refine g_aload_n hX (dc_X12_feed 20 rfl) rfl 0 rfl ?_
    refine g_iload hX (dc_X12_feed 21 rfl) 5 rfl ?_
    refine gV_WV (As := [.int x5]) (st := []) hX (dc_X12_feed 22 rfl) ml_X12_172 (con_X12_put hO hΩ x5 r11) (stS hΩ 0 rfl) rfl rfl ⟨by decide, by decide⟩ ⟨rfl, rfl⟩ ⟨Nat.zero_le _, Nat.zero_le _⟩ (Nat.le_of_ble_eq_true rfl) (fun r12 _ => ?_)
    refine g_aload_n hX (dc_X12_feed 23 rfl) rfl 0 rfl ?_
    refine g_getI hX (dc_X12_feed 24 rfl) fl_X12_169 (by decide) rfl (stS hΩ 0 rfl) ?_
    exact g_iret hX (dc_X12_feed 25 rfl) rfl rfl (Nat.le_refl _) (Nat.le_refl _)
  · refine g_iconst (w := (-1 : Int32)) hX (dc_X12_feed 6 rfl) (by decide) ?_
    exact g_iret hX (dc_X12_feed 7 rfl) rfl rfl (Nat.le_refl _) (Nat.le_refl _)
def f_X12_feed (x1 : Int32) (x2 : Int32) (x3 : Int32) (x4 : Int32) (x5 : Int32) (σ : MS) : Option (Int32 × MS) := b_X12_feed_0  x1 x2 x3 x4 x5 σ
theorem con_X12_feed {Ω : OM} (hO : OKO Ω) (hΩ : oSH Ω = SHM) (x1 : Int32) (x2 : Int32) (x3 : Int32) (x4 : Int32) (x5 : Int32) (σ : MS)  : Con Ω yX12_feed cX12_feed 6 (some .int) rm_X12_feed (emWI) [.ref 0, .int x1, .int x2, .int x3, .int x4, .int x5] σ (f_X12_feed x1 x2 x3 x4 x5 σ) :=
  con_of hO (by decide +kernel) (Nat.le_of_ble_eq_true rfl) rfl (fun X hX _ => c_X12_feed_0 hX hO hΩ   x1 x2 x3 x4 x5 σ )
def it_X12_end : List (Nat × Instr × Nat × Nat) := [(0, .iload_n 1, 1, 1), (1, .ifCond .lt 11, 3, 4), (4, .iload_n 1, 1, 5), (5, .aload_n 0, 1, 6), (6, .getfield 169, 3, 9), (9, .if_icmp .le 5, 3, 12), (12, .iconst (-1), 1, 13), (13, .ireturn, 1, 14), (14, .aload_n 0, 1, 15), (15, .iload_n 1, 1, 16), (16, .putfield 169, 3, 19), (19, .iload_n 1, 1, 20), (20, .ireturn, 1, 21)]
theorem id_X12_end : ∀ q ∈ it_X12_end, decode cX12_end q.1 = .ok (q.2.1, q.2.2.1) ∧ q.1 + q.2.2.1 = q.2.2.2 := by decide +kernel
theorem dc_X12_end {pc : Nat} {i : Instr} {n pc' : Nat} (j : Nat) (h : it_X12_end[j]? = some (pc, i, n, pc')) : Dc cX12_end pc i n pc' := dc_of id_X12_end j h
abbrev rm_X12_end : Room := { frames := 0, cells := 0, slots := 0, locals := 0 }
def b_X12_end_12     (σ : MS) : Option (Int32 × MS) := some ((-1 : Int32), σ)
set_option maxHeartbeats 4000000 in
set_option maxRecDepth 20000 in
theorem c_X12_end_12 {X : CX} {Ω : OM} (hX : CF X Ω RX12 cX12_end 2 (some .int) rm_X12_end) (hO : OKO Ω) (hΩ : oSH Ω = SHM)      (σ : MS)  : GE X Ω 2 0 0 (emWI) 0 0 12 [] [] σ (b_X12_end_12  σ) := by
  unfold b_X12_end_12
  refine g_iconst (w := (-1 : Int32)) hX (dc_X12_end 6 rfl) (by decide) ?_
  exact g_iret hX (dc_X12_end 7 rfl) rfl rfl (Nat.le_refl _) (Nat.le_refl _)
def b_X12_end_0   (x1 : Int32)  (σ : MS) : Option (Int32 × MS) := (if x1 < 0 then (b_X12_end_12 σ) else (if x1 ≤ (sI σ 0 29) then some (x1, (wI σ 0 29 x1)) else (b_X12_end_12 σ)))
set_option maxHeartbeats 4000000 in
set_option maxRecDepth 20000 in
theorem c_X12_end_0 {X : CX} {Ω : OM} (hX : CF X Ω RX12 cX12_end 2 (some .int) rm_X12_end) (hO : OKO Ω) (hΩ : oSH Ω = SHM)    (x1 : Int32)  (σ : MS)  : GE X Ω 2 0 0 (emWI) 0 0 0 [(0, .ref 0), (1, .int x1)] [] σ (b_X12_end_0  x1 σ) := by
  unfold b_X12_end_0
  refine g_iload_n hX (dc_X12_end 0 rfl) rfl 1 rfl ?_
  refine g_if_lt (tgt := 12) hX (dc_X12_end 1 rfl) (by decide) (fun h3 => ?_) (fun h3 => ?_)
  · exact g_sub [] rfl (c_X12_end_12 hX hO hΩ σ)
  · refine g_iload_n hX (dc_X12_end 2 rfl) rfl 1 rfl ?_
    refine g_aload_n hX (dc_X12_end 3 rfl) rfl 0 rfl ?_
    refine g_getI hX (dc_X12_end 4 rfl) fl_X12_169 (by decide) rfl (stS hΩ 0 rfl) ?_
    refine g_icmp_le (tgt := 14) hX (dc_X12_end 5 rfl) (by decide) (fun h4 => ?_) (fun h4 => ?_)
    · refine g_aload_n hX (dc_X12_end 8 rfl) rfl 0 rfl ?_
      refine g_iload_n hX (dc_X12_end 9 rfl) rfl 1 rfl ?_
      refine g_putI (raw := false) hX (dc_X12_end 10 rfl) fl_X12_169 (by decide) ⟨rfl, rfl⟩ ⟨rfl, rfl⟩ (stS hΩ 0 rfl) ?_
      refine g_iload_n hX (dc_X12_end 11 rfl) rfl 1 rfl ?_
      exact g_iret hX (dc_X12_end 12 rfl) rfl rfl (Nat.le_refl _) (Nat.le_refl _)
    · exact g_sub [] rfl (c_X12_end_12 hX hO hΩ σ)
def f_X12_end (x1 : Int32) (σ : MS) : Option (Int32 × MS) := b_X12_end_0  x1 σ
theorem con_X12_end {Ω : OM} (hO : OKO Ω) (hΩ : oSH Ω = SHM) (x1 : Int32) (σ : MS)  : Con Ω yX12_end cX12_end 2 (some .int) rm_X12_end (emWI) [.ref 0, .int x1] σ (f_X12_end x1 σ) :=
  con_of hO (by decide +kernel) (Nat.le_of_ble_eq_true rfl) rfl (fun X hX _ => c_X12_end_0 hX hO hΩ   x1 σ )
def it_X12_wordOf : List (Nat × Instr × Nat × Nat) := [(0, .iload_n 0, 1, 1), (1, .tableswitch 92 0 10 #[59, 62, 65, 68, 71, 74, 77, 80, 83, 86, 89], 59, 60), (60, .ldc 176, 2, 62), (62, .areturn, 1, 63), (63, .ldc 178, 2, 65), (65, .areturn, 1, 66), (66, .ldc 180, 2, 68), (68, .areturn, 1, 69), (69, .ldc 182, 2, 71), (71, .areturn, 1, 72), (72, .ldc 184, 2, 74), (74, .areturn, 1, 75), (75, .ldc 185, 2, 77), (77, .areturn, 1, 78), (78, .ldc 186, 2, 80), (80, .areturn, 1, 81), (81, .ldc 188, 2, 83), (83, .areturn, 1, 84), (84, .ldc 189, 2, 86), (86, .areturn, 1, 87), (87, .ldc 191, 2, 89), (89, .areturn, 1, 90), (90, .ldc 193, 2, 92), (92, .areturn, 1, 93), (93, .ldc 195, 2, 95), (95, .areturn, 1, 96)]
theorem id_X12_wordOf : ∀ q ∈ it_X12_wordOf, decode cX12_wordOf q.1 = .ok (q.2.1, q.2.2.1) ∧ q.1 + q.2.2.1 = q.2.2.2 := by decide +kernel
theorem dc_X12_wordOf {pc : Nat} {i : Instr} {n pc' : Nat} (j : Nat) (h : it_X12_wordOf[j]? = some (pc, i, n, pc')) : Dc cX12_wordOf pc i n pc' := dc_of id_X12_wordOf j h
abbrev rm_X12_wordOf : Room := { frames := 0, cells := 0, slots := 0, locals := 0 }
def b_X12_wordOf_0   (x0 : Int32)   : Option (Nat) := (if x0 = (0 : Int32) then some 5 else (if x0 = (1 : Int32) then some 6 else (if x0 = (2 : Int32) then some 4 else (if x0 = (3 : Int32) then some 10 else (if x0 = (4 : Int32) then some 11 else (if x0 = (5 : Int32) then some 12 else (if x0 = (6 : Int32) then some 13 else (if x0 = (7 : Int32) then some 14 else (if x0 = (8 : Int32) then some 15 else (if x0 = (9 : Int32) then some 16 else (if x0 = (10 : Int32) then some 17 else some 18)))))))))))
set_option maxHeartbeats 4000000 in
set_option maxRecDepth 20000 in
theorem c_X12_wordOf_0 {X : CX} {Ω : OM} (hX : CF X Ω RX12 cX12_wordOf 1 (some (.object "java/lang/String")) rm_X12_wordOf) (hO : OKO Ω) (hΩ : oSH Ω = SHM)   (σ : MS)  (x0 : Int32)    : GE X Ω 1 0 0 (emPS σ) 0 0 0 [(0, .int x0)] [] σ (b_X12_wordOf_0  x0) := by
  unfold b_X12_wordOf_0
  refine g_iload_n hX (dc_X12_wordOf 0 rfl) rfl 0 rfl ?_
  refine g_ite (fun h12 => ?_) (fun h12 => ?_)
  · refine g_tsIn (off := 59) (tgt := 60) hX (dc_X12_wordOf 1 rfl) (by rw [h12]; decide) (by rw [h12]; decide) (by rw [h12]; rfl) (by decide) ?_
    refine g_ldcS (i := 5) hX (dc_X12_wordOf 2 rfl) (by decide) rfl ?_
    exact g_aret (r := some ((1000000 + 5))) hX (dc_X12_wordOf 3 rfl) (Or.inl ⟨_, rfl⟩) rfl (Nat.le_refl _) (Nat.le_refl _)
  · refine g_ite (fun h13 => ?_) (fun h13 => ?_)
    · refine g_tsIn (off := 62) (tgt := 63) hX (dc_X12_wordOf 1 rfl) (by rw [h13]; decide) (by rw [h13]; decide) (by rw [h13]; rfl) (by decide) ?_
      refine g_ldcS (i := 6) hX (dc_X12_wordOf 4 rfl) (by decide) rfl ?_
      exact g_aret (r := some ((1000000 + 6))) hX (dc_X12_wordOf 5 rfl) (Or.inl ⟨_, rfl⟩) rfl (Nat.le_refl _) (Nat.le_refl _)
    · refine g_ite (fun h14 => ?_) (fun h14 => ?_)
      · refine g_tsIn (off := 65) (tgt := 66) hX (dc_X12_wordOf 1 rfl) (by rw [h14]; decide) (by rw [h14]; decide) (by rw [h14]; rfl) (by decide) ?_
        refine g_ldcS (i := 4) hX (dc_X12_wordOf 6 rfl) (by decide) rfl ?_
        exact g_aret (r := some ((1000000 + 4))) hX (dc_X12_wordOf 7 rfl) (Or.inl ⟨_, rfl⟩) rfl (Nat.le_refl _) (Nat.le_refl _)
      · refine g_ite (fun h15 => ?_) (fun h15 => ?_)
        · refine g_tsIn (off := 68) (tgt := 69) hX (dc_X12_wordOf 1 rfl) (by rw [h15]; decide) (by rw [h15]; decide) (by rw [h15]; rfl) (by decide) ?_
          refine g_ldcS (i := 10) hX (dc_X12_wordOf 8 rfl) (by decide) rfl ?_
          exact g_aret (r := some ((1000000 + 10))) hX (dc_X12_wordOf 9 rfl) (Or.inl ⟨_, rfl⟩) rfl (Nat.le_refl _) (Nat.le_refl _)
        · refine g_ite (fun h16 => ?_) (fun h16 => ?_)
          · refine g_tsIn (off := 71) (tgt := 72) hX (dc_X12_wordOf 1 rfl) (by rw [h16]; decide) (by rw [h16]; decide) (by rw [h16]; rfl) (by decide) ?_
            refine g_ldcS (i := 11) hX (dc_X12_wordOf 10 rfl) (by decide) rfl ?_
            exact g_aret (r := some ((1000000 + 11))) hX (dc_X12_wordOf 11 rfl) (Or.inl ⟨_, rfl⟩) rfl (Nat.le_refl _) (Nat.le_refl _)
          · refine g_ite (fun h17 => ?_) (fun h17 => ?_)
            · refine g_tsIn (off := 74) (tgt := 75) hX (dc_X12_wordOf 1 rfl) (by rw [h17]; decide) (by rw [h17]; decide) (by rw [h17]; rfl) (by decide) ?_
              refine g_ldcS (i := 12) hX (dc_X12_wordOf 12 rfl) (by decide) rfl ?_
              exact g_aret (r := some ((1000000 + 12))) hX (dc_X12_wordOf 13 rfl) (Or.inl ⟨_, rfl⟩) rfl (Nat.le_refl _) (Nat.le_refl _)
            · refine g_ite (fun h18 => ?_) (fun h18 => ?_)
              · refine g_tsIn (off := 77) (tgt := 78) hX (dc_X12_wordOf 1 rfl) (by rw [h18]; decide) (by rw [h18]; decide) (by rw [h18]; rfl) (by decide) ?_
                refine g_ldcS (i := 13) hX (dc_X12_wordOf 14 rfl) (by decide) rfl ?_
                exact g_aret (r := some ((1000000 + 13))) hX (dc_X12_wordOf 15 rfl) (Or.inl ⟨_, rfl⟩) rfl (Nat.le_refl _) (Nat.le_refl _)
              · refine g_ite (fun h19 => ?_) (fun h19 => ?_)
                · refine g_tsIn (off := 80) (tgt := 81) hX (dc_X12_wordOf 1 rfl) (by rw [h19]; decide) (by rw [h19]; decide) (by rw [h19]; rfl) (by decide) ?_
                  refine g_ldcS (i := 14) hX (dc_X12_wordOf 16 rfl) (by decide) rfl ?_
                  exact g_aret (r := some ((1000000 + 14))) hX (dc_X12_wordOf 17 rfl) (Or.inl ⟨_, rfl⟩) rfl (Nat.le_refl _) (Nat.le_refl _)
                · refine g_ite (fun h20 => ?_) (fun h20 => ?_)
                  · refine g_tsIn (off := 83) (tgt := 84) hX (dc_X12_wordOf 1 rfl) (by rw [h20]; decide) (by rw [h20]; decide) (by rw [h20]; rfl) (by decide) ?_
                    refine g_ldcS (i := 15) hX (dc_X12_wordOf 18 rfl) (by decide) rfl ?_
                    exact g_aret (r := some ((1000000 + 15))) hX (dc_X12_wordOf 19 rfl) (Or.inl ⟨_, rfl⟩) rfl (Nat.le_refl _) (Nat.le_refl _)
                  · refine g_ite (fun h21 => ?_) (fun h21 => ?_)
                    · refine g_tsIn (off := 86) (tgt := 87) hX (dc_X12_wordOf 1 rfl) (by rw [h21]; decide) (by rw [h21]; decide) (by rw [h21]; rfl) (by decide) ?_
                      refine g_ldcS (i := 16) hX (dc_X12_wordOf 20 rfl) (by decide) rfl ?_
                      exact g_aret (r := some ((1000000 + 16))) hX (dc_X12_wordOf 21 rfl) (Or.inl ⟨_, rfl⟩) rfl (Nat.le_refl _) (Nat.le_refl _)
                    · refine g_ite (fun h22 => ?_) (fun h22 => ?_)
                      · refine g_tsIn (off := 89) (tgt := 90) hX (dc_X12_wordOf 1 rfl) (by rw [h22]; decide) (by rw [h22]; decide) (by rw [h22]; rfl) (by decide) ?_
                        refine g_ldcS (i := 17) hX (dc_X12_wordOf 22 rfl) (by decide) rfl ?_
                        exact g_aret (r := some ((1000000 + 17))) hX (dc_X12_wordOf 23 rfl) (Or.inl ⟨_, rfl⟩) rfl (Nat.le_refl _) (Nat.le_refl _)
                      · refine g_tsOut (tgt := 93) hX (dc_X12_wordOf 1 rfl) (by have e0 := i32ne h12 (k := 0) (by decide); have e1 := i32ne h13 (k := 1) (by decide); have e2 := i32ne h14 (k := 2) (by decide); have e3 := i32ne h15 (k := 3) (by decide); have e4 := i32ne h16 (k := 4) (by decide); have e5 := i32ne h17 (k := 5) (by decide); have e6 := i32ne h18 (k := 6) (by decide); have e7 := i32ne h19 (k := 7) (by decide); have e8 := i32ne h20 (k := 8) (by decide); have e9 := i32ne h21 (k := 9) (by decide); have e10 := i32ne h22 (k := 10) (by decide); omega) (by decide) ?_
                        refine g_ldcS (i := 18) hX (dc_X12_wordOf 24 rfl) (by decide) rfl ?_
                        exact g_aret (r := some ((1000000 + 18))) hX (dc_X12_wordOf 25 rfl) (Or.inl ⟨_, rfl⟩) rfl (Nat.le_refl _) (Nat.le_refl _)
def f_X12_wordOf (x0 : Int32)  : Option (Nat) := b_X12_wordOf_0  x0 
theorem con_X12_wordOf {Ω : OM} (hO : OKO Ω) (hΩ : oSH Ω = SHM) (x0 : Int32) (σ : MS)  : Con Ω yX12_wordOf cX12_wordOf 1 (some (.object "java/lang/String")) rm_X12_wordOf (emPS σ) [.int x0] σ (f_X12_wordOf x0 ) :=
  con_of hO (by decide +kernel) (Nat.le_of_ble_eq_true rfl) rfl (fun X hX _ => c_X12_wordOf_0 hX hO hΩ   σ x0)
def it_X12_fails : List (Nat × Instr × Nat × Nat) := [(0, .aload_n 0, 1, 1), (1, .aload_n 0, 1, 2), (2, .getfield 196, 3, 5), (5, .ifCond .ne 14, 3, 8), (8, .iconst 1, 1, 9), (9, .bipush 8, 2, 11), (11, .iload_n 2, 1, 12), (12, .imul, 1, 13), (13, .iadd, 1, 14), (14, .iload_n 1, 1, 15), (15, .iadd, 1, 16), (16, .goto 7, 3, 19), (19, .aload_n 0, 1, 20), (20, .getfield 196, 3, 23), (23, .putfield 196, 3, 26), (26, .return_, 1, 27)]
theorem id_X12_fails : ∀ q ∈ it_X12_fails, decode cX12_fails q.1 = .ok (q.2.1, q.2.2.1) ∧ q.1 + q.2.2.1 = q.2.2.2 := by decide +kernel
theorem dc_X12_fails {pc : Nat} {i : Instr} {n pc' : Nat} (j : Nat) (h : it_X12_fails[j]? = some (pc, i, n, pc')) : Dc cX12_fails pc i n pc' := dc_of id_X12_fails j h
abbrev rm_X12_fails : Room := { frames := 0, cells := 0, slots := 0, locals := 0 }
def b_X12_fails_23    (s0 : Int32) (σ : MS) : Option (MS) := some ((wI σ 0 31 s0))
set_option maxHeartbeats 4000000 in
set_option maxRecDepth 20000 in
theorem c_X12_fails_23 {X : CX} {Ω : OM} (hX : CF X Ω RX12 cX12_fails 3 none rm_X12_fails) (hO : OKO Ω) (hΩ : oSH Ω = SHM)     (s0 : Int32) (σ : MS)  : GE X Ω 3 0 0 (emWV) 0 0 23 [] [.int s0, .ref 0] σ (b_X12_fails_23  s0 σ) := by
  unfold b_X12_fails_23
  refine g_putI (raw := false) hX (dc_X12_fails 14 rfl) fl_X12_196 (by decide) ⟨rfl, rfl⟩ ⟨rfl, rfl⟩ (stS hΩ 0 rfl) ?_
  exact g_vret hX (dc_X12_fails 15 rfl) rfl (Nat.le_refl _) (Nat.le_refl _)
def b_X12_fails_0   (x1 : Int32) (x2 : Int32)  (σ : MS) : Option (MS) := (if (sI σ 0 31) = 0 then (b_X12_fails_23 ((((1 : Int32) + ((8 : Int32) * x2)) + x1)) σ) else (b_X12_fails_23 ((sI σ 0 31)) σ))
set_option maxHeartbeats 4000000 in
set_option maxRecDepth 20000 in
theorem c_X12_fails_0 {X : CX} {Ω : OM} (hX : CF X Ω RX12 cX12_fails 3 none rm_X12_fails) (hO : OKO Ω) (hΩ : oSH Ω = SHM)    (x1 : Int32) (x2 : Int32)  (σ : MS)  : GE X Ω 3 0 0 (emWV) 0 0 0 [(0, .ref 0), (1, .int x1), (2, .int x2)] [] σ (b_X12_fails_0  x1 x2 σ) := by
  unfold b_X12_fails_0
  refine g_aload_n hX (dc_X12_fails 0 rfl) rfl 0 rfl ?_
  refine g_aload_n hX (dc_X12_fails 1 rfl) rfl 0 rfl ?_
  refine g_getI hX (dc_X12_fails 2 rfl) fl_X12_196 (by decide) rfl (stS hΩ 0 rfl) ?_
  refine g_if_ne (tgt := 19) hX (dc_X12_fails 3 rfl) (by decide) (fun h2 => ?_) (fun h2 => ?_)
  · refine g_iconst (w := (1 : Int32)) hX (dc_X12_fails 4 rfl) (by decide) ?_
    refine g_bipush (w := (8 : Int32)) hX (dc_X12_fails 5 rfl) (by decide) ?_
    refine g_iload_n hX (dc_X12_fails 6 rfl) rfl 2 rfl ?_
    refine g_imul hX (dc_X12_fails 7 rfl) ?_
    refine g_iadd hX (dc_X12_fails 8 rfl) ?_
    refine g_iload_n hX (dc_X12_fails 9 rfl) rfl 1 rfl ?_
    refine g_iadd hX (dc_X12_fails 10 rfl) ?_
    refine g_goto (tgt := 23) hX (dc_X12_fails 11 rfl) (by decide) ?_
    exact g_sub [] rfl (c_X12_fails_23 hX hO hΩ ((((1 : Int32) + ((8 : Int32) * x2)) + x1)) σ)
  · refine g_aload_n hX (dc_X12_fails 12 rfl) rfl 0 rfl ?_
    refine g_getI hX (dc_X12_fails 13 rfl) fl_X12_196 (by decide) rfl (stS hΩ 0 rfl) ?_
    exact g_sub [] rfl (c_X12_fails_23 hX hO hΩ ((sI σ 0 31)) σ)
def f_X12_fails (x1 : Int32) (x2 : Int32) (σ : MS) : Option (MS) := b_X12_fails_0  x1 x2 σ
theorem con_X12_fails {Ω : OM} (hO : OKO Ω) (hΩ : oSH Ω = SHM) (x1 : Int32) (x2 : Int32) (σ : MS)  : Con Ω yX12_fails cX12_fails 3 none rm_X12_fails (emWV) [.ref 0, .int x1, .int x2] σ (f_X12_fails x1 x2 σ) :=
  con_of hO (by decide +kernel) (Nat.le_of_ble_eq_true rfl) rfl (fun X hX _ => c_X12_fails_0 hX hO hΩ   x1 x2 σ )
def it_X12_sign : List (Nat × Instr × Nat × Nat) := [(0, .aload_n 0, 1, 1), (1, .getfield 199, 3, 4), (4, .aload_n 0, 1, 5), (5, .getfield 169, 3, 8), (8, .if_icmp .ge 19, 3, 11), (11, .aload_n 0, 1, 12), (12, .getfield 95, 3, 15), (15, .aload_n 0, 1, 16), (16, .getfield 199, 3, 19), (19, .baload, 1, 20), (20, .sipush 255, 3, 23), (23, .iand, 1, 24), (24, .goto 4, 3, 27), (27, .iconst (-1), 1, 28), (28, .ireturn, 1, 29)]
theorem id_X12_sign : ∀ q ∈ it_X12_sign, decode cX12_sign q.1 = .ok (q.2.1, q.2.2.1) ∧ q.1 + q.2.2.1 = q.2.2.2 := by decide +kernel
theorem dc_X12_sign {pc : Nat} {i : Instr} {n pc' : Nat} (j : Nat) (h : it_X12_sign[j]? = some (pc, i, n, pc')) : Dc cX12_sign pc i n pc' := dc_of id_X12_sign j h
abbrev rm_X12_sign : Room := { frames := 0, cells := 0, slots := 0, locals := 0 }
def b_X12_sign_28    (s0 : Int32) (σ : MS) : Option (Int32) := some s0
set_option maxHeartbeats 4000000 in
set_option maxRecDepth 20000 in
theorem c_X12_sign_28 {X : CX} {Ω : OM} (hX : CF X Ω RX12 cX12_sign 1 (some .int) rm_X12_sign) (hO : OKO Ω) (hΩ : oSH Ω = SHM)   (σ : MS)   (s0 : Int32)   : GE X Ω 1 0 0 (emPI σ) 0 0 28 [] [.int s0] σ (b_X12_sign_28  s0 σ) := by
  unfold b_X12_sign_28
  exact g_iret hX (dc_X12_sign 14 rfl) rfl rfl (Nat.le_refl _) (Nat.le_refl _)
def b_X12_sign_0     (σ : MS) : Option (Int32) := (if (sI σ 0 29) ≤ (sI σ 0 30) then (b_X12_sign_28 ((-1 : Int32)) σ) else chk (inb (sI σ 0 30) 400) ((b_X12_sign_28 (((sI σ 28 (ix (sI σ 0 30))) &&& (255 : Int32))) σ)))
set_option maxHeartbeats 4000000 in
set_option maxRecDepth 20000 in
theorem c_X12_sign_0 {X : CX} {Ω : OM} (hX : CF X Ω RX12 cX12_sign 1 (some .int) rm_X12_sign) (hO : OKO Ω) (hΩ : oSH Ω = SHM)   (σ : MS)      : GE X Ω 1 0 0 (emPI σ) 0 0 0 [(0, .ref 0)] [] σ (b_X12_sign_0  σ) := by
  unfold b_X12_sign_0
  refine g_aload_n hX (dc_X12_sign 0 rfl) rfl 0 rfl ?_
  refine g_getI hX (dc_X12_sign 1 rfl) fl_X12_199 (by decide) rfl (stS hΩ 0 rfl) ?_
  refine g_aload_n hX (dc_X12_sign 2 rfl) rfl 0 rfl ?_
  refine g_getI hX (dc_X12_sign 3 rfl) fl_X12_169 (by decide) rfl (stS hΩ 0 rfl) ?_
  refine g_icmp_ge (tgt := 27) hX (dc_X12_sign 4 rfl) (by decide) (fun h3 => ?_) (fun h3 => ?_)
  · refine g_iconst (w := (-1 : Int32)) hX (dc_X12_sign 13 rfl) (by decide) ?_
    exact g_sub [] rfl (c_X12_sign_28 hX hO hΩ σ ((-1 : Int32)))
  · refine g_aload_n hX (dc_X12_sign 5 rfl) rfl 0 rfl ?_
    refine g_getF (q := 28) hX (dc_X12_sign 6 rfl) fl_X12_95 (by decide) rfl (stS hΩ 0 rfl) rfl ?_
    refine g_aload_n hX (dc_X12_sign 7 rfl) rfl 0 rfl ?_
    refine g_getI hX (dc_X12_sign 8 rfl) fl_X12_199 (by decide) rfl (stS hΩ 0 rfl) ?_
    refine g_chk (fun hc4 => ?_)
    refine g_bald hX (dc_X12_sign 9 rfl) (stS hΩ 28 rfl) hc4 rfl ?_
    refine g_sipush (w := (255 : Int32)) hX (dc_X12_sign 10 rfl) (by decide) ?_
    refine g_iand hX (dc_X12_sign 11 rfl) ?_
    refine g_goto (tgt := 28) hX (dc_X12_sign 12 rfl) (by decide) ?_
    exact g_sub [] rfl (c_X12_sign_28 hX hO hΩ σ (((sI σ 28 (ix (sI σ 0 30))) &&& (255 : Int32))))
def f_X12_sign  (σ : MS) : Option (Int32) := b_X12_sign_0   σ
theorem con_X12_sign {Ω : OM} (hO : OKO Ω) (hΩ : oSH Ω = SHM)  (σ : MS)  : Con Ω yX12_sign cX12_sign 1 (some .int) rm_X12_sign (emPI σ) [.ref 0] σ (f_X12_sign  σ) :=
  con_of hO (by decide +kernel) (Nat.le_of_ble_eq_true rfl) rfl (fun X hX _ => c_X12_sign_0 hX hO hΩ   σ )
def it_X12_blanks : List (Nat × Instr × Nat × Nat) := [(0, .aload_n 0, 1, 1), (1, .invokevirtual 202, 3, 4), (4, .bipush 32, 2, 6), (6, .if_icmp .ne 16, 3, 9), (9, .aload_n 0, 1, 10), (10, .dup, 1, 11), (11, .getfield 199, 3, 14), (14, .iconst 1, 1, 15), (15, .iadd, 1, 16), (16, .putfield 199, 3, 19), (19, .goto (-19), 3, 22), (22, .return_, 1, 23)]
theorem id_X12_blanks : ∀ q ∈ it_X12_blanks, decode cX12_blanks q.1 = .ok (q.2.1, q.2.2.1) ∧ q.1 + q.2.2.1 = q.2.2.2 := by decide +kernel
theorem dc_X12_blanks {pc : Nat} {i : Instr} {n pc' : Nat} (j : Nat) (h : it_X12_blanks[j]? = some (pc, i, n, pc')) : Dc cX12_blanks pc i n pc' := dc_of id_X12_blanks j h
abbrev rm_X12_blanks : Room := { frames := 1, cells := 0, slots := 0, locals := 20 }
def b_X12_blanks_0   : Nat → MS → Option (MS)
  | 0, _ => none
  | n + 1, σ => (f_X12_sign σ).bind (fun r3 => (if r3 = (32 : Int32) then ((b_X12_blanks_0  n) (wI σ 0 30 ((sI σ 0 30) + (1 : Int32)))) else some (σ)))
set_option maxHeartbeats 4000000 in
set_option maxRecDepth 20000 in
theorem c_X12_blanks_0 {X : CX} {Ω : OM} (hX : CF X Ω RX12 cX12_blanks 1 none rm_X12_blanks) (hO : OKO Ω) (hΩ : oSH Ω = SHM)    : ∀ (n : Nat)  (σ : MS) , GE X Ω 1 0 0 (emWV) 0 0 0 [(0, .ref 0)] [] σ (b_X12_blanks_0  n σ)
  | 0, _ => g_none
  | n + 1, σ => by
    have hk0 := c_X12_blanks_0 hX hO hΩ  n
    unfold b_X12_blanks_0
    refine g_aload_n hX (dc_X12_blanks 0 rfl) rfl 0 rfl ?_
    refine gV_PI (As := []) (st := []) hX (dc_X12_blanks 1 rfl) ml_X12_202 (con_X12_sign hO hΩ σ) (stS hΩ 0 rfl) rfl rfl ⟨by decide, by decide⟩ ⟨rfl, rfl⟩ ⟨Nat.zero_le _, Nat.zero_le _⟩ (Nat.le_of_ble_eq_true rfl) (fun r3 _ => ?_)
    refine g_bipush (w := (32 : Int32)) hX (dc_X12_blanks 2 rfl) (by decide) ?_
    refine g_icmp_ne (tgt := 22) hX (dc_X12_blanks 3 rfl) (by decide) (fun h4 => ?_) (fun h4 => ?_)
    · refine g_aload_n hX (dc_X12_blanks 4 rfl) rfl 0 rfl ?_
      refine g_dup hX (dc_X12_blanks 5 rfl) rfl ?_
      refine g_getI hX (dc_X12_blanks 6 rfl) fl_X12_199 (by decide) rfl (stS hΩ 0 rfl) ?_
      refine g_iconst (w := (1 : Int32)) hX (dc_X12_blanks 7 rfl) (by decide) ?_
      refine g_iadd hX (dc_X12_blanks 8 rfl) ?_
      refine g_putI (raw := false) hX (dc_X12_blanks 9 rfl) fl_X12_199 (by decide) ⟨rfl, rfl⟩ ⟨rfl, rfl⟩ (stS hΩ 0 rfl) ?_
      refine g_goto (tgt := 0) hX (dc_X12_blanks 10 rfl) (by decide) ?_
      exact g_sub [0] rfl (hk0 (wI σ 0 30 ((sI σ 0 30) + (1 : Int32))) )
    · exact g_vret hX (dc_X12_blanks 11 rfl) rfl (Nat.le_refl _) (Nat.le_refl _)
def f_X12_blanks  (σ : MS) : Option (MS) := b_X12_blanks_0  FU  σ
theorem con_X12_blanks {Ω : OM} (hO : OKO Ω) (hΩ : oSH Ω = SHM)  (σ : MS)  : Con Ω yX12_blanks cX12_blanks 1 none rm_X12_blanks (emWV) [.ref 0] σ (f_X12_blanks  σ) :=
  con_of hO (by decide +kernel) (Nat.le_of_ble_eq_true rfl) rfl (fun X hX _ => g_sub [0] rfl <| c_X12_blanks_0 hX hO hΩ   FU  σ )
def it_X12_isDigit : List (Nat × Instr × Nat × Nat) := [(0, .aload_n 0, 1, 1), (1, .invokevirtual 202, 3, 4), (4, .i2l, 1, 5), (5, .ldc2_w 206, 3, 8), (8, .ldc2_w 208, 3, 11), (11, .invokestatic 161, 3, 14), (14, .ireturn, 1, 15)]
theorem id_X12_isDigit : ∀ q ∈ it_X12_isDigit, decode cX12_isDigit q.1 = .ok (q.2.1, q.2.2.1) ∧ q.1 + q.2.2.1 = q.2.2.2 := by decide +kernel
theorem dc_X12_isDigit {pc : Nat} {i : Instr} {n pc' : Nat} (j : Nat) (h : it_X12_isDigit[j]? = some (pc, i, n, pc')) : Dc cX12_isDigit pc i n pc' := dc_of id_X12_isDigit j h
abbrev rm_X12_isDigit : Room := { frames := 1, cells := 0, slots := 0, locals := 25 }
def b_X12_isDigit_0     (σ : MS) : Option (Int32) := (f_X12_sign σ).bind (fun r4 => (f_X12_in (r4).toInt64 (48 : Int64) (57 : Int64)).bind (fun r5 => chk (r5 = 0 ∨ r5 = 1) (some r5)))
set_option maxHeartbeats 4000000 in
set_option maxRecDepth 20000 in
theorem c_X12_isDigit_0 {X : CX} {Ω : OM} (hX : CF X Ω RX12 cX12_isDigit 1 (some .boolean) rm_X12_isDigit) (hO : OKO Ω) (hΩ : oSH Ω = SHM)   (σ : MS)      : GE X Ω 1 0 0 (emPI σ) 0 0 0 [(0, .ref 0)] [] σ (b_X12_isDigit_0  σ) := by
  unfold b_X12_isDigit_0
  refine g_aload_n hX (dc_X12_isDigit 0 rfl) rfl 0 rfl ?_
  refine gV_PI (As := []) (st := []) hX (dc_X12_isDigit 1 rfl) ml_X12_202 (con_X12_sign hO hΩ σ) (stS hΩ 0 rfl) rfl rfl ⟨by decide, by decide⟩ ⟨rfl, rfl⟩ ⟨Nat.zero_le _, Nat.zero_le _⟩ (Nat.le_of_ble_eq_true rfl) (fun r4 _ => ?_)
  refine g_i2l hX (dc_X12_isDigit 2 rfl) ?_
  refine g_ldc2 hX (dc_X12_isDigit 3 rfl) wk_X12_206 ?_
  refine g_ldc2 hX (dc_X12_isDigit 4 rfl) wk_X12_208 ?_
  refine gS_PI (As := [.long (r4).toInt64, .long (48 : Int64), .long (57 : Int64)]) (st := []) hX (dc_X12_isDigit 5 rfl) ml_X12_161 (con_X12_in hO hΩ (r4).toInt64 (48 : Int64) (57 : Int64) σ) rfl rfl ⟨by decide, by decide⟩ ⟨rfl, rfl⟩ ⟨Nat.zero_le _, Nat.zero_le _⟩ (Nat.le_of_ble_eq_true rfl) (fun r5 _ => ?_)
  refine g_chk (fun hc6 => ?_)
  exact g_iret hX (dc_X12_isDigit 6 rfl) (nz_bool hc6).1 rfl (Nat.le_refl _) (Nat.le_refl _)
def f_X12_isDigit  (σ : MS) : Option (Int32) := b_X12_isDigit_0   σ
theorem con_X12_isDigit {Ω : OM} (hO : OKO Ω) (hΩ : oSH Ω = SHM)  (σ : MS)  : Con Ω yX12_isDigit cX12_isDigit 1 (some .boolean) rm_X12_isDigit (emPI σ) [.ref 0] σ (f_X12_isDigit  σ) :=
  con_of hO (by decide +kernel) (Nat.le_of_ble_eq_true rfl) rfl (fun X hX _ => c_X12_isDigit_0 hX hO hΩ   σ )
def it_X12_stood : List (Nat × Instr × Nat × Nat) := [(0, .aload_n 0, 1, 1), (1, .getfield 199, 3, 4), (4, .istore_n 2, 1, 5), (5, .iload_n 2, 1, 6), (6, .aload_n 0, 1, 7), (7, .getfield 169, 3, 10), (10, .if_icmp .ge 31, 3, 13), (13, .aload_n 0, 1, 14), (14, .getfield 95, 3, 17), (17, .iload_n 2, 1, 18), (18, .baload, 1, 19), (19, .bipush 97, 2, 21), (21, .if_icmp .lt 20, 3, 24), (24, .aload_n 0, 1, 25), (25, .getfield 95, 3, 28), (28, .iload_n 2, 1, 29), (29, .baload, 1, 30), (30, .bipush 122, 2, 32), (32, .if_icmp .gt 9, 3, 35), (35, .iinc 2 1, 3, 38), (38, .goto (-33), 3, 41), (41, .iload_n 2, 1, 42), (42, .aload_n 0, 1, 43), (43, .getfield 199, 3, 46), (46, .isub, 1, 47), (47, .aload_n 1, 1, 48), (48, .invokevirtual 210, 3, 51), (51, .if_icmp .ne 7, 3, 54), (54, .iconst 1, 1, 55), (55, .goto 4, 3, 58), (58, .iconst 0, 1, 59), (59, .istore_n 3, 1, 60), (60, .iconst 0, 1, 61), (61, .istore 4, 2, 63), (63, .iload 4, 2, 65), (65, .aload_n 1, 1, 66), (66, .invokevirtual 210, 3, 69), (69, .if_icmp .ge 40, 3, 72), (72, .iload_n 3, 1, 73), (73, .ifCond .eq 36, 3, 76), (76, .aload_n 0, 1, 77), (77, .getfield 95, 3, 80), (80, .aload_n 0, 1, 81), (81, .getfield 199, 3, 84), (84, .iload 4, 2, 86), (86, .iadd, 1, 87), (87, .baload, 1, 88), (88, .aload_n 1, 1, 89), (89, .iload 4, 2, 91), (91, .invokevirtual 215, 3, 94), (94, .if_icmp .ne 7, 3, 97), (97, .iconst 1, 1, 98), (98, .goto 4, 3, 101), (101, .iconst 0, 1, 102), (102, .istore_n 3, 1, 103), (103, .iinc 4 1, 3, 106), (106, .goto (-43), 3, 109), (109, .iload_n 3, 1, 110), (110, .ireturn, 1, 111)]
theorem id_X12_stood : ∀ q ∈ it_X12_stood, decode cX12_stood q.1 = .ok (q.2.1, q.2.2.1) ∧ q.1 + q.2.2.1 = q.2.2.2 := by decide +kernel
theorem dc_X12_stood {pc : Nat} {i : Instr} {n pc' : Nat} (j : Nat) (h : it_X12_stood[j]? = some (pc, i, n, pc')) : Dc cX12_stood pc i n pc' := dc_of id_X12_stood j h
abbrev rm_X12_stood : Room := { frames := 4, cells := 0, slots := 0, locals := 85 }
def b_X12_stood_109 (k1 : Nat)   (y3 : Int32) (σ : MS) : Option (Int32) := chk (y3 = 0 ∨ y3 = 1) (some y3)
set_option maxHeartbeats 4000000 in
set_option maxRecDepth 20000 in
theorem c_X12_stood_109 {X : CX} {Ω : OM} (hX : CF X Ω RX12 cX12_stood 5 (some .boolean) rm_X12_stood) (hO : OKO Ω) (hΩ : oSH Ω = SHM) (k1 : Nat) (hk1 : k1 < 23) (σ : MS)   (y3 : Int32)   : GE X Ω 5 0 0 (emPI σ) 0 0 109 [(3, .int y3)] [] σ (b_X12_stood_109 k1 y3 σ) := by
  unfold b_X12_stood_109
  refine g_iload_n hX (dc_X12_stood 57 rfl) rfl 0 rfl ?_
  refine g_chk (fun hc15 => ?_)
  exact g_iret hX (dc_X12_stood 58 rfl) (nz_bool hc15).1 rfl (Nat.le_refl _) (Nat.le_refl _)
def b_X12_stood_102 (k1 : Nat) (k63 : Int32 → Int32 → MS → Option (Int32))  (y4 : Int32) (s0 : Int32) (σ : MS) : Option (Int32) := (k63 (s0) ((y4 + (1 : Int32))) σ)
set_option maxHeartbeats 4000000 in
set_option maxRecDepth 20000 in
theorem c_X12_stood_102 {X : CX} {Ω : OM} (hX : CF X Ω RX12 cX12_stood 5 (some .boolean) rm_X12_stood) (hO : OKO Ω) (hΩ : oSH Ω = SHM) (k1 : Nat) (hk1 : k1 < 23) (σ : MS) (k63 : Int32 → Int32 → MS → Option (Int32)) (hk63 : ∀ (y3 : Int32) (y4 : Int32), GE X Ω 5 0 0 (emPI σ) 0 0 63 [(0, .ref 0), (1, .ref (1000000 + k1)), (3, .int y3), (4, .int y4)] [] σ (k63 y3 y4 σ))  (y4 : Int32) (s0 : Int32)   : GE X Ω 5 0 0 (emPI σ) 0 0 102 [(0, .ref 0), (1, .ref (1000000 + k1)), (4, .int y4)] [.int s0] σ (b_X12_stood_102 k1 k63 y4 s0 σ) := by
  unfold b_X12_stood_102
  refine g_istore_n (L' := [(3, .int s0), (0, .ref 0), (1, .ref (1000000 + k1)), (4, .int y4)]) hX (dc_X12_stood 54 rfl) rfl (by decide) rfl ?_
  refine g_iinc (w := (y4 + (1 : Int32))) (L' := [(4, .int (y4 + (1 : Int32))), (3, .int s0), (0, .ref 0), (1, .ref (1000000 + k1))]) hX (dc_X12_stood 55 rfl) 3 rfl rfl (by decide) rfl ?_
  refine g_goto (tgt := 63) hX (dc_X12_stood 56 rfl) (by decide) ?_
  exact g_sub [2, 3, 1, 0] rfl (hk63 (s0) ((y4 + (1 : Int32))) )
def b_X12_stood_63 (k1 : Nat)  : Nat → Int32 → Int32 → MS → Option (Int32)
  | 0, _, _, _ => none
  | n + 1, y3, y4, σ => (f_J0_length_8abf5 k1).bind (fun r16 => (if r16 ≤ y4 then (b_X12_stood_109 k1 (y3) σ) else (if y3 = 0 then (b_X12_stood_109 k1 (y3) σ) else chk (inb ((sI σ 0 30) + y4) 400) ((f_J0_charAt_5068e k1 y4).bind (fun r20 => (if (sI σ 28 (ix ((sI σ 0 30) + y4))) = r20 then (b_X12_stood_102 k1 (b_X12_stood_63 k1 n) (y4) ((1 : Int32)) σ) else (b_X12_stood_102 k1 (b_X12_stood_63 k1 n) (y4) ((0 : Int32)) σ)))))))
set_option maxHeartbeats 4000000 in
set_option maxRecDepth 20000 in
theorem c_X12_stood_63 {X : CX} {Ω : OM} (hX : CF X Ω RX12 cX12_stood 5 (some .boolean) rm_X12_stood) (hO : OKO Ω) (hΩ : oSH Ω = SHM) (k1 : Nat) (hk1 : k1 < 23) (σ : MS)  : ∀ (n : Nat) (y3 : Int32) (y4 : Int32)  , GE X Ω 5 0 0 (emPI σ) 0 0 63 [(0, .ref 0), (1, .ref (1000000 + k1)), (3, .int y3), (4, .int y4)] [] σ (b_X12_stood_63 k1 n y3 y4 σ)
  | 0, _, _ => g_none
  | n + 1, y3, y4 => by
    have hk63 := c_X12_stood_63 hX hO hΩ k1 hk1 σ n
    unfold b_X12_stood_63
    refine g_iload hX (dc_X12_stood 34 rfl) 3 rfl ?_
    refine g_aload_n hX (dc_X12_stood 35 rfl) rfl 1 rfl ?_
    refine g_callT (As := []) (st := [.int y4]) hX (dc_X12_stood 36 rfl) ml_X12_210 ⟨wi_J0_length_8abf5, ws_J0_length_8abf5⟩ hk1 (con_J0_length_8abf5 hO k1 σ hk1) rfl rfl ⟨by decide, by decide⟩ ⟨rfl, rfl⟩ ⟨Nat.zero_le _, Nat.zero_le _⟩ (Nat.le_of_ble_eq_true rfl) (fun r16 _ => ?_)
    refine g_icmp_ge (tgt := 109) hX (dc_X12_stood 37 rfl) (by decide) (fun h17 => ?_) (fun h17 => ?_)
    · exact g_sub [2] rfl (c_X12_stood_109 hX hO hΩ k1 hk1 σ (y3))
    · refine g_iload_n hX (dc_X12_stood 38 rfl) rfl 2 rfl ?_
      refine g_if_eq (tgt := 109) hX (dc_X12_stood 39 rfl) (by decide) (fun h18 => ?_) (fun h18 => ?_)
      · exact g_sub [2] rfl (c_X12_stood_109 hX hO hΩ k1 hk1 σ (y3))
      · refine g_aload_n hX (dc_X12_stood 40 rfl) rfl 0 rfl ?_
        refine g_getF (q := 28) hX (dc_X12_stood 41 rfl) fl_X12_95 (by decide) rfl (stS hΩ 0 rfl) rfl ?_
        refine g_aload_n hX (dc_X12_stood 42 rfl) rfl 0 rfl ?_
        refine g_getI hX (dc_X12_stood 43 rfl) fl_X12_199 (by decide) rfl (stS hΩ 0 rfl) ?_
        refine g_iload hX (dc_X12_stood 44 rfl) 3 rfl ?_
        refine g_iadd hX (dc_X12_stood 45 rfl) ?_
        refine g_chk (fun hc19 => ?_)
        refine g_bald hX (dc_X12_stood 46 rfl) (stS hΩ 28 rfl) hc19 rfl ?_
        refine g_aload_n hX (dc_X12_stood 47 rfl) rfl 1 rfl ?_
        refine g_iload hX (dc_X12_stood 48 rfl) 3 rfl ?_
        refine g_callT (As := [.int y4]) (st := [.int (sI σ 28 (ix ((sI σ 0 30) + y4)))]) hX (dc_X12_stood 49 rfl) ml_X12_215 ⟨wi_J0_charAt_5068e, ws_J0_charAt_5068e⟩ hk1 (con_J0_charAt_5068e hO k1 y4 σ hk1) rfl rfl ⟨by decide, by decide⟩ ⟨rfl, rfl⟩ ⟨Nat.zero_le _, Nat.zero_le _⟩ (Nat.le_of_ble_eq_true rfl) (fun r20 _ => ?_)
        refine g_icmp_ne (tgt := 101) hX (dc_X12_stood 50 rfl) (by decide) (fun h21 => ?_) (fun h21 => ?_)
        · refine g_iconst (w := (1 : Int32)) hX (dc_X12_stood 51 rfl) (by decide) ?_
          refine g_goto (tgt := 102) hX (dc_X12_stood 52 rfl) (by decide) ?_
          exact g_sub [0, 1, 3] rfl (c_X12_stood_102 hX hO hΩ k1 hk1 σ _ hk63 (y4) ((1 : Int32)))
        · refine g_iconst (w := (0 : Int32)) hX (dc_X12_stood 53 rfl) (by decide) ?_
          exact g_sub [0, 1, 3] rfl (c_X12_stood_102 hX hO hΩ k1 hk1 σ _ hk63 (y4) ((0 : Int32)))
def b_X12_stood_59 (k1 : Nat)   (s0 : Int32) (σ : MS) : Option (Int32) := (b_X12_stood_63 k1 FU (s0) ((0 : Int32)) σ)
set_option maxHeartbeats 4000000 in
set_option maxRecDepth 20000 in
theorem c_X12_stood_59 {X : CX} {Ω : OM} (hX : CF X Ω RX12 cX12_stood 5 (some .boolean) rm_X12_stood) (hO : OKO Ω) (hΩ : oSH Ω = SHM) (k1 : Nat) (hk1 : k1 < 23) (σ : MS)   (s0 : Int32)   : GE X Ω 5 0 0 (emPI σ) 0 0 59 [(0, .ref 0), (1, .ref (1000000 + k1))] [.int s0] σ (b_X12_stood_59 k1 s0 σ) := by
  unfold b_X12_stood_59
  refine g_istore_n (L' := [(3, .int s0), (0, .ref 0), (1, .ref (1000000 + k1))]) hX (dc_X12_stood 31 rfl) rfl (by decide) rfl ?_
  refine g_iconst (w := (0 : Int32)) hX (dc_X12_stood 32 rfl) (by decide) ?_
  refine g_istore (L' := [(4, .int (0 : Int32)), (3, .int s0), (0, .ref 0), (1, .ref (1000000 + k1))]) hX (dc_X12_stood 33 rfl) (by decide) rfl ?_
  exact g_sub [2, 3, 1, 0] rfl (c_X12_stood_63 hX hO hΩ k1 hk1 σ FU (s0) ((0 : Int32)))
def b_X12_stood_41 (k1 : Nat)   (y2 : Int32) (σ : MS) : Option (Int32) := (f_J0_length_8abf5 k1).bind (fun r22 => (if (y2 - (sI σ 0 30)) = r22 then (b_X12_stood_59 k1 ((1 : Int32)) σ) else (b_X12_stood_59 k1 ((0 : Int32)) σ)))
set_option maxHeartbeats 4000000 in
set_option maxRecDepth 20000 in
theorem c_X12_stood_41 {X : CX} {Ω : OM} (hX : CF X Ω RX12 cX12_stood 5 (some .boolean) rm_X12_stood) (hO : OKO Ω) (hΩ : oSH Ω = SHM) (k1 : Nat) (hk1 : k1 < 23) (σ : MS)   (y2 : Int32)   : GE X Ω 5 0 0 (emPI σ) 0 0 41 [(0, .ref 0), (1, .ref (1000000 + k1)), (2, .int y2)] [] σ (b_X12_stood_41 k1 y2 σ) := by
  unfold b_X12_stood_41
  refine g_iload_n hX (dc_X12_stood 21 rfl) rfl 2 rfl ?_
  refine g_aload_n hX (dc_X12_stood 22 rfl) rfl 0 rfl ?_
  refine g_getI hX (dc_X12_stood 23 rfl) fl_X12_199 (by decide) rfl (stS hΩ 0 rfl) ?_
  refine g_isub hX (dc_X12_stood 24 rfl) ?_
  refine g_aload_n hX (dc_X12_stood 25 rfl) rfl 1 rfl ?_
  refine g_callT (As := []) (st := [.int (y2 - (sI σ 0 30))]) hX (dc_X12_stood 26 rfl) ml_X12_210 ⟨wi_J0_length_8abf5, ws_J0_length_8abf5⟩ hk1 (con_J0_length_8abf5 hO k1 σ hk1) rfl rfl ⟨by decide, by decide⟩ ⟨rfl, rfl⟩ ⟨Nat.zero_le _, Nat.zero_le _⟩ (Nat.le_of_ble_eq_true rfl) (fun r22 _ => ?_)
  refine g_icmp_ne (tgt := 58) hX (dc_X12_stood 27 rfl) (by decide) (fun h23 => ?_) (fun h23 => ?_)
  · refine g_iconst (w := (1 : Int32)) hX (dc_X12_stood 28 rfl) (by decide) ?_
    refine g_goto (tgt := 59) hX (dc_X12_stood 29 rfl) (by decide) ?_
    exact g_sub [0, 1] rfl (c_X12_stood_59 hX hO hΩ k1 hk1 σ ((1 : Int32)))
  · refine g_iconst (w := (0 : Int32)) hX (dc_X12_stood 30 rfl) (by decide) ?_
    exact g_sub [0, 1] rfl (c_X12_stood_59 hX hO hΩ k1 hk1 σ ((0 : Int32)))
def b_X12_stood_5 (k1 : Nat)  : Nat → Int32 → MS → Option (Int32)
  | 0, _, _ => none
  | n + 1, y2, σ => (if (sI σ 0 29) ≤ y2 then (b_X12_stood_41 k1 (y2) σ) else chk (inb y2 400) ((if (sI σ 28 (ix y2)) < (97 : Int32) then (b_X12_stood_41 k1 (y2) σ) else chk (inb y2 400) ((if (122 : Int32) < (sI σ 28 (ix y2)) then (b_X12_stood_41 k1 (y2) σ) else ((b_X12_stood_5 k1 n) ((y2 + (1 : Int32))) σ))))))
set_option maxHeartbeats 4000000 in
set_option maxRecDepth 20000 in
theorem c_X12_stood_5 {X : CX} {Ω : OM} (hX : CF X Ω RX12 cX12_stood 5 (some .boolean) rm_X12_stood) (hO : OKO Ω) (hΩ : oSH Ω = SHM) (k1 : Nat) (hk1 : k1 < 23) (σ : MS)  : ∀ (n : Nat) (y2 : Int32)  , GE X Ω 5 0 0 (emPI σ) 0 0 5 [(0, .ref 0), (1, .ref (1000000 + k1)), (2, .int y2)] [] σ (b_X12_stood_5 k1 n y2 σ)
  | 0, _ => g_none
  | n + 1, y2 => by
    have hk5 := c_X12_stood_5 hX hO hΩ k1 hk1 σ n
    unfold b_X12_stood_5
    refine g_iload_n hX (dc_X12_stood 3 rfl) rfl 2 rfl ?_
    refine g_aload_n hX (dc_X12_stood 4 rfl) rfl 0 rfl ?_
    refine g_getI hX (dc_X12_stood 5 rfl) fl_X12_169 (by decide) rfl (stS hΩ 0 rfl) ?_
    refine g_icmp_ge (tgt := 41) hX (dc_X12_stood 6 rfl) (by decide) (fun h24 => ?_) (fun h24 => ?_)
    · exact g_sub [0, 1, 2] rfl (c_X12_stood_41 hX hO hΩ k1 hk1 σ (y2))
    · refine g_aload_n hX (dc_X12_stood 7 rfl) rfl 0 rfl ?_
      refine g_getF (q := 28) hX (dc_X12_stood 8 rfl) fl_X12_95 (by decide) rfl (stS hΩ 0 rfl) rfl ?_
      refine g_iload_n hX (dc_X12_stood 9 rfl) rfl 2 rfl ?_
      refine g_chk (fun hc25 => ?_)
      refine g_bald hX (dc_X12_stood 10 rfl) (stS hΩ 28 rfl) hc25 rfl ?_
      refine g_bipush (w := (97 : Int32)) hX (dc_X12_stood 11 rfl) (by decide) ?_
      refine g_icmp_lt (tgt := 41) hX (dc_X12_stood 12 rfl) (by decide) (fun h26 => ?_) (fun h26 => ?_)
      · exact g_sub [0, 1, 2] rfl (c_X12_stood_41 hX hO hΩ k1 hk1 σ (y2))
      · refine g_aload_n hX (dc_X12_stood 13 rfl) rfl 0 rfl ?_
        refine g_getF (q := 28) hX (dc_X12_stood 14 rfl) fl_X12_95 (by decide) rfl (stS hΩ 0 rfl) rfl ?_
        refine g_iload_n hX (dc_X12_stood 15 rfl) rfl 2 rfl ?_
        refine g_chk (fun hc27 => ?_)
        refine g_bald hX (dc_X12_stood 16 rfl) (stS hΩ 28 rfl) hc27 rfl ?_
        refine g_bipush (w := (122 : Int32)) hX (dc_X12_stood 17 rfl) (by decide) ?_
        refine g_icmp_gt (tgt := 41) hX (dc_X12_stood 18 rfl) (by decide) (fun h28 => ?_) (fun h28 => ?_)
        · exact g_sub [0, 1, 2] rfl (c_X12_stood_41 hX hO hΩ k1 hk1 σ (y2))
        · refine g_iinc (w := (y2 + (1 : Int32))) (L' := [(2, .int (y2 + (1 : Int32))), (0, .ref 0), (1, .ref (1000000 + k1))]) hX (dc_X12_stood 19 rfl) 2 rfl rfl (by decide) rfl ?_
          refine g_goto (tgt := 5) hX (dc_X12_stood 20 rfl) (by decide) ?_
          exact g_sub [1, 2, 0] rfl (hk5 ((y2 + (1 : Int32))) )
def b_X12_stood_0 (k1 : Nat)    (σ : MS) : Option (Int32) := (b_X12_stood_5 k1 FU ((sI σ 0 30)) σ)
set_option maxHeartbeats 4000000 in
set_option maxRecDepth 20000 in
theorem c_X12_stood_0 {X : CX} {Ω : OM} (hX : CF X Ω RX12 cX12_stood 5 (some .boolean) rm_X12_stood) (hO : OKO Ω) (hΩ : oSH Ω = SHM) (k1 : Nat) (hk1 : k1 < 23) (σ : MS)      : GE X Ω 5 0 0 (emPI σ) 0 0 0 [(0, .ref 0), (1, .ref (1000000 + k1))] [] σ (b_X12_stood_0 k1 σ) := by
  unfold b_X12_stood_0
  refine g_aload_n hX (dc_X12_stood 0 rfl) rfl 0 rfl ?_
  refine g_getI hX (dc_X12_stood 1 rfl) fl_X12_199 (by decide) rfl (stS hΩ 0 rfl) ?_
  refine g_istore_n (L' := [(2, .int (sI σ 0 30)), (0, .ref 0), (1, .ref (1000000 + k1))]) hX (dc_X12_stood 2 rfl) rfl (by decide) rfl ?_
  exact g_sub [1, 2, 0] rfl (c_X12_stood_5 hX hO hΩ k1 hk1 σ FU ((sI σ 0 30)))
def f_X12_stood (k1 : Nat) (σ : MS) : Option (Int32) := b_X12_stood_0 k1  σ
theorem con_X12_stood {Ω : OM} (hO : OKO Ω) (hΩ : oSH Ω = SHM) (k1 : Nat) (σ : MS) (hk1 : k1 < 23) : Con Ω yX12_stood cX12_stood 5 (some .boolean) rm_X12_stood (emPI σ) [.ref 0, .ref (1000000 + k1)] σ (f_X12_stood k1 σ) :=
  con_of hO (by decide +kernel) (Nat.le_of_ble_eq_true rfl) rfl (fun X hX _ => c_X12_stood_0 hX hO hΩ k1 hk1 σ )
def it_X12_takes : List (Nat × Instr × Nat × Nat) := [(0, .aload_n 0, 1, 1), (1, .invokevirtual 219, 3, 4), (4, .aload_n 0, 1, 5), (5, .aload_n 1, 1, 6), (6, .invokevirtual 222, 3, 9), (9, .istore_n 2, 1, 10), (10, .aload_n 0, 1, 11), (11, .dup, 1, 12), (12, .getfield 199, 3, 15), (15, .iload_n 2, 1, 16), (16, .ifCond .eq 10, 3, 19), (19, .aload_n 1, 1, 20), (20, .invokevirtual 210, 3, 23), (23, .goto 4, 3, 26), (26, .iconst 0, 1, 27), (27, .iadd, 1, 28), (28, .putfield 199, 3, 31), (31, .iload_n 2, 1, 32), (32, .ireturn, 1, 33)]
theorem id_X12_takes : ∀ q ∈ it_X12_takes, decode cX12_takes q.1 = .ok (q.2.1, q.2.2.1) ∧ q.1 + q.2.2.1 = q.2.2.2 := by decide +kernel
theorem dc_X12_takes {pc : Nat} {i : Instr} {n pc' : Nat} (j : Nat) (h : it_X12_takes[j]? = some (pc, i, n, pc')) : Dc cX12_takes pc i n pc' := dc_of id_X12_takes j h
abbrev rm_X12_takes : Room := { frames := 5, cells := 0, slots := 0, locals := 109 }
def b_X12_takes_27 (k1 : Nat)   (y2 : Int32) (s0 : Int32) (s1 : Int32) (σ : MS) : Option (Int32 × MS) := chk (y2 = 0 ∨ y2 = 1) (some (y2, (wI σ 0 30 (s1 + s0))))
set_option maxHeartbeats 4000000 in
set_option maxRecDepth 20000 in
theorem c_X12_takes_27 {X : CX} {Ω : OM} (hX : CF X Ω RX12 cX12_takes 3 (some .boolean) rm_X12_takes) (hO : OKO Ω) (hΩ : oSH Ω = SHM) (k1 : Nat) (hk1 : k1 < 23)   (y2 : Int32) (s0 : Int32) (s1 : Int32) (σ : MS)  : GE X Ω 3 0 0 (emWI) 0 0 27 [(2, .int y2)] [.int s0, .int s1, .ref 0] σ (b_X12_takes_27 k1 y2 s0 s1 σ) := by
  unfold b_X12_takes_27
  refine g_iadd hX (dc_X12_takes 15 rfl) ?_
  refine g_putI (raw := false) hX (dc_X12_takes 16 rfl) fl_X12_199 (by decide) ⟨rfl, rfl⟩ ⟨rfl, rfl⟩ (stS hΩ 0 rfl) ?_
  refine g_iload_n hX (dc_X12_takes 17 rfl) rfl 0 rfl ?_
  refine g_chk (fun hc6 => ?_)
  exact g_iret hX (dc_X12_takes 18 rfl) (nz_bool hc6).1 rfl (Nat.le_refl _) (Nat.le_refl _)
def b_X12_takes_0 (k1 : Nat)    (σ : MS) : Option (Int32 × MS) := (f_X12_blanks σ).bind (fun r7 => (f_X12_stood k1 r7).bind (fun r8 => (if r8 = 0 then (b_X12_takes_27 k1 (r8) ((0 : Int32)) ((sI r7 0 30)) r7) else (f_J0_length_8abf5 k1).bind (fun r10 => (b_X12_takes_27 k1 (r8) (r10) ((sI r7 0 30)) r7)))))
set_option maxHeartbeats 4000000 in
set_option maxRecDepth 20000 in
theorem c_X12_takes_0 {X : CX} {Ω : OM} (hX : CF X Ω RX12 cX12_takes 3 (some .boolean) rm_X12_takes) (hO : OKO Ω) (hΩ : oSH Ω = SHM) (k1 : Nat) (hk1 : k1 < 23)    (σ : MS)  : GE X Ω 3 0 0 (emWI) 0 0 0 [(0, .ref 0), (1, .ref (1000000 + k1))] [] σ (b_X12_takes_0 k1 σ) := by
  unfold b_X12_takes_0
  refine g_aload_n hX (dc_X12_takes 0 rfl) rfl 0 rfl ?_
  refine gV_WV (As := []) (st := []) hX (dc_X12_takes 1 rfl) ml_X12_219 (con_X12_blanks hO hΩ σ) (stS hΩ 0 rfl) rfl rfl ⟨by decide, by decide⟩ ⟨rfl, rfl⟩ ⟨Nat.zero_le _, Nat.zero_le _⟩ (Nat.le_of_ble_eq_true rfl) (fun r7 _ => ?_)
  refine g_aload_n hX (dc_X12_takes 2 rfl) rfl 0 rfl ?_
  refine g_aload_n hX (dc_X12_takes 3 rfl) rfl 1 rfl ?_
  refine gV_PI (As := [.ref (1000000 + k1)]) (st := []) hX (dc_X12_takes 4 rfl) ml_X12_222 (con_X12_stood hO hΩ k1 r7 hk1) (stS hΩ 0 rfl) rfl rfl ⟨by decide, by decide⟩ ⟨rfl, rfl⟩ ⟨Nat.zero_le _, Nat.zero_le _⟩ (Nat.le_of_ble_eq_true rfl) (fun r8 _ => ?_)
  refine g_istore_n (L' := [(2, .int r8), (0, .ref 0), (1, .ref (1000000 + k1))]) hX (dc_X12_takes 5 rfl) rfl (by decide) rfl ?_
  refine g_aload_n hX (dc_X12_takes 6 rfl) rfl 1 rfl ?_
  refine g_dup hX (dc_X12_takes 7 rfl) rfl ?_
  refine g_getI hX (dc_X12_takes 8 rfl) fl_X12_199 (by decide) rfl (stS hΩ 0 rfl) ?_
  refine g_iload_n hX (dc_X12_takes 9 rfl) rfl 0 rfl ?_
  refine g_if_eq (tgt := 26) hX (dc_X12_takes 10 rfl) (by decide) (fun h9 => ?_) (fun h9 => ?_)
  · refine g_iconst (w := (0 : Int32)) hX (dc_X12_takes 14 rfl) (by decide) ?_
    exact g_sub [0] rfl (c_X12_takes_27 hX hO hΩ k1 hk1 (r8) ((0 : Int32)) ((sI r7 0 30)) r7)
  · refine g_aload_n hX (dc_X12_takes 11 rfl) rfl 2 rfl ?_
    refine g_callT (As := []) (st := [.int (sI r7 0 30), .ref 0]) hX (dc_X12_takes 12 rfl) ml_X12_210 ⟨wi_J0_length_8abf5, ws_J0_length_8abf5⟩ hk1 (con_J0_length_8abf5 hO k1 r7 hk1) rfl rfl ⟨by decide, by decide⟩ ⟨rfl, rfl⟩ ⟨Nat.zero_le _, Nat.zero_le _⟩ (Nat.le_of_ble_eq_true rfl) (fun r10 _ => ?_)
    refine g_goto (tgt := 27) hX (dc_X12_takes 13 rfl) (by decide) ?_
    exact g_sub [0] rfl (c_X12_takes_27 hX hO hΩ k1 hk1 (r8) (r10) ((sI r7 0 30)) r7)
def f_X12_takes (k1 : Nat) (σ : MS) : Option (Int32 × MS) := b_X12_takes_0 k1  σ
theorem con_X12_takes {Ω : OM} (hO : OKO Ω) (hΩ : oSH Ω = SHM) (k1 : Nat) (σ : MS) (hk1 : k1 < 23) : Con Ω yX12_takes cX12_takes 3 (some .boolean) rm_X12_takes (emWI) [.ref 0, .ref (1000000 + k1)] σ (f_X12_takes k1 σ) :=
  con_of hO (by decide +kernel) (Nat.le_of_ble_eq_true rfl) rfl (fun X hX _ => c_X12_takes_0 hX hO hΩ k1 hk1  σ )
def it_X12_entry : List (Nat × Instr × Nat × Nat) := [(0, .aload_n 0, 1, 1), (1, .getfield 196, 3, 4), (4, .ifCond .ne 51, 3, 7), (7, .aload_n 0, 1, 8), (8, .getfield 99, 3, 11), (11, .sipush 300, 3, 14), (14, .aload_n 0, 1, 15), (15, .getfield 226, 3, 18), (18, .imul, 1, 19), (19, .aload_n 0, 1, 20), (20, .getfield 229, 3, 23), (23, .iadd, 1, 24), (24, .iload_n 1, 1, 25), (25, .iastore, 1, 26), (26, .aload_n 0, 1, 27), (27, .getfield 102, 3, 30), (30, .sipush 300, 3, 33), (33, .aload_n 0, 1, 34), (34, .getfield 226, 3, 37), (37, .imul, 1, 38), (38, .aload_n 0, 1, 39), (39, .getfield 229, 3, 42), (42, .iadd, 1, 43), (43, .iload_n 2, 1, 44), (44, .iastore, 1, 45), (45, .aload_n 0, 1, 46), (46, .dup, 1, 47), (47, .getfield 229, 3, 50), (50, .iconst 1, 1, 51), (51, .iadd, 1, 52), (52, .putfield 229, 3, 55), (55, .return_, 1, 56)]
theorem id_X12_entry : ∀ q ∈ it_X12_entry, decode cX12_entry q.1 = .ok (q.2.1, q.2.2.1) ∧ q.1 + q.2.2.1 = q.2.2.2 := by decide +kernel
theorem dc_X12_entry {pc : Nat} {i : Instr} {n pc' : Nat} (j : Nat) (h : it_X12_entry[j]? = some (pc, i, n, pc')) : Dc cX12_entry pc i n pc' := dc_of id_X12_entry j h
abbrev rm_X12_entry : Room := { frames := 0, cells := 0, slots := 0, locals := 0 }
def b_X12_entry_55     (σ : MS) : Option (MS) := some (σ)
set_option maxHeartbeats 4000000 in
set_option maxRecDepth 20000 in
theorem c_X12_entry_55 {X : CX} {Ω : OM} (hX : CF X Ω RX12 cX12_entry 3 none rm_X12_entry) (hO : OKO Ω) (hΩ : oSH Ω = SHM)      (σ : MS)  : GE X Ω 3 0 0 (emWV) 0 0 55 [] [] σ (b_X12_entry_55  σ) := by
  unfold b_X12_entry_55
  exact g_vret hX (dc_X12_entry 31 rfl) rfl (Nat.le_refl _) (Nat.le_refl _)
def b_X12_entry_45     (σ : MS) : Option (MS) := (b_X12_entry_55 (wI σ 0 34 ((sI σ 0 34) + (1 : Int32))))
set_option maxHeartbeats 4000000 in
set_option maxRecDepth 20000 in
theorem c_X12_entry_45 {X : CX} {Ω : OM} (hX : CF X Ω RX12 cX12_entry 3 none rm_X12_entry) (hO : OKO Ω) (hΩ : oSH Ω = SHM)      (σ : MS)  : GE X Ω 3 0 0 (emWV) 0 0 45 [(0, .ref 0)] [] σ (b_X12_entry_45  σ) := by
  unfold b_X12_entry_45
  refine g_aload_n hX (dc_X12_entry 25 rfl) rfl 0 rfl ?_
  refine g_dup hX (dc_X12_entry 26 rfl) rfl ?_
  refine g_getI hX (dc_X12_entry 27 rfl) fl_X12_229 (by decide) rfl (stS hΩ 0 rfl) ?_
  refine g_iconst (w := (1 : Int32)) hX (dc_X12_entry 28 rfl) (by decide) ?_
  refine g_iadd hX (dc_X12_entry 29 rfl) ?_
  refine g_putI (raw := false) hX (dc_X12_entry 30 rfl) fl_X12_229 (by decide) ⟨rfl, rfl⟩ ⟨rfl, rfl⟩ (stS hΩ 0 rfl) ?_
  exact g_sub [] rfl (c_X12_entry_55 hX hO hΩ (wI σ 0 34 ((sI σ 0 34) + (1 : Int32))))
def b_X12_entry_0   (x1 : Int32) (x2 : Int32)  (σ : MS) : Option (MS) := (if (sI σ 0 31) = 0 then chk (inb (((300 : Int32) * (sI σ 0 32)) + (sI σ 0 34)) 1800) (chk (inb (((300 : Int32) * (sI (wI σ 29 (ix (((300 : Int32) * (sI σ 0 32)) + (sI σ 0 34))) x1) 0 32)) + (sI (wI σ 29 (ix (((300 : Int32) * (sI σ 0 32)) + (sI σ 0 34))) x1) 0 34)) 1800) ((b_X12_entry_45 (wI (wI σ 29 (ix (((300 : Int32) * (sI σ 0 32)) + (sI σ 0 34))) x1) 30 (ix (((300 : Int32) * (sI (wI σ 29 (ix (((300 : Int32) * (sI σ 0 32)) + (sI σ 0 34))) x1) 0 32)) + (sI (wI σ 29 (ix (((300 : Int32) * (sI σ 0 32)) + (sI σ 0 34))) x1) 0 34))) x2)))) else (b_X12_entry_55 σ))
set_option maxHeartbeats 4000000 in
set_option maxRecDepth 20000 in
theorem c_X12_entry_0 {X : CX} {Ω : OM} (hX : CF X Ω RX12 cX12_entry 3 none rm_X12_entry) (hO : OKO Ω) (hΩ : oSH Ω = SHM)    (x1 : Int32) (x2 : Int32)  (σ : MS)  : GE X Ω 3 0 0 (emWV) 0 0 0 [(0, .ref 0), (1, .int x1), (2, .int x2)] [] σ (b_X12_entry_0  x1 x2 σ) := by
  unfold b_X12_entry_0
  refine g_aload_n hX (dc_X12_entry 0 rfl) rfl 0 rfl ?_
  refine g_getI hX (dc_X12_entry 1 rfl) fl_X12_196 (by decide) rfl (stS hΩ 0 rfl) ?_
  refine g_if_ne (tgt := 55) hX (dc_X12_entry 2 rfl) (by decide) (fun h4 => ?_) (fun h4 => ?_)
  · refine g_aload_n hX (dc_X12_entry 3 rfl) rfl 0 rfl ?_
    refine g_getF (q := 29) hX (dc_X12_entry 4 rfl) fl_X12_99 (by decide) rfl (stS hΩ 0 rfl) rfl ?_
    refine g_sipush (w := (300 : Int32)) hX (dc_X12_entry 5 rfl) (by decide) ?_
    refine g_aload_n hX (dc_X12_entry 6 rfl) rfl 0 rfl ?_
    refine g_getI hX (dc_X12_entry 7 rfl) fl_X12_226 (by decide) rfl (stS hΩ 0 rfl) ?_
    refine g_imul hX (dc_X12_entry 8 rfl) ?_
    refine g_aload_n hX (dc_X12_entry 9 rfl) rfl 0 rfl ?_
    refine g_getI hX (dc_X12_entry 10 rfl) fl_X12_229 (by decide) rfl (stS hΩ 0 rfl) ?_
    refine g_iadd hX (dc_X12_entry 11 rfl) ?_
    refine g_iload_n hX (dc_X12_entry 12 rfl) rfl 1 rfl ?_
    refine g_chk (fun hc5 => ?_)
    refine g_iast hX (dc_X12_entry 13 rfl) (stS hΩ 29 rfl) hc5 rfl ?_
    refine g_aload_n hX (dc_X12_entry 14 rfl) rfl 0 rfl ?_
    refine g_getF (q := 30) hX (dc_X12_entry 15 rfl) fl_X12_102 (by decide) rfl (stS hΩ 0 rfl) rfl ?_
    refine g_sipush (w := (300 : Int32)) hX (dc_X12_entry 16 rfl) (by decide) ?_
    refine g_aload_n hX (dc_X12_entry 17 rfl) rfl 0 rfl ?_
    refine g_getI hX (dc_X12_entry 18 rfl) fl_X12_226 (by decide) rfl (stS hΩ 0 rfl) ?_
    refine g_imul hX (dc_X12_entry 19 rfl) ?_
    refine g_aload_n hX (dc_X12_entry 20 rfl) rfl 0 rfl ?_
    refine g_getI hX (dc_X12_entry 21 rfl) fl_X12_229 (by decide) rfl (stS hΩ 0 rfl) ?_
    refine g_iadd hX (dc_X12_entry 22 rfl) ?_
    refine g_iload_n hX (dc_X12_entry 23 rfl) rfl 2 rfl ?_
    refine g_chk (fun hc6 => ?_)
    refine g_iast hX (dc_X12_entry 24 rfl) (stS hΩ 30 rfl) hc6 rfl ?_
    exact g_sub [0] rfl (c_X12_entry_45 hX hO hΩ (wI (wI σ 29 (ix (((300 : Int32) * (sI σ 0 32)) + (sI σ 0 34))) x1) 30 (ix (((300 : Int32) * (sI (wI σ 29 (ix (((300 : Int32) * (sI σ 0 32)) + (sI σ 0 34))) x1) 0 32)) + (sI (wI σ 29 (ix (((300 : Int32) * (sI σ 0 32)) + (sI σ 0 34))) x1) 0 34))) x2))
  · exact g_sub [] rfl (c_X12_entry_55 hX hO hΩ σ)
def f_X12_entry (x1 : Int32) (x2 : Int32) (σ : MS) : Option (MS) := b_X12_entry_0  x1 x2 σ
theorem con_X12_entry {Ω : OM} (hO : OKO Ω) (hΩ : oSH Ω = SHM) (x1 : Int32) (x2 : Int32) (σ : MS)  : Con Ω yX12_entry cX12_entry 3 none rm_X12_entry (emWV) [.ref 0, .int x1, .int x2] σ (f_X12_entry x1 x2 σ) :=
  con_of hO (by decide +kernel) (Nat.le_of_ble_eq_true rfl) rfl (fun X hX _ => c_X12_entry_0 hX hO hΩ   x1 x2 σ )
def it_X12_isCounted : List (Nat × Instr × Nat × Nat) := [(0, .aload_n 0, 1, 1), (1, .getfield 232, 3, 4), (4, .bipush 60, 2, 6), (6, .if_icmp .ne 9, 3, 9), (9, .aload_n 0, 1, 10), (10, .iconst 3, 1, 11), (11, .iload_n 1, 1, 12), (12, .invokevirtual 235, 3, 15), (15, .aload_n 0, 1, 16), (16, .dup, 1, 17), (17, .getfield 232, 3, 20), (20, .iconst 1, 1, 21), (21, .iadd, 1, 22), (22, .putfield 232, 3, 25), (25, .return_, 1, 26)]
theorem id_X12_isCounted : ∀ q ∈ it_X12_isCounted, decode cX12_isCounted q.1 = .ok (q.2.1, q.2.2.1) ∧ q.1 + q.2.2.1 = q.2.2.2 := by decide +kernel
theorem dc_X12_isCounted {pc : Nat} {i : Instr} {n pc' : Nat} (j : Nat) (h : it_X12_isCounted[j]? = some (pc, i, n, pc')) : Dc cX12_isCounted pc i n pc' := dc_of id_X12_isCounted j h
abbrev rm_X12_isCounted : Room := { frames := 1, cells := 0, slots := 0, locals := 22 }
def b_X12_isCounted_15     (σ : MS) : Option (MS) := some ((wI σ 0 36 ((sI σ 0 36) + (1 : Int32))))
set_option maxHeartbeats 4000000 in
set_option maxRecDepth 20000 in
theorem c_X12_isCounted_15 {X : CX} {Ω : OM} (hX : CF X Ω RX12 cX12_isCounted 2 none rm_X12_isCounted) (hO : OKO Ω) (hΩ : oSH Ω = SHM)      (σ : MS)  : GE X Ω 2 0 0 (emWV) 0 0 15 [(0, .ref 0)] [] σ (b_X12_isCounted_15  σ) := by
  unfold b_X12_isCounted_15
  refine g_aload_n hX (dc_X12_isCounted 8 rfl) rfl 0 rfl ?_
  refine g_dup hX (dc_X12_isCounted 9 rfl) rfl ?_
  refine g_getI hX (dc_X12_isCounted 10 rfl) fl_X12_232 (by decide) rfl (stS hΩ 0 rfl) ?_
  refine g_iconst (w := (1 : Int32)) hX (dc_X12_isCounted 11 rfl) (by decide) ?_
  refine g_iadd hX (dc_X12_isCounted 12 rfl) ?_
  refine g_putI (raw := false) hX (dc_X12_isCounted 13 rfl) fl_X12_232 (by decide) ⟨rfl, rfl⟩ ⟨rfl, rfl⟩ (stS hΩ 0 rfl) ?_
  exact g_vret hX (dc_X12_isCounted 14 rfl) rfl (Nat.le_refl _) (Nat.le_refl _)
def b_X12_isCounted_0   (x1 : Int32)  (σ : MS) : Option (MS) := (if (sI σ 0 36) = (60 : Int32) then (f_X12_fails (3 : Int32) x1 σ).bind (fun r4 => (b_X12_isCounted_15 r4)) else (b_X12_isCounted_15 σ))
set_option maxHeartbeats 4000000 in
set_option maxRecDepth 20000 in
theorem c_X12_isCounted_0 {X : CX} {Ω : OM} (hX : CF X Ω RX12 cX12_isCounted 2 none rm_X12_isCounted) (hO : OKO Ω) (hΩ : oSH Ω = SHM)    (x1 : Int32)  (σ : MS)  : GE X Ω 2 0 0 (emWV) 0 0 0 [(0, .ref 0), (1, .int x1)] [] σ (b_X12_isCounted_0  x1 σ) := by
  unfold b_X12_isCounted_0
  refine g_aload_n hX (dc_X12_isCounted 0 rfl) rfl 0 rfl ?_
  refine g_getI hX (dc_X12_isCounted 1 rfl) fl_X12_232 (by decide) rfl (stS hΩ 0 rfl) ?_
  refine g_bipush (w := (60 : Int32)) hX (dc_X12_isCounted 2 rfl) (by decide) ?_
  refine g_icmp_ne (tgt := 15) hX (dc_X12_isCounted 3 rfl) (by decide) (fun h3 => ?_) (fun h3 => ?_)
  · refine g_aload_n hX (dc_X12_isCounted 4 rfl) rfl 0 rfl ?_
    refine g_iconst (w := (3 : Int32)) hX (dc_X12_isCounted 5 rfl) (by decide) ?_
    refine g_iload_n hX (dc_X12_isCounted 6 rfl) rfl 1 rfl ?_
    refine gV_WV (As := [.int (3 : Int32), .int x1]) (st := []) hX (dc_X12_isCounted 7 rfl) ml_X12_235 (con_X12_fails hO hΩ (3 : Int32) x1 σ) (stS hΩ 0 rfl) rfl rfl ⟨by decide, by decide⟩ ⟨rfl, rfl⟩ ⟨Nat.zero_le _, Nat.zero_le _⟩ (Nat.le_of_ble_eq_true rfl) (fun r4 _ => ?_)
    exact g_sub [0] rfl (c_X12_isCounted_15 hX hO hΩ r4)
  · exact g_sub [0] rfl (c_X12_isCounted_15 hX hO hΩ σ)
def f_X12_isCounted (x1 : Int32) (σ : MS) : Option (MS) := b_X12_isCounted_0  x1 σ
theorem con_X12_isCounted {Ω : OM} (hO : OKO Ω) (hΩ : oSH Ω = SHM) (x1 : Int32) (σ : MS)  : Con Ω yX12_isCounted cX12_isCounted 2 none rm_X12_isCounted (emWV) [.ref 0, .int x1] σ (f_X12_isCounted x1 σ) :=
  con_of hO (by decide +kernel) (Nat.le_of_ble_eq_true rfl) rfl (fun X hX _ => c_X12_isCounted_0 hX hO hΩ   x1 σ )
def it_X12_digits : List (Nat × Instr × Nat × Nat) := [(0, .aload_n 0, 1, 1), (1, .invokevirtual 239, 3, 4), (4, .ifCond .ne 14, 3, 7), (7, .aload_n 0, 1, 8), (8, .iconst 0, 1, 9), (9, .aload_n 0, 1, 10), (10, .getfield 199, 3, 13), (13, .invokevirtual 235, 3, 16), (16, .iconst 0, 1, 17), (17, .ireturn, 1, 18), (18, .aload_n 0, 1, 19), (19, .getfield 199, 3, 22), (22, .istore_n 2, 1, 23), (23, .iconst 0, 1, 24), (24, .istore_n 3, 1, 25), (25, .aload_n 0, 1, 26), (26, .invokevirtual 239, 3, 29), (29, .ifCond .eq 43, 3, 32), (32, .aload_n 0, 1, 33), (33, .getfield 199, 3, 36), (36, .iload_n 2, 1, 37), (37, .isub, 1, 38), (38, .iconst 5, 1, 39), (39, .if_icmp .ge 18, 3, 42), (42, .bipush 10, 2, 44), (44, .iload_n 3, 1, 45), (45, .imul, 1, 46), (46, .aload_n 0, 1, 47), (47, .invokevirtual 202, 3, 50), (50, .iadd, 1, 51), (51, .bipush 48, 2, 53), (53, .isub, 1, 54), (54, .goto 4, 3, 57), (57, .iload_n 3, 1, 58), (58, .istore_n 3, 1, 59), (59, .aload_n 0, 1, 60), (60, .dup, 1, 61), (61, .getfield 199, 3, 64), (64, .iconst 1, 1, 65), (65, .iadd, 1, 66), (66, .putfield 199, 3, 69), (69, .goto (-44), 3, 72), (72, .aload_n 0, 1, 73), (73, .getfield 199, 3, 76), (76, .iload_n 2, 1, 77), (77, .isub, 1, 78), (78, .iconst 5, 1, 79), (79, .if_icmp .gt 8, 3, 82), (82, .iload_n 3, 1, 83), (83, .iload_n 1, 1, 84), (84, .if_icmp .le 9, 3, 87), (87, .aload_n 0, 1, 88), (88, .iconst 1, 1, 89), (89, .iload_n 2, 1, 90), (90, .invokevirtual 235, 3, 93), (93, .iload_n 3, 1, 94), (94, .ireturn, 1, 95)]
theorem id_X12_digits : ∀ q ∈ it_X12_digits, decode cX12_digits q.1 = .ok (q.2.1, q.2.2.1) ∧ q.1 + q.2.2.1 = q.2.2.2 := by decide +kernel
theorem dc_X12_digits {pc : Nat} {i : Instr} {n pc' : Nat} (j : Nat) (h : it_X12_digits[j]? = some (pc, i, n, pc')) : Dc cX12_digits pc i n pc' := dc_of id_X12_digits j h
abbrev rm_X12_digits : Room := { frames := 2, cells := 0, slots := 0, locals := 45 }
def b_X12_digits_93    (y3 : Int32) (σ : MS) : Option (Int32 × MS) := some (y3, σ)
set_option maxHeartbeats 4000000 in
set_option maxRecDepth 20000 in
theorem c_X12_digits_93 {X : CX} {Ω : OM} (hX : CF X Ω RX12 cX12_digits 4 (some .int) rm_X12_digits) (hO : OKO Ω) (hΩ : oSH Ω = SHM)     (y3 : Int32) (σ : MS)  : GE X Ω 4 0 0 (emWI) 0 0 93 [(3, .int y3)] [] σ (b_X12_digits_93  y3 σ) := by
  unfold b_X12_digits_93
  refine g_iload_n hX (dc_X12_digits 55 rfl) rfl 0 rfl ?_
  exact g_iret hX (dc_X12_digits 56 rfl) rfl rfl (Nat.le_refl _) (Nat.le_refl _)
def b_X12_digits_87    (y2 : Int32) (y3 : Int32) (σ : MS) : Option (Int32 × MS) := (f_X12_fails (1 : Int32) y2 σ).bind (fun r11 => (b_X12_digits_93 (y3) r11))
set_option maxHeartbeats 4000000 in
set_option maxRecDepth 20000 in
theorem c_X12_digits_87 {X : CX} {Ω : OM} (hX : CF X Ω RX12 cX12_digits 4 (some .int) rm_X12_digits) (hO : OKO Ω) (hΩ : oSH Ω = SHM)     (y2 : Int32) (y3 : Int32) (σ : MS)  : GE X Ω 4 0 0 (emWI) 0 0 87 [(0, .ref 0), (2, .int y2), (3, .int y3)] [] σ (b_X12_digits_87  y2 y3 σ) := by
  unfold b_X12_digits_87
  refine g_aload_n hX (dc_X12_digits 51 rfl) rfl 0 rfl ?_
  refine g_iconst (w := (1 : Int32)) hX (dc_X12_digits 52 rfl) (by decide) ?_
  refine g_iload_n hX (dc_X12_digits 53 rfl) rfl 1 rfl ?_
  refine gV_WV (As := [.int (1 : Int32), .int y2]) (st := []) hX (dc_X12_digits 54 rfl) ml_X12_235 (con_X12_fails hO hΩ (1 : Int32) y2 σ) (stS hΩ 0 rfl) rfl rfl ⟨by decide, by decide⟩ ⟨rfl, rfl⟩ ⟨Nat.zero_le _, Nat.zero_le _⟩ (Nat.le_of_ble_eq_true rfl) (fun r11 _ => ?_)
  exact g_sub [2] rfl (c_X12_digits_93 hX hO hΩ (y3) r11)
def b_X12_digits_58  (k25 : Int32 → Int32 → Int32 → MS → Option (Int32 × MS))  (y1 : Int32) (y2 : Int32) (s0 : Int32) (σ : MS) : Option (Int32 × MS) := (k25 (y1) (y2) (s0) (wI σ 0 30 ((sI σ 0 30) + (1 : Int32))))
set_option maxHeartbeats 4000000 in
set_option maxRecDepth 20000 in
theorem c_X12_digits_58 {X : CX} {Ω : OM} (hX : CF X Ω RX12 cX12_digits 4 (some .int) rm_X12_digits) (hO : OKO Ω) (hΩ : oSH Ω = SHM)   (k25 : Int32 → Int32 → Int32 → MS → Option (Int32 × MS)) (hk25 : ∀ (y1 : Int32) (y2 : Int32) (y3 : Int32) (σ : MS) , GE X Ω 4 0 0 (emWI) 0 0 25 [(0, .ref 0), (1, .int y1), (2, .int y2), (3, .int y3)] [] σ (k25 y1 y2 y3 σ))  (y1 : Int32) (y2 : Int32) (s0 : Int32) (σ : MS)  : GE X Ω 4 0 0 (emWI) 0 0 58 [(0, .ref 0), (1, .int y1), (2, .int y2)] [.int s0] σ (b_X12_digits_58  k25 y1 y2 s0 σ) := by
  unfold b_X12_digits_58
  refine g_istore_n (L' := [(3, .int s0), (0, .ref 0), (1, .int y1), (2, .int y2)]) hX (dc_X12_digits 34 rfl) rfl (by decide) rfl ?_
  refine g_aload_n hX (dc_X12_digits 35 rfl) rfl 1 rfl ?_
  refine g_dup hX (dc_X12_digits 36 rfl) rfl ?_
  refine g_getI hX (dc_X12_digits 37 rfl) fl_X12_199 (by decide) rfl (stS hΩ 0 rfl) ?_
  refine g_iconst (w := (1 : Int32)) hX (dc_X12_digits 38 rfl) (by decide) ?_
  refine g_iadd hX (dc_X12_digits 39 rfl) ?_
  refine g_putI (raw := false) hX (dc_X12_digits 40 rfl) fl_X12_199 (by decide) ⟨rfl, rfl⟩ ⟨rfl, rfl⟩ (stS hΩ 0 rfl) ?_
  refine g_goto (tgt := 25) hX (dc_X12_digits 41 rfl) (by decide) ?_
  exact g_sub [1, 2, 3, 0] rfl (hk25 (y1) (y2) (s0) (wI σ 0 30 ((sI σ 0 30) + (1 : Int32))) )
def b_X12_digits_25   : Nat → Int32 → Int32 → Int32 → MS → Option (Int32 × MS)
  | 0, _, _, _, _ => none
  | n + 1, y1, y2, y3, σ => (f_X12_isDigit σ).bind (fun r12 => (if r12 = 0 then (if (5 : Int32) < ((sI σ 0 30) - y2) then (b_X12_digits_87 (y2) (y3) σ) else (if y3 ≤ y1 then (b_X12_digits_93 (y3) σ) else (b_X12_digits_87 (y2) (y3) σ))) else (if (5 : Int32) ≤ ((sI σ 0 30) - y2) then (b_X12_digits_58 (b_X12_digits_25  n) (y1) (y2) (y3) σ) else (f_X12_sign σ).bind (fun r17 => (b_X12_digits_58 (b_X12_digits_25  n) (y1) (y2) (((((10 : Int32) * y3) + r17) - (48 : Int32))) σ)))))
set_option maxHeartbeats 4000000 in
set_option maxRecDepth 20000 in
theorem c_X12_digits_25 {X : CX} {Ω : OM} (hX : CF X Ω RX12 cX12_digits 4 (some .int) rm_X12_digits) (hO : OKO Ω) (hΩ : oSH Ω = SHM)    : ∀ (n : Nat) (y1 : Int32) (y2 : Int32) (y3 : Int32) (σ : MS) , GE X Ω 4 0 0 (emWI) 0 0 25 [(0, .ref 0), (1, .int y1), (2, .int y2), (3, .int y3)] [] σ (b_X12_digits_25  n y1 y2 y3 σ)
  | 0, _, _, _, _ => g_none
  | n + 1, y1, y2, y3, σ => by
    have hk25 := c_X12_digits_25 hX hO hΩ  n
    unfold b_X12_digits_25
    refine g_aload_n hX (dc_X12_digits 15 rfl) rfl 0 rfl ?_
    refine gV_PI (As := []) (st := []) hX (dc_X12_digits 16 rfl) ml_X12_239 (con_X12_isDigit hO hΩ σ) (stS hΩ 0 rfl) rfl rfl ⟨by decide, by decide⟩ ⟨rfl, rfl⟩ ⟨Nat.zero_le _, Nat.zero_le _⟩ (Nat.le_of_ble_eq_true rfl) (fun r12 _ => ?_)
    refine g_if_eq (tgt := 72) hX (dc_X12_digits 17 rfl) (by decide) (fun h13 => ?_) (fun h13 => ?_)
    · refine g_aload_n hX (dc_X12_digits 42 rfl) rfl 0 rfl ?_
      refine g_getI hX (dc_X12_digits 43 rfl) fl_X12_199 (by decide) rfl (stS hΩ 0 rfl) ?_
      refine g_iload_n hX (dc_X12_digits 44 rfl) rfl 2 rfl ?_
      refine g_isub hX (dc_X12_digits 45 rfl) ?_
      refine g_iconst (w := (5 : Int32)) hX (dc_X12_digits 46 rfl) (by decide) ?_
      refine g_icmp_gt (tgt := 87) hX (dc_X12_digits 47 rfl) (by decide) (fun h14 => ?_) (fun h14 => ?_)
      · exact g_sub [0, 2, 3] rfl (c_X12_digits_87 hX hO hΩ (y2) (y3) σ)
      · refine g_iload_n hX (dc_X12_digits 48 rfl) rfl 3 rfl ?_
        refine g_iload_n hX (dc_X12_digits 49 rfl) rfl 1 rfl ?_
        refine g_icmp_le (tgt := 93) hX (dc_X12_digits 50 rfl) (by decide) (fun h15 => ?_) (fun h15 => ?_)
        · exact g_sub [3] rfl (c_X12_digits_93 hX hO hΩ (y3) σ)
        · exact g_sub [0, 2, 3] rfl (c_X12_digits_87 hX hO hΩ (y2) (y3) σ)
    · refine g_aload_n hX (dc_X12_digits 18 rfl) rfl 0 rfl ?_
      refine g_getI hX (dc_X12_digits 19 rfl) fl_X12_199 (by decide) rfl (stS hΩ 0 rfl) ?_
      refine g_iload_n hX (dc_X12_digits 20 rfl) rfl 2 rfl ?_
      refine g_isub hX (dc_X12_digits 21 rfl) ?_
      refine g_iconst (w := (5 : Int32)) hX (dc_X12_digits 22 rfl) (by decide) ?_
      refine g_icmp_ge (tgt := 57) hX (dc_X12_digits 23 rfl) (by decide) (fun h16 => ?_) (fun h16 => ?_)
      · refine g_iload_n hX (dc_X12_digits 33 rfl) rfl 3 rfl ?_
        exact g_sub [0, 1, 2] rfl (c_X12_digits_58 hX hO hΩ _ hk25 (y1) (y2) (y3) σ)
      · refine g_bipush (w := (10 : Int32)) hX (dc_X12_digits 24 rfl) (by decide) ?_
        refine g_iload_n hX (dc_X12_digits 25 rfl) rfl 3 rfl ?_
        refine g_imul hX (dc_X12_digits 26 rfl) ?_
        refine g_aload_n hX (dc_X12_digits 27 rfl) rfl 0 rfl ?_
        refine gV_PI (As := []) (st := [.int ((10 : Int32) * y3)]) hX (dc_X12_digits 28 rfl) ml_X12_202 (con_X12_sign hO hΩ σ) (stS hΩ 0 rfl) rfl rfl ⟨by decide, by decide⟩ ⟨rfl, rfl⟩ ⟨Nat.zero_le _, Nat.zero_le _⟩ (Nat.le_of_ble_eq_true rfl) (fun r17 _ => ?_)
        refine g_iadd hX (dc_X12_digits 29 rfl) ?_
        refine g_bipush (w := (48 : Int32)) hX (dc_X12_digits 30 rfl) (by decide) ?_
        refine g_isub hX (dc_X12_digits 31 rfl) ?_
        refine g_goto (tgt := 58) hX (dc_X12_digits 32 rfl) (by decide) ?_
        exact g_sub [0, 1, 2] rfl (c_X12_digits_58 hX hO hΩ _ hk25 (y1) (y2) (((((10 : Int32) * y3) + r17) - (48 : Int32))) σ)
def b_X12_digits_0   (x1 : Int32)  (σ : MS) : Option (Int32 × MS) := (f_X12_isDigit σ).bind (fun r18 => (if r18 = 0 then (f_X12_fails (0 : Int32) (sI σ 0 30) σ).bind (fun r20 => some ((0 : Int32), r20)) else (b_X12_digits_25 FU (x1) ((sI σ 0 30)) ((0 : Int32)) σ)))
set_option maxHeartbeats 4000000 in
set_option maxRecDepth 20000 in
theorem c_X12_digits_0 {X : CX} {Ω : OM} (hX : CF X Ω RX12 cX12_digits 4 (some .int) rm_X12_digits) (hO : OKO Ω) (hΩ : oSH Ω = SHM)    (x1 : Int32)  (σ : MS)  : GE X Ω 4 0 0 (emWI) 0 0 0 [(0, .ref 0), (1, .int x1)] [] σ (b_X12_digits_0  x1 σ) := by
  unfold b_X12_digits_0
  refine g_aload_n hX (dc_X12_digits 0 rfl) rfl 0 rfl ?_
  refine gV_PI (As := []) (st := []) hX (dc_X12_digits 1 rfl) ml_X12_239 (con_X12_isDigit hO hΩ σ) (stS hΩ 0 rfl) rfl rfl ⟨by decide, by decide⟩ ⟨rfl, rfl⟩ ⟨Nat.zero_le _, Nat.zero_le _⟩ (Nat.le_of_ble_eq_true rfl) (fun r18 _ => ?_)
  refine g_if_ne (tgt := 18) hX (dc_X12_digits 2 rfl) (by decide) (fun h19 => ?_) (fun h19 => ?_)
  · refine g_aload_n hX (dc_X12_digits 3 rfl) rfl 0 rfl ?_
    refine g_iconst (w := (0 : Int32)) hX (dc_X12_digits 4 rfl) (by decide) ?_
    refine g_aload_n hX (dc_X12_digits 5 rfl) rfl 0 rfl ?_
    refine g_getI hX (dc_X12_digits 6 rfl) fl_X12_199 (by decide) rfl (stS hΩ 0 rfl) ?_
    refine gV_WV (As := [.int (0 : Int32), .int (sI σ 0 30)]) (st := []) hX (dc_X12_digits 7 rfl) ml_X12_235 (con_X12_fails hO hΩ (0 : Int32) (sI σ 0 30) σ) (stS hΩ 0 rfl) rfl rfl ⟨by decide, by decide⟩ ⟨rfl, rfl⟩ ⟨Nat.zero_le _, Nat.zero_le _⟩ (Nat.le_of_ble_eq_true rfl) (fun r20 _ => ?_)
    refine g_iconst (w := (0 : Int32)) hX (dc_X12_digits 8 rfl) (by decide) ?_
    exact g_iret hX (dc_X12_digits 9 rfl) rfl rfl (Nat.le_refl _) (Nat.le_refl _)
  · refine g_aload_n hX (dc_X12_digits 10 rfl) rfl 0 rfl ?_
    refine g_getI hX (dc_X12_digits 11 rfl) fl_X12_199 (by decide) rfl (stS hΩ 0 rfl) ?_
    refine g_istore_n (L' := [(2, .int (sI σ 0 30)), (0, .ref 0), (1, .int x1)]) hX (dc_X12_digits 12 rfl) rfl (by decide) rfl ?_
    refine g_iconst (w := (0 : Int32)) hX (dc_X12_digits 13 rfl) (by decide) ?_
    refine g_istore_n (L' := [(3, .int (0 : Int32)), (2, .int (sI σ 0 30)), (0, .ref 0), (1, .int x1)]) hX (dc_X12_digits 14 rfl) rfl (by decide) rfl ?_
    exact g_sub [2, 3, 1, 0] rfl (c_X12_digits_25 hX hO hΩ FU (x1) ((sI σ 0 30)) ((0 : Int32)) σ)
def f_X12_digits (x1 : Int32) (σ : MS) : Option (Int32 × MS) := b_X12_digits_0  x1 σ
theorem con_X12_digits {Ω : OM} (hO : OKO Ω) (hΩ : oSH Ω = SHM) (x1 : Int32) (σ : MS)  : Con Ω yX12_digits cX12_digits 4 (some .int) rm_X12_digits (emWI) [.ref 0, .int x1] σ (f_X12_digits x1 σ) :=
  con_of hO (by decide +kernel) (Nat.le_of_ble_eq_true rfl) rfl (fun X hX _ => c_X12_digits_0 hX hO hΩ   x1 σ )
def it_X12_value : List (Nat × Instr × Nat × Nat) := [(0, .aload_n 0, 1, 1), (1, .invokevirtual 219, 3, 4), (4, .aload_n 0, 1, 5), (5, .getfield 199, 3, 8), (8, .istore_n 1, 1, 9), (9, .aload_n 0, 1, 10), (10, .invokevirtual 239, 3, 13), (13, .ifCond .eq 22, 3, 16), (16, .aload_n 0, 1, 17), (17, .ldc 243, 2, 19), (19, .invokevirtual 244, 3, 22), (22, .istore_n 2, 1, 23), (23, .aload_n 0, 1, 24), (24, .iload_n 1, 1, 25), (25, .invokevirtual 248, 3, 28), (28, .aload_n 0, 1, 29), (29, .iconst 0, 1, 30), (30, .iload_n 2, 1, 31), (31, .invokevirtual 251, 3, 34), (34, .return_, 1, 35), (35, .iconst 0, 1, 36), (36, .istore_n 2, 1, 37), (37, .iload_n 2, 1, 38), (38, .aload_n 0, 1, 39), (39, .getfield 91, 3, 42), (42, .if_icmp .ge 20, 3, 45), (45, .aload_n 0, 1, 46), (46, .iload_n 2, 1, 47), (47, .invokestatic 254, 3, 50), (50, .invokevirtual 222, 3, 53), (53, .ifCond .ne 9, 3, 56), (56, .iinc 2 1, 3, 59), (59, .goto (-22), 3, 62), (62, .iload_n 2, 1, 63), (63, .aload_n 0, 1, 64), (64, .getfield 91, 3, 67), (67, .if_icmp .ne 10, 3, 70), (70, .aload_n 0, 1, 71), (71, .iconst 0, 1, 72), (72, .iload_n 1, 1, 73), (73, .invokevirtual 235, 3, 76), (76, .return_, 1, 77), (77, .aload_n 0, 1, 78), (78, .iload_n 1, 1, 79), (79, .invokevirtual 248, 3, 82), (82, .aload_n 0, 1, 83), (83, .dup, 1, 84), (84, .getfield 199, 3, 87), (87, .iload_n 2, 1, 88), (88, .invokestatic 254, 3, 91), (91, .invokevirtual 210, 3, 94), (94, .iadd, 1, 95), (95, .putfield 199, 3, 98), (98, .aload_n 0, 1, 99), (99, .iconst 1, 1, 100), (100, .iload_n 2, 1, 101), (101, .invokevirtual 251, 3, 104), (104, .return_, 1, 105)]
theorem id_X12_value : ∀ q ∈ it_X12_value, decode cX12_value q.1 = .ok (q.2.1, q.2.2.1) ∧ q.1 + q.2.2.1 = q.2.2.2 := by decide +kernel
theorem dc_X12_value {pc : Nat} {i : Instr} {n pc' : Nat} (j : Nat) (h : it_X12_value[j]? = some (pc, i, n, pc')) : Dc cX12_value pc i n pc' := dc_of id_X12_value j h
abbrev rm_X12_value : Room := { frames := 5, cells := 0, slots := 0, locals := 109 }
def b_X12_value_62    (y1 : Int32) (y2 : Int32) (σ : MS) : Option (MS) := (if y2 = (sI σ 0 38) then (f_X12_fails (0 : Int32) y1 σ).bind (fun r20 => some (r20)) else (f_X12_isCounted y1 σ).bind (fun r21 => (f_X12_wordOf y2).bind (fun r22 => chk (r22 < 23) ((f_J0_length_8abf5 r22).bind (fun r24 => (f_X12_entry (1 : Int32) y2 (wI r21 0 30 ((sI r21 0 30) + r24))).bind (fun r25 => some (r25)))))))
set_option maxHeartbeats 4000000 in
set_option maxRecDepth 20000 in
theorem c_X12_value_62 {X : CX} {Ω : OM} (hX : CF X Ω RX12 cX12_value 3 none rm_X12_value) (hO : OKO Ω) (hΩ : oSH Ω = SHM)     (y1 : Int32) (y2 : Int32) (σ : MS)  : GE X Ω 3 0 0 (emWV) 0 0 62 [(0, .ref 0), (1, .int y1), (2, .int y2)] [] σ (b_X12_value_62  y1 y2 σ) := by
  unfold b_X12_value_62
  refine g_iload_n hX (dc_X12_value 33 rfl) rfl 2 rfl ?_
  refine g_aload_n hX (dc_X12_value 34 rfl) rfl 0 rfl ?_
  refine g_getI hX (dc_X12_value 35 rfl) fl_X12_91 (by decide) rfl (stS hΩ 0 rfl) ?_
  refine g_icmp_ne (tgt := 77) hX (dc_X12_value 36 rfl) (by decide) (fun h19 => ?_) (fun h19 => ?_)
  · refine g_aload_n hX (dc_X12_value 37 rfl) rfl 0 rfl ?_
    refine g_iconst (w := (0 : Int32)) hX (dc_X12_value 38 rfl) (by decide) ?_
    refine g_iload_n hX (dc_X12_value 39 rfl) rfl 1 rfl ?_
    refine gV_WV (As := [.int (0 : Int32), .int y1]) (st := []) hX (dc_X12_value 40 rfl) ml_X12_235 (con_X12_fails hO hΩ (0 : Int32) y1 σ) (stS hΩ 0 rfl) rfl rfl ⟨by decide, by decide⟩ ⟨rfl, rfl⟩ ⟨Nat.zero_le _, Nat.zero_le _⟩ (Nat.le_of_ble_eq_true rfl) (fun r20 _ => ?_)
    exact g_vret hX (dc_X12_value 41 rfl) rfl (Nat.le_refl _) (Nat.le_refl _)
  · refine g_aload_n hX (dc_X12_value 42 rfl) rfl 0 rfl ?_
    refine g_iload_n hX (dc_X12_value 43 rfl) rfl 1 rfl ?_
    refine gV_WV (As := [.int y1]) (st := []) hX (dc_X12_value 44 rfl) ml_X12_248 (con_X12_isCounted hO hΩ y1 σ) (stS hΩ 0 rfl) rfl rfl ⟨by decide, by decide⟩ ⟨rfl, rfl⟩ ⟨Nat.zero_le _, Nat.zero_le _⟩ (Nat.le_of_ble_eq_true rfl) (fun r21 _ => ?_)
    refine g_aload_n hX (dc_X12_value 45 rfl) rfl 0 rfl ?_
    refine g_dup hX (dc_X12_value 46 rfl) rfl ?_
    refine g_getI hX (dc_X12_value 47 rfl) fl_X12_199 (by decide) rfl (stS hΩ 0 rfl) ?_
    refine g_iload_n hX (dc_X12_value 48 rfl) rfl 2 rfl ?_
    refine gS_PS (As := [.int y2]) (st := [.int (sI r21 0 30), .ref 0]) hX (dc_X12_value 49 rfl) ml_X12_254 (con_X12_wordOf hO hΩ y2 r21) rfl rfl ⟨by decide, by decide⟩ ⟨rfl, rfl⟩ ⟨Nat.zero_le _, Nat.zero_le _⟩ (Nat.le_of_ble_eq_true rfl) (fun r22 _ => ?_)
    refine g_chk (fun hk23 => ?_)
    refine g_callT (As := []) (st := [.int (sI r21 0 30), .ref 0]) hX (dc_X12_value 50 rfl) ml_X12_210 ⟨wi_J0_length_8abf5, ws_J0_length_8abf5⟩ hk23 (con_J0_length_8abf5 hO r22 r21 hk23) rfl rfl ⟨by decide, by decide⟩ ⟨rfl, rfl⟩ ⟨Nat.zero_le _, Nat.zero_le _⟩ (Nat.le_of_ble_eq_true rfl) (fun r24 _ => ?_)
    refine g_iadd hX (dc_X12_value 51 rfl) ?_
    refine g_putI (raw := false) hX (dc_X12_value 52 rfl) fl_X12_199 (by decide) ⟨rfl, rfl⟩ ⟨rfl, rfl⟩ (stS hΩ 0 rfl) ?_
    refine g_aload_n hX (dc_X12_value 53 rfl) rfl 0 rfl ?_
    refine g_iconst (w := (1 : Int32)) hX (dc_X12_value 54 rfl) (by decide) ?_
    refine g_iload_n hX (dc_X12_value 55 rfl) rfl 2 rfl ?_
    refine gV_WV (As := [.int (1 : Int32), .int y2]) (st := []) hX (dc_X12_value 56 rfl) ml_X12_251 (con_X12_entry hO hΩ (1 : Int32) y2 (wI r21 0 30 ((sI r21 0 30) + r24))) (stS hΩ 0 rfl) rfl rfl ⟨by decide, by decide⟩ ⟨rfl, rfl⟩ ⟨Nat.zero_le _, Nat.zero_le _⟩ (Nat.le_of_ble_eq_true rfl) (fun r25 _ => ?_)
    exact g_vret hX (dc_X12_value 57 rfl) rfl (Nat.le_refl _) (Nat.le_refl _)
def b_X12_value_37   : Nat → Int32 → Int32 → MS → Option (MS)
  | 0, _, _, _ => none
  | n + 1, y1, y2, σ => (if (sI σ 0 38) ≤ y2 then (b_X12_value_62 (y1) (y2) σ) else (f_X12_wordOf y2).bind (fun r27 => chk (r27 < 23) ((f_X12_stood r27 σ).bind (fun r29 => (if r29 = 0 then ((b_X12_value_37  n) (y1) ((y2 + (1 : Int32))) σ) else (b_X12_value_62 (y1) (y2) σ))))))
set_option maxHeartbeats 4000000 in
set_option maxRecDepth 20000 in
theorem c_X12_value_37 {X : CX} {Ω : OM} (hX : CF X Ω RX12 cX12_value 3 none rm_X12_value) (hO : OKO Ω) (hΩ : oSH Ω = SHM)    : ∀ (n : Nat) (y1 : Int32) (y2 : Int32) (σ : MS) , GE X Ω 3 0 0 (emWV) 0 0 37 [(0, .ref 0), (1, .int y1), (2, .int y2)] [] σ (b_X12_value_37  n y1 y2 σ)
  | 0, _, _, _ => g_none
  | n + 1, y1, y2, σ => by
    have hk37 := c_X12_value_37 hX hO hΩ  n
    unfold b_X12_value_37
    refine g_iload_n hX (dc_X12_value 22 rfl) rfl 2 rfl ?_
    refine g_aload_n hX (dc_X12_value 23 rfl) rfl 0 rfl ?_
    refine g_getI hX (dc_X12_value 24 rfl) fl_X12_91 (by decide) rfl (stS hΩ 0 rfl) ?_
    refine g_icmp_ge (tgt := 62) hX (dc_X12_value 25 rfl) (by decide) (fun h26 => ?_) (fun h26 => ?_)
    · exact g_sub [0, 1, 2] rfl (c_X12_value_62 hX hO hΩ (y1) (y2) σ)
    · refine g_aload_n hX (dc_X12_value 26 rfl) rfl 0 rfl ?_
      refine g_iload_n hX (dc_X12_value 27 rfl) rfl 2 rfl ?_
      refine gS_PS (As := [.int y2]) (st := [.ref 0]) hX (dc_X12_value 28 rfl) ml_X12_254 (con_X12_wordOf hO hΩ y2 σ) rfl rfl ⟨by decide, by decide⟩ ⟨rfl, rfl⟩ ⟨Nat.zero_le _, Nat.zero_le _⟩ (Nat.le_of_ble_eq_true rfl) (fun r27 _ => ?_)
      refine g_chk (fun hk28 => ?_)
      refine gV_PI (As := [.ref (1000000 + r27)]) (st := []) hX (dc_X12_value 29 rfl) ml_X12_222 (con_X12_stood hO hΩ r27 σ hk28) (stS hΩ 0 rfl) rfl rfl ⟨by decide, by decide⟩ ⟨rfl, rfl⟩ ⟨Nat.zero_le _, Nat.zero_le _⟩ (Nat.le_of_ble_eq_true rfl) (fun r29 _ => ?_)
      refine g_if_ne (tgt := 62) hX (dc_X12_value 30 rfl) (by decide) (fun h30 => ?_) (fun h30 => ?_)
      · refine g_iinc (w := (y2 + (1 : Int32))) (L' := [(2, .int (y2 + (1 : Int32))), (0, .ref 0), (1, .int y1)]) hX (dc_X12_value 31 rfl) 2 rfl rfl (by decide) rfl ?_
        refine g_goto (tgt := 37) hX (dc_X12_value 32 rfl) (by decide) ?_
        exact g_sub [1, 2, 0] rfl (hk37 (y1) ((y2 + (1 : Int32))) σ )
      · exact g_sub [0, 1, 2] rfl (c_X12_value_62 hX hO hΩ (y1) (y2) σ)
def b_X12_value_0     (σ : MS) : Option (MS) := (f_X12_blanks σ).bind (fun r31 => (f_X12_isDigit r31).bind (fun r32 => (if r32 = 0 then (b_X12_value_37 FU ((sI r31 0 30)) ((0 : Int32)) r31) else (f_X12_digits (99999 : Int32) r31).bind (fun r34 => (f_X12_isCounted (sI r31 0 30) r34.2).bind (fun r35 => (f_X12_entry (0 : Int32) r34.1 r35).bind (fun r36 => some (r36)))))))
set_option maxHeartbeats 4000000 in
set_option maxRecDepth 20000 in
theorem c_X12_value_0 {X : CX} {Ω : OM} (hX : CF X Ω RX12 cX12_value 3 none rm_X12_value) (hO : OKO Ω) (hΩ : oSH Ω = SHM)      (σ : MS)  : GE X Ω 3 0 0 (emWV) 0 0 0 [(0, .ref 0)] [] σ (b_X12_value_0  σ) := by
  unfold b_X12_value_0
  refine g_aload_n hX (dc_X12_value 0 rfl) rfl 0 rfl ?_
  refine gV_WV (As := []) (st := []) hX (dc_X12_value 1 rfl) ml_X12_219 (con_X12_blanks hO hΩ σ) (stS hΩ 0 rfl) rfl rfl ⟨by decide, by decide⟩ ⟨rfl, rfl⟩ ⟨Nat.zero_le _, Nat.zero_le _⟩ (Nat.le_of_ble_eq_true rfl) (fun r31 _ => ?_)
  refine g_aload_n hX (dc_X12_value 2 rfl) rfl 0 rfl ?_
  refine g_getI hX (dc_X12_value 3 rfl) fl_X12_199 (by decide) rfl (stS hΩ 0 rfl) ?_
  refine g_istore_n (L' := [(1, .int (sI r31 0 30)), (0, .ref 0)]) hX (dc_X12_value 4 rfl) rfl (by decide) rfl ?_
  refine g_aload_n hX (dc_X12_value 5 rfl) rfl 1 rfl ?_
  refine gV_PI (As := []) (st := []) hX (dc_X12_value 6 rfl) ml_X12_239 (con_X12_isDigit hO hΩ r31) (stS hΩ 0 rfl) rfl rfl ⟨by decide, by decide⟩ ⟨rfl, rfl⟩ ⟨Nat.zero_le _, Nat.zero_le _⟩ (Nat.le_of_ble_eq_true rfl) (fun r32 _ => ?_)
  refine g_if_eq (tgt := 35) hX (dc_X12_value 7 rfl) (by decide) (fun h33 => ?_) (fun h33 => ?_)
  · refine g_iconst (w := (0 : Int32)) hX (dc_X12_value 20 rfl) (by decide) ?_
    refine g_istore_n (L' := [(2, .int (0 : Int32)), (1, .int (sI r31 0 30)), (0, .ref 0)]) hX (dc_X12_value 21 rfl) rfl (by decide) rfl ?_
    exact g_sub [2, 1, 0] rfl (c_X12_value_37 hX hO hΩ FU ((sI r31 0 30)) ((0 : Int32)) r31)
  · refine g_aload_n hX (dc_X12_value 8 rfl) rfl 1 rfl ?_
    refine g_ldc hX (dc_X12_value 9 rfl) wk_X12_243 ?_
    refine gV_WI (As := [.int (99999 : Int32)]) (st := []) hX (dc_X12_value 10 rfl) ml_X12_244 (con_X12_digits hO hΩ (99999 : Int32) r31) (stS hΩ 0 rfl) rfl rfl ⟨by decide, by decide⟩ ⟨rfl, rfl⟩ ⟨Nat.zero_le _, Nat.zero_le _⟩ (Nat.le_of_ble_eq_true rfl) (fun r34 _ => ?_)
    refine g_istore_n (L' := [(2, .int r34.1), (1, .int (sI r31 0 30)), (0, .ref 0)]) hX (dc_X12_value 11 rfl) rfl (by decide) rfl ?_
    refine g_aload_n hX (dc_X12_value 12 rfl) rfl 2 rfl ?_
    refine g_iload_n hX (dc_X12_value 13 rfl) rfl 1 rfl ?_
    refine gV_WV (As := [.int (sI r31 0 30)]) (st := []) hX (dc_X12_value 14 rfl) ml_X12_248 (con_X12_isCounted hO hΩ (sI r31 0 30) r34.2) (stS hΩ 0 rfl) rfl rfl ⟨by decide, by decide⟩ ⟨rfl, rfl⟩ ⟨Nat.zero_le _, Nat.zero_le _⟩ (Nat.le_of_ble_eq_true rfl) (fun r35 _ => ?_)
    refine g_aload_n hX (dc_X12_value 15 rfl) rfl 2 rfl ?_
    refine g_iconst (w := (0 : Int32)) hX (dc_X12_value 16 rfl) (by decide) ?_
    refine g_iload_n hX (dc_X12_value 17 rfl) rfl 0 rfl ?_
    refine gV_WV (As := [.int (0 : Int32), .int r34.1]) (st := []) hX (dc_X12_value 18 rfl) ml_X12_251 (con_X12_entry hO hΩ (0 : Int32) r34.1 r35) (stS hΩ 0 rfl) rfl rfl ⟨by decide, by decide⟩ ⟨rfl, rfl⟩ ⟨Nat.zero_le _, Nat.zero_le _⟩ (Nat.le_of_ble_eq_true rfl) (fun r36 _ => ?_)
    exact g_vret hX (dc_X12_value 19 rfl) rfl (Nat.le_refl _) (Nat.le_refl _)
def f_X12_value  (σ : MS) : Option (MS) := b_X12_value_0   σ
theorem con_X12_value {Ω : OM} (hO : OKO Ω) (hΩ : oSH Ω = SHM)  (σ : MS)  : Con Ω yX12_value cX12_value 3 none rm_X12_value (emWV) [.ref 0] σ (f_X12_value  σ) :=
  con_of hO (by decide +kernel) (Nat.le_of_ble_eq_true rfl) rfl (fun X hX _ => c_X12_value_0 hX hO hΩ    σ )
def it_X12_term : List (Nat × Instr × Nat × Nat) := [(0, .aload_n 0, 1, 1), (1, .invokevirtual 258, 3, 4), (4, .aload_n 0, 1, 5), (5, .invokevirtual 219, 3, 8), (8, .aload_n 0, 1, 9), (9, .getfield 196, 3, 12), (12, .ifCond .ne 88, 3, 15), (15, .aload_n 0, 1, 16), (16, .invokevirtual 202, 3, 19), (19, .bipush 42, 2, 21), (21, .if_icmp .eq 21, 3, 24), (24, .aload_n 0, 1, 25), (25, .invokevirtual 202, 3, 28), (28, .bipush 47, 2, 30), (30, .if_icmp .eq 12, 3, 33), (33, .aload_n 0, 1, 34), (34, .invokevirtual 202, 3, 37), (37, .bipush 37, 2, 39), (39, .if_icmp .ne 61, 3, 42), (42, .aload_n 0, 1, 43), (43, .invokevirtual 202, 3, 46), (46, .bipush 42, 2, 48), (48, .if_icmp .ne 8, 3, 51), (51, .bipush 13, 2, 53), (53, .goto 19, 3, 56), (56, .aload_n 0, 1, 57), (57, .invokevirtual 202, 3, 60), (60, .bipush 47, 2, 62), (62, .if_icmp .ne 8, 3, 65), (65, .bipush 14, 2, 67), (67, .goto 5, 3, 70), (70, .bipush 15, 2, 72), (72, .istore_n 1, 1, 73), (73, .aload_n 0, 1, 74), (74, .dup, 1, 75), (75, .getfield 199, 3, 78), (78, .iconst 1, 1, 79), (79, .iadd, 1, 80), (80, .putfield 199, 3, 83), (83, .aload_n 0, 1, 84), (84, .invokevirtual 258, 3, 87), (87, .aload_n 0, 1, 88), (88, .iload_n 1, 1, 89), (89, .iconst 0, 1, 90), (90, .invokevirtual 251, 3, 93), (93, .aload_n 0, 1, 94), (94, .invokevirtual 219, 3, 97), (97, .goto (-89), 3, 100), (100, .return_, 1, 101)]
theorem id_X12_term : ∀ q ∈ it_X12_term, decode cX12_term q.1 = .ok (q.2.1, q.2.2.1) ∧ q.1 + q.2.2.1 = q.2.2.2 := by decide +kernel
theorem dc_X12_term {pc : Nat} {i : Instr} {n pc' : Nat} (j : Nat) (h : it_X12_term[j]? = some (pc, i, n, pc')) : Dc cX12_term pc i n pc' := dc_of id_X12_term j h
abbrev rm_X12_term : Room := { frames := 6, cells := 0, slots := 0, locals := 131 }
def b_X12_term_100     (σ : MS) : Option (MS) := some (σ)
set_option maxHeartbeats 4000000 in
set_option maxRecDepth 20000 in
theorem c_X12_term_100 {X : CX} {Ω : OM} (hX : CF X Ω RX12 cX12_term 2 none rm_X12_term) (hO : OKO Ω) (hΩ : oSH Ω = SHM)      (σ : MS)  : GE X Ω 2 0 0 (emWV) 0 0 100 [] [] σ (b_X12_term_100  σ) := by
  unfold b_X12_term_100
  exact g_vret hX (dc_X12_term 48 rfl) rfl (Nat.le_refl _) (Nat.le_refl _)
def b_X12_term_72  (k8 : MS → Option (MS))  (s0 : Int32) (σ : MS) : Option (MS) := (f_X12_value (wI σ 0 30 ((sI σ 0 30) + (1 : Int32)))).bind (fun r17 => (f_X12_entry s0 (0 : Int32) r17).bind (fun r18 => (f_X12_blanks r18).bind (fun r19 => (k8 r19))))
set_option maxHeartbeats 4000000 in
set_option maxRecDepth 20000 in
theorem c_X12_term_72 {X : CX} {Ω : OM} (hX : CF X Ω RX12 cX12_term 2 none rm_X12_term) (hO : OKO Ω) (hΩ : oSH Ω = SHM)   (k8 : MS → Option (MS)) (hk8 : ∀  (σ : MS) , GE X Ω 2 0 0 (emWV) 0 0 8 [(0, .ref 0)] [] σ (k8 σ))  (s0 : Int32) (σ : MS)  : GE X Ω 2 0 0 (emWV) 0 0 72 [(0, .ref 0)] [.int s0] σ (b_X12_term_72  k8 s0 σ) := by
  unfold b_X12_term_72
  refine g_istore_n (L' := [(1, .int s0), (0, .ref 0)]) hX (dc_X12_term 32 rfl) rfl (by decide) rfl ?_
  refine g_aload_n hX (dc_X12_term 33 rfl) rfl 1 rfl ?_
  refine g_dup hX (dc_X12_term 34 rfl) rfl ?_
  refine g_getI hX (dc_X12_term 35 rfl) fl_X12_199 (by decide) rfl (stS hΩ 0 rfl) ?_
  refine g_iconst (w := (1 : Int32)) hX (dc_X12_term 36 rfl) (by decide) ?_
  refine g_iadd hX (dc_X12_term 37 rfl) ?_
  refine g_putI (raw := false) hX (dc_X12_term 38 rfl) fl_X12_199 (by decide) ⟨rfl, rfl⟩ ⟨rfl, rfl⟩ (stS hΩ 0 rfl) ?_
  refine g_aload_n hX (dc_X12_term 39 rfl) rfl 1 rfl ?_
  refine gV_WV (As := []) (st := []) hX (dc_X12_term 40 rfl) ml_X12_258 (con_X12_value hO hΩ (wI σ 0 30 ((sI σ 0 30) + (1 : Int32)))) (stS hΩ 0 rfl) rfl rfl ⟨by decide, by decide⟩ ⟨rfl, rfl⟩ ⟨Nat.zero_le _, Nat.zero_le _⟩ (Nat.le_of_ble_eq_true rfl) (fun r17 _ => ?_)
  refine g_aload_n hX (dc_X12_term 41 rfl) rfl 1 rfl ?_
  refine g_iload_n hX (dc_X12_term 42 rfl) rfl 0 rfl ?_
  refine g_iconst (w := (0 : Int32)) hX (dc_X12_term 43 rfl) (by decide) ?_
  refine gV_WV (As := [.int s0, .int (0 : Int32)]) (st := []) hX (dc_X12_term 44 rfl) ml_X12_251 (con_X12_entry hO hΩ s0 (0 : Int32) r17) (stS hΩ 0 rfl) rfl rfl ⟨by decide, by decide⟩ ⟨rfl, rfl⟩ ⟨Nat.zero_le _, Nat.zero_le _⟩ (Nat.le_of_ble_eq_true rfl) (fun r18 _ => ?_)
  refine g_aload_n hX (dc_X12_term 45 rfl) rfl 1 rfl ?_
  refine gV_WV (As := []) (st := []) hX (dc_X12_term 46 rfl) ml_X12_219 (con_X12_blanks hO hΩ r18) (stS hΩ 0 rfl) rfl rfl ⟨by decide, by decide⟩ ⟨rfl, rfl⟩ ⟨Nat.zero_le _, Nat.zero_le _⟩ (Nat.le_of_ble_eq_true rfl) (fun r19 _ => ?_)
  refine g_goto (tgt := 8) hX (dc_X12_term 47 rfl) (by decide) ?_
  exact g_sub [1] rfl (hk8 r19 )
def b_X12_term_42  (k8 : MS → Option (MS))   (σ : MS) : Option (MS) := (f_X12_sign σ).bind (fun r20 => (if r20 = (42 : Int32) then (b_X12_term_72 k8 ((13 : Int32)) σ) else (f_X12_sign σ).bind (fun r22 => (if r22 = (47 : Int32) then (b_X12_term_72 k8 ((14 : Int32)) σ) else (b_X12_term_72 k8 ((15 : Int32)) σ)))))
set_option maxHeartbeats 4000000 in
set_option maxRecDepth 20000 in
theorem c_X12_term_42 {X : CX} {Ω : OM} (hX : CF X Ω RX12 cX12_term 2 none rm_X12_term) (hO : OKO Ω) (hΩ : oSH Ω = SHM)   (k8 : MS → Option (MS)) (hk8 : ∀  (σ : MS) , GE X Ω 2 0 0 (emWV) 0 0 8 [(0, .ref 0)] [] σ (k8 σ))   (σ : MS)  : GE X Ω 2 0 0 (emWV) 0 0 42 [(0, .ref 0)] [] σ (b_X12_term_42  k8 σ) := by
  unfold b_X12_term_42
  refine g_aload_n hX (dc_X12_term 19 rfl) rfl 0 rfl ?_
  refine gV_PI (As := []) (st := []) hX (dc_X12_term 20 rfl) ml_X12_202 (con_X12_sign hO hΩ σ) (stS hΩ 0 rfl) rfl rfl ⟨by decide, by decide⟩ ⟨rfl, rfl⟩ ⟨Nat.zero_le _, Nat.zero_le _⟩ (Nat.le_of_ble_eq_true rfl) (fun r20 _ => ?_)
  refine g_bipush (w := (42 : Int32)) hX (dc_X12_term 21 rfl) (by decide) ?_
  refine g_icmp_ne (tgt := 56) hX (dc_X12_term 22 rfl) (by decide) (fun h21 => ?_) (fun h21 => ?_)
  · refine g_bipush (w := (13 : Int32)) hX (dc_X12_term 23 rfl) (by decide) ?_
    refine g_goto (tgt := 72) hX (dc_X12_term 24 rfl) (by decide) ?_
    exact g_sub [0] rfl (c_X12_term_72 hX hO hΩ _ hk8 ((13 : Int32)) σ)
  · refine g_aload_n hX (dc_X12_term 25 rfl) rfl 0 rfl ?_
    refine gV_PI (As := []) (st := []) hX (dc_X12_term 26 rfl) ml_X12_202 (con_X12_sign hO hΩ σ) (stS hΩ 0 rfl) rfl rfl ⟨by decide, by decide⟩ ⟨rfl, rfl⟩ ⟨Nat.zero_le _, Nat.zero_le _⟩ (Nat.le_of_ble_eq_true rfl) (fun r22 _ => ?_)
    refine g_bipush (w := (47 : Int32)) hX (dc_X12_term 27 rfl) (by decide) ?_
    refine g_icmp_ne (tgt := 70) hX (dc_X12_term 28 rfl) (by decide) (fun h23 => ?_) (fun h23 => ?_)
    · refine g_bipush (w := (14 : Int32)) hX (dc_X12_term 29 rfl) (by decide) ?_
      refine g_goto (tgt := 72) hX (dc_X12_term 30 rfl) (by decide) ?_
      exact g_sub [0] rfl (c_X12_term_72 hX hO hΩ _ hk8 ((14 : Int32)) σ)
    · refine g_bipush (w := (15 : Int32)) hX (dc_X12_term 31 rfl) (by decide) ?_
      exact g_sub [0] rfl (c_X12_term_72 hX hO hΩ _ hk8 ((15 : Int32)) σ)
def b_X12_term_8   : Nat → MS → Option (MS)
  | 0, _ => none
  | n + 1, σ => (if (sI σ 0 31) = 0 then (f_X12_sign σ).bind (fun r25 => (if r25 = (42 : Int32) then (b_X12_term_42 (b_X12_term_8  n) σ) else (f_X12_sign σ).bind (fun r27 => (if r27 = (47 : Int32) then (b_X12_term_42 (b_X12_term_8  n) σ) else (f_X12_sign σ).bind (fun r29 => (if r29 = (37 : Int32) then (b_X12_term_42 (b_X12_term_8  n) σ) else (b_X12_term_100 σ))))))) else (b_X12_term_100 σ))
set_option maxHeartbeats 4000000 in
set_option maxRecDepth 20000 in
theorem c_X12_term_8 {X : CX} {Ω : OM} (hX : CF X Ω RX12 cX12_term 2 none rm_X12_term) (hO : OKO Ω) (hΩ : oSH Ω = SHM)    : ∀ (n : Nat)  (σ : MS) , GE X Ω 2 0 0 (emWV) 0 0 8 [(0, .ref 0)] [] σ (b_X12_term_8  n σ)
  | 0, _ => g_none
  | n + 1, σ => by
    have hk8 := c_X12_term_8 hX hO hΩ  n
    unfold b_X12_term_8
    refine g_aload_n hX (dc_X12_term 4 rfl) rfl 0 rfl ?_
    refine g_getI hX (dc_X12_term 5 rfl) fl_X12_196 (by decide) rfl (stS hΩ 0 rfl) ?_
    refine g_if_ne (tgt := 100) hX (dc_X12_term 6 rfl) (by decide) (fun h24 => ?_) (fun h24 => ?_)
    · refine g_aload_n hX (dc_X12_term 7 rfl) rfl 0 rfl ?_
      refine gV_PI (As := []) (st := []) hX (dc_X12_term 8 rfl) ml_X12_202 (con_X12_sign hO hΩ σ) (stS hΩ 0 rfl) rfl rfl ⟨by decide, by decide⟩ ⟨rfl, rfl⟩ ⟨Nat.zero_le _, Nat.zero_le _⟩ (Nat.le_of_ble_eq_true rfl) (fun r25 _ => ?_)
      refine g_bipush (w := (42 : Int32)) hX (dc_X12_term 9 rfl) (by decide) ?_
      refine g_icmp_eq (tgt := 42) hX (dc_X12_term 10 rfl) (by decide) (fun h26 => ?_) (fun h26 => ?_)
      · exact g_sub [0] rfl (c_X12_term_42 hX hO hΩ _ hk8 σ)
      · refine g_aload_n hX (dc_X12_term 11 rfl) rfl 0 rfl ?_
        refine gV_PI (As := []) (st := []) hX (dc_X12_term 12 rfl) ml_X12_202 (con_X12_sign hO hΩ σ) (stS hΩ 0 rfl) rfl rfl ⟨by decide, by decide⟩ ⟨rfl, rfl⟩ ⟨Nat.zero_le _, Nat.zero_le _⟩ (Nat.le_of_ble_eq_true rfl) (fun r27 _ => ?_)
        refine g_bipush (w := (47 : Int32)) hX (dc_X12_term 13 rfl) (by decide) ?_
        refine g_icmp_eq (tgt := 42) hX (dc_X12_term 14 rfl) (by decide) (fun h28 => ?_) (fun h28 => ?_)
        · exact g_sub [0] rfl (c_X12_term_42 hX hO hΩ _ hk8 σ)
        · refine g_aload_n hX (dc_X12_term 15 rfl) rfl 0 rfl ?_
          refine gV_PI (As := []) (st := []) hX (dc_X12_term 16 rfl) ml_X12_202 (con_X12_sign hO hΩ σ) (stS hΩ 0 rfl) rfl rfl ⟨by decide, by decide⟩ ⟨rfl, rfl⟩ ⟨Nat.zero_le _, Nat.zero_le _⟩ (Nat.le_of_ble_eq_true rfl) (fun r29 _ => ?_)
          refine g_bipush (w := (37 : Int32)) hX (dc_X12_term 17 rfl) (by decide) ?_
          refine g_icmp_ne (tgt := 100) hX (dc_X12_term 18 rfl) (by decide) (fun h30 => ?_) (fun h30 => ?_)
          · exact g_sub [0] rfl (c_X12_term_42 hX hO hΩ _ hk8 σ)
          · exact g_sub [] rfl (c_X12_term_100 hX hO hΩ σ)
    · exact g_sub [] rfl (c_X12_term_100 hX hO hΩ σ)
def b_X12_term_0     (σ : MS) : Option (MS) := (f_X12_value σ).bind (fun r31 => (f_X12_blanks r31).bind (fun r32 => (b_X12_term_8 FU r32)))
set_option maxHeartbeats 4000000 in
set_option maxRecDepth 20000 in
theorem c_X12_term_0 {X : CX} {Ω : OM} (hX : CF X Ω RX12 cX12_term 2 none rm_X12_term) (hO : OKO Ω) (hΩ : oSH Ω = SHM)      (σ : MS)  : GE X Ω 2 0 0 (emWV) 0 0 0 [(0, .ref 0)] [] σ (b_X12_term_0  σ) := by
  unfold b_X12_term_0
  refine g_aload_n hX (dc_X12_term 0 rfl) rfl 0 rfl ?_
  refine gV_WV (As := []) (st := []) hX (dc_X12_term 1 rfl) ml_X12_258 (con_X12_value hO hΩ σ) (stS hΩ 0 rfl) rfl rfl ⟨by decide, by decide⟩ ⟨rfl, rfl⟩ ⟨Nat.zero_le _, Nat.zero_le _⟩ (Nat.le_of_ble_eq_true rfl) (fun r31 _ => ?_)
  refine g_aload_n hX (dc_X12_term 2 rfl) rfl 0 rfl ?_
  refine gV_WV (As := []) (st := []) hX (dc_X12_term 3 rfl) ml_X12_219 (con_X12_blanks hO hΩ r31) (stS hΩ 0 rfl) rfl rfl ⟨by decide, by decide⟩ ⟨rfl, rfl⟩ ⟨Nat.zero_le _, Nat.zero_le _⟩ (Nat.le_of_ble_eq_true rfl) (fun r32 _ => ?_)
  exact g_sub [0] rfl (c_X12_term_8 hX hO hΩ FU r32)
def f_X12_term  (σ : MS) : Option (MS) := b_X12_term_0   σ
theorem con_X12_term {Ω : OM} (hO : OKO Ω) (hΩ : oSH Ω = SHM)  (σ : MS)  : Con Ω yX12_term cX12_term 2 none rm_X12_term (emWV) [.ref 0] σ (f_X12_term  σ) :=
  con_of hO (by decide +kernel) (Nat.le_of_ble_eq_true rfl) rfl (fun X hX _ => c_X12_term_0 hX hO hΩ    σ )
def it_X12_sum : List (Nat × Instr × Nat × Nat) := [(0, .aload_n 0, 1, 1), (1, .invokevirtual 261, 3, 4), (4, .aload_n 0, 1, 5), (5, .getfield 196, 3, 8), (8, .ifCond .ne 59, 3, 11), (11, .aload_n 0, 1, 12), (12, .invokevirtual 202, 3, 15), (15, .bipush 43, 2, 17), (17, .if_icmp .eq 12, 3, 20), (20, .aload_n 0, 1, 21), (21, .invokevirtual 202, 3, 24), (24, .bipush 45, 2, 26), (26, .if_icmp .ne 41, 3, 29), (29, .aload_n 0, 1, 30), (30, .invokevirtual 202, 3, 33), (33, .bipush 43, 2, 35), (35, .if_icmp .ne 7, 3, 38), (38, .iconst 2, 1, 39), (39, .goto 4, 3, 42), (42, .iconst 3, 1, 43), (43, .istore_n 1, 1, 44), (44, .aload_n 0, 1, 45), (45, .dup, 1, 46), (46, .getfield 199, 3, 49), (49, .iconst 1, 1, 50), (50, .iadd, 1, 51), (51, .putfield 199, 3, 54), (54, .aload_n 0, 1, 55), (55, .invokevirtual 261, 3, 58), (58, .aload_n 0, 1, 59), (59, .iload_n 1, 1, 60), (60, .iconst 0, 1, 61), (61, .invokevirtual 251, 3, 64), (64, .goto (-60), 3, 67), (67, .return_, 1, 68)]
theorem id_X12_sum : ∀ q ∈ it_X12_sum, decode cX12_sum q.1 = .ok (q.2.1, q.2.2.1) ∧ q.1 + q.2.2.1 = q.2.2.2 := by decide +kernel
theorem dc_X12_sum {pc : Nat} {i : Instr} {n pc' : Nat} (j : Nat) (h : it_X12_sum[j]? = some (pc, i, n, pc')) : Dc cX12_sum pc i n pc' := dc_of id_X12_sum j h
abbrev rm_X12_sum : Room := { frames := 7, cells := 0, slots := 0, locals := 152 }
def b_X12_sum_67     (σ : MS) : Option (MS) := some (σ)
set_option maxHeartbeats 4000000 in
set_option maxRecDepth 20000 in
theorem c_X12_sum_67 {X : CX} {Ω : OM} (hX : CF X Ω RX12 cX12_sum 2 none rm_X12_sum) (hO : OKO Ω) (hΩ : oSH Ω = SHM)      (σ : MS)  : GE X Ω 2 0 0 (emWV) 0 0 67 [] [] σ (b_X12_sum_67  σ) := by
  unfold b_X12_sum_67
  exact g_vret hX (dc_X12_sum 34 rfl) rfl (Nat.le_refl _) (Nat.le_refl _)
def b_X12_sum_43  (k4 : MS → Option (MS))  (s0 : Int32) (σ : MS) : Option (MS) := (f_X12_term (wI σ 0 30 ((sI σ 0 30) + (1 : Int32)))).bind (fun r11 => (f_X12_entry s0 (0 : Int32) r11).bind (fun r12 => (k4 r12)))
set_option maxHeartbeats 4000000 in
set_option maxRecDepth 20000 in
theorem c_X12_sum_43 {X : CX} {Ω : OM} (hX : CF X Ω RX12 cX12_sum 2 none rm_X12_sum) (hO : OKO Ω) (hΩ : oSH Ω = SHM)   (k4 : MS → Option (MS)) (hk4 : ∀  (σ : MS) , GE X Ω 2 0 0 (emWV) 0 0 4 [(0, .ref 0)] [] σ (k4 σ))  (s0 : Int32) (σ : MS)  : GE X Ω 2 0 0 (emWV) 0 0 43 [(0, .ref 0)] [.int s0] σ (b_X12_sum_43  k4 s0 σ) := by
  unfold b_X12_sum_43
  refine g_istore_n (L' := [(1, .int s0), (0, .ref 0)]) hX (dc_X12_sum 20 rfl) rfl (by decide) rfl ?_
  refine g_aload_n hX (dc_X12_sum 21 rfl) rfl 1 rfl ?_
  refine g_dup hX (dc_X12_sum 22 rfl) rfl ?_
  refine g_getI hX (dc_X12_sum 23 rfl) fl_X12_199 (by decide) rfl (stS hΩ 0 rfl) ?_
  refine g_iconst (w := (1 : Int32)) hX (dc_X12_sum 24 rfl) (by decide) ?_
  refine g_iadd hX (dc_X12_sum 25 rfl) ?_
  refine g_putI (raw := false) hX (dc_X12_sum 26 rfl) fl_X12_199 (by decide) ⟨rfl, rfl⟩ ⟨rfl, rfl⟩ (stS hΩ 0 rfl) ?_
  refine g_aload_n hX (dc_X12_sum 27 rfl) rfl 1 rfl ?_
  refine gV_WV (As := []) (st := []) hX (dc_X12_sum 28 rfl) ml_X12_261 (con_X12_term hO hΩ (wI σ 0 30 ((sI σ 0 30) + (1 : Int32)))) (stS hΩ 0 rfl) rfl rfl ⟨by decide, by decide⟩ ⟨rfl, rfl⟩ ⟨Nat.zero_le _, Nat.zero_le _⟩ (Nat.le_of_ble_eq_true rfl) (fun r11 _ => ?_)
  refine g_aload_n hX (dc_X12_sum 29 rfl) rfl 1 rfl ?_
  refine g_iload_n hX (dc_X12_sum 30 rfl) rfl 0 rfl ?_
  refine g_iconst (w := (0 : Int32)) hX (dc_X12_sum 31 rfl) (by decide) ?_
  refine gV_WV (As := [.int s0, .int (0 : Int32)]) (st := []) hX (dc_X12_sum 32 rfl) ml_X12_251 (con_X12_entry hO hΩ s0 (0 : Int32) r11) (stS hΩ 0 rfl) rfl rfl ⟨by decide, by decide⟩ ⟨rfl, rfl⟩ ⟨Nat.zero_le _, Nat.zero_le _⟩ (Nat.le_of_ble_eq_true rfl) (fun r12 _ => ?_)
  refine g_goto (tgt := 4) hX (dc_X12_sum 33 rfl) (by decide) ?_
  exact g_sub [1] rfl (hk4 r12 )
def b_X12_sum_29  (k4 : MS → Option (MS))   (σ : MS) : Option (MS) := (f_X12_sign σ).bind (fun r13 => (if r13 = (43 : Int32) then (b_X12_sum_43 k4 ((2 : Int32)) σ) else (b_X12_sum_43 k4 ((3 : Int32)) σ)))
set_option maxHeartbeats 4000000 in
set_option maxRecDepth 20000 in
theorem c_X12_sum_29 {X : CX} {Ω : OM} (hX : CF X Ω RX12 cX12_sum 2 none rm_X12_sum) (hO : OKO Ω) (hΩ : oSH Ω = SHM)   (k4 : MS → Option (MS)) (hk4 : ∀  (σ : MS) , GE X Ω 2 0 0 (emWV) 0 0 4 [(0, .ref 0)] [] σ (k4 σ))   (σ : MS)  : GE X Ω 2 0 0 (emWV) 0 0 29 [(0, .ref 0)] [] σ (b_X12_sum_29  k4 σ) := by
  unfold b_X12_sum_29
  refine g_aload_n hX (dc_X12_sum 13 rfl) rfl 0 rfl ?_
  refine gV_PI (As := []) (st := []) hX (dc_X12_sum 14 rfl) ml_X12_202 (con_X12_sign hO hΩ σ) (stS hΩ 0 rfl) rfl rfl ⟨by decide, by decide⟩ ⟨rfl, rfl⟩ ⟨Nat.zero_le _, Nat.zero_le _⟩ (Nat.le_of_ble_eq_true rfl) (fun r13 _ => ?_)
  refine g_bipush (w := (43 : Int32)) hX (dc_X12_sum 15 rfl) (by decide) ?_
  refine g_icmp_ne (tgt := 42) hX (dc_X12_sum 16 rfl) (by decide) (fun h14 => ?_) (fun h14 => ?_)
  · refine g_iconst (w := (2 : Int32)) hX (dc_X12_sum 17 rfl) (by decide) ?_
    refine g_goto (tgt := 43) hX (dc_X12_sum 18 rfl) (by decide) ?_
    exact g_sub [0] rfl (c_X12_sum_43 hX hO hΩ _ hk4 ((2 : Int32)) σ)
  · refine g_iconst (w := (3 : Int32)) hX (dc_X12_sum 19 rfl) (by decide) ?_
    exact g_sub [0] rfl (c_X12_sum_43 hX hO hΩ _ hk4 ((3 : Int32)) σ)
def b_X12_sum_4   : Nat → MS → Option (MS)
  | 0, _ => none
  | n + 1, σ => (if (sI σ 0 31) = 0 then (f_X12_sign σ).bind (fun r16 => (if r16 = (43 : Int32) then (b_X12_sum_29 (b_X12_sum_4  n) σ) else (f_X12_sign σ).bind (fun r18 => (if r18 = (45 : Int32) then (b_X12_sum_29 (b_X12_sum_4  n) σ) else (b_X12_sum_67 σ))))) else (b_X12_sum_67 σ))
set_option maxHeartbeats 4000000 in
set_option maxRecDepth 20000 in
theorem c_X12_sum_4 {X : CX} {Ω : OM} (hX : CF X Ω RX12 cX12_sum 2 none rm_X12_sum) (hO : OKO Ω) (hΩ : oSH Ω = SHM)    : ∀ (n : Nat)  (σ : MS) , GE X Ω 2 0 0 (emWV) 0 0 4 [(0, .ref 0)] [] σ (b_X12_sum_4  n σ)
  | 0, _ => g_none
  | n + 1, σ => by
    have hk4 := c_X12_sum_4 hX hO hΩ  n
    unfold b_X12_sum_4
    refine g_aload_n hX (dc_X12_sum 2 rfl) rfl 0 rfl ?_
    refine g_getI hX (dc_X12_sum 3 rfl) fl_X12_196 (by decide) rfl (stS hΩ 0 rfl) ?_
    refine g_if_ne (tgt := 67) hX (dc_X12_sum 4 rfl) (by decide) (fun h15 => ?_) (fun h15 => ?_)
    · refine g_aload_n hX (dc_X12_sum 5 rfl) rfl 0 rfl ?_
      refine gV_PI (As := []) (st := []) hX (dc_X12_sum 6 rfl) ml_X12_202 (con_X12_sign hO hΩ σ) (stS hΩ 0 rfl) rfl rfl ⟨by decide, by decide⟩ ⟨rfl, rfl⟩ ⟨Nat.zero_le _, Nat.zero_le _⟩ (Nat.le_of_ble_eq_true rfl) (fun r16 _ => ?_)
      refine g_bipush (w := (43 : Int32)) hX (dc_X12_sum 7 rfl) (by decide) ?_
      refine g_icmp_eq (tgt := 29) hX (dc_X12_sum 8 rfl) (by decide) (fun h17 => ?_) (fun h17 => ?_)
      · exact g_sub [0] rfl (c_X12_sum_29 hX hO hΩ _ hk4 σ)
      · refine g_aload_n hX (dc_X12_sum 9 rfl) rfl 0 rfl ?_
        refine gV_PI (As := []) (st := []) hX (dc_X12_sum 10 rfl) ml_X12_202 (con_X12_sign hO hΩ σ) (stS hΩ 0 rfl) rfl rfl ⟨by decide, by decide⟩ ⟨rfl, rfl⟩ ⟨Nat.zero_le _, Nat.zero_le _⟩ (Nat.le_of_ble_eq_true rfl) (fun r18 _ => ?_)
        refine g_bipush (w := (45 : Int32)) hX (dc_X12_sum 11 rfl) (by decide) ?_
        refine g_icmp_ne (tgt := 67) hX (dc_X12_sum 12 rfl) (by decide) (fun h19 => ?_) (fun h19 => ?_)
        · exact g_sub [0] rfl (c_X12_sum_29 hX hO hΩ _ hk4 σ)
        · exact g_sub [] rfl (c_X12_sum_67 hX hO hΩ σ)
    · exact g_sub [] rfl (c_X12_sum_67 hX hO hΩ σ)
def b_X12_sum_0     (σ : MS) : Option (MS) := (f_X12_term σ).bind (fun r20 => (b_X12_sum_4 FU r20))
set_option maxHeartbeats 4000000 in
set_option maxRecDepth 20000 in
theorem c_X12_sum_0 {X : CX} {Ω : OM} (hX : CF X Ω RX12 cX12_sum 2 none rm_X12_sum) (hO : OKO Ω) (hΩ : oSH Ω = SHM)      (σ : MS)  : GE X Ω 2 0 0 (emWV) 0 0 0 [(0, .ref 0)] [] σ (b_X12_sum_0  σ) := by
  unfold b_X12_sum_0
  refine g_aload_n hX (dc_X12_sum 0 rfl) rfl 0 rfl ?_
  refine gV_WV (As := []) (st := []) hX (dc_X12_sum 1 rfl) ml_X12_261 (con_X12_term hO hΩ σ) (stS hΩ 0 rfl) rfl rfl ⟨by decide, by decide⟩ ⟨rfl, rfl⟩ ⟨Nat.zero_le _, Nat.zero_le _⟩ (Nat.le_of_ble_eq_true rfl) (fun r20 _ => ?_)
  exact g_sub [0] rfl (c_X12_sum_4 hX hO hΩ FU r20)
def f_X12_sum  (σ : MS) : Option (MS) := b_X12_sum_0   σ
theorem con_X12_sum {Ω : OM} (hO : OKO Ω) (hΩ : oSH Ω = SHM)  (σ : MS)  : Con Ω yX12_sum cX12_sum 2 none rm_X12_sum (emWV) [.ref 0] σ (f_X12_sum  σ) :=
  con_of hO (by decide +kernel) (Nat.le_of_ble_eq_true rfl) rfl (fun X hX _ => c_X12_sum_0 hX hO hΩ    σ )
def it_X12_compared : List (Nat × Instr × Nat × Nat) := [(0, .aload_n 0, 1, 1), (1, .invokevirtual 264, 3, 4), (4, .aload_n 0, 1, 5), (5, .invokevirtual 202, 3, 8), (8, .istore_n 1, 1, 9), (9, .iload_n 1, 1, 10), (10, .bipush 60, 2, 12), (12, .if_icmp .eq 25, 3, 15), (15, .iload_n 1, 1, 16), (16, .bipush 61, 2, 18), (18, .if_icmp .eq 19, 3, 21), (21, .iload_n 1, 1, 22), (22, .bipush 62, 2, 24), (24, .if_icmp .eq 13, 3, 27), (27, .aload_n 0, 1, 28), (28, .iconst 0, 1, 29), (29, .aload_n 0, 1, 30), (30, .getfield 199, 3, 33), (33, .invokevirtual 235, 3, 36), (36, .return_, 1, 37), (37, .aload_n 0, 1, 38), (38, .aload_n 0, 1, 39), (39, .getfield 199, 3, 42), (42, .invokevirtual 248, 3, 45), (45, .aload_n 0, 1, 46), (46, .dup, 1, 47), (47, .getfield 199, 3, 50), (50, .iconst 1, 1, 51), (51, .iadd, 1, 52), (52, .putfield 199, 3, 55), (55, .iload_n 1, 1, 56), (56, .bipush 61, 2, 58), (58, .if_icmp .eq 16, 3, 61), (61, .aload_n 0, 1, 62), (62, .invokevirtual 202, 3, 65), (65, .bipush 61, 2, 67), (67, .if_icmp .ne 7, 3, 70), (70, .iconst 1, 1, 71), (71, .goto 4, 3, 74), (74, .iconst 0, 1, 75), (75, .istore_n 2, 1, 76), (76, .aload_n 0, 1, 77), (77, .dup, 1, 78), (78, .getfield 199, 3, 81), (81, .iload_n 2, 1, 82), (82, .ifCond .eq 7, 3, 85), (85, .iconst 1, 1, 86), (86, .goto 4, 3, 89), (89, .iconst 0, 1, 90), (90, .iadd, 1, 91), (91, .putfield 199, 3, 94), (94, .aload_n 0, 1, 95), (95, .invokevirtual 264, 3, 98), (98, .aload_n 0, 1, 99), (99, .iload_n 1, 1, 100), (100, .bipush 61, 2, 102), (102, .if_icmp .ne 8, 3, 105), (105, .bipush 6, 2, 107), (107, .goto 32, 3, 110), (110, .iload_n 1, 1, 111), (111, .bipush 60, 2, 113), (113, .if_icmp .ne 15, 3, 116), (116, .iload_n 2, 1, 117), (117, .ifCond .eq 7, 3, 120), (120, .iconst 5, 1, 121), (121, .goto 18, 3, 124), (124, .iconst 4, 1, 125), (125, .goto 14, 3, 128), (128, .iload_n 2, 1, 129), (129, .ifCond .eq 8, 3, 132), (132, .bipush 7, 2, 134), (134, .goto 5, 3, 137), (137, .bipush 8, 2, 139), (139, .iconst 0, 1, 140), (140, .invokevirtual 251, 3, 143), (143, .return_, 1, 144)]
theorem id_X12_compared : ∀ q ∈ it_X12_compared, decode cX12_compared q.1 = .ok (q.2.1, q.2.2.1) ∧ q.1 + q.2.2.1 = q.2.2.2 := by decide +kernel
theorem dc_X12_compared {pc : Nat} {i : Instr} {n pc' : Nat} (j : Nat) (h : it_X12_compared[j]? = some (pc, i, n, pc')) : Dc cX12_compared pc i n pc' := dc_of id_X12_compared j h
abbrev rm_X12_compared : Room := { frames := 8, cells := 0, slots := 0, locals := 173 }
def b_X12_compared_139    (s0 : Int32) (σ : MS) : Option (MS) := (f_X12_entry s0 (0 : Int32) σ).bind (fun r18 => some (r18))
set_option maxHeartbeats 4000000 in
set_option maxRecDepth 20000 in
theorem c_X12_compared_139 {X : CX} {Ω : OM} (hX : CF X Ω RX12 cX12_compared 3 none rm_X12_compared) (hO : OKO Ω) (hΩ : oSH Ω = SHM)     (s0 : Int32) (σ : MS)  : GE X Ω 3 0 0 (emWV) 0 0 139 [] [.int s0, .ref 0] σ (b_X12_compared_139  s0 σ) := by
  unfold b_X12_compared_139
  refine g_iconst (w := (0 : Int32)) hX (dc_X12_compared 73 rfl) (by decide) ?_
  refine gV_WV (As := [.int s0, .int (0 : Int32)]) (st := []) hX (dc_X12_compared 74 rfl) ml_X12_251 (con_X12_entry hO hΩ s0 (0 : Int32) σ) (stS hΩ 0 rfl) rfl rfl ⟨by decide, by decide⟩ ⟨rfl, rfl⟩ ⟨Nat.zero_le _, Nat.zero_le _⟩ (Nat.le_of_ble_eq_true rfl) (fun r18 _ => ?_)
  exact g_vret hX (dc_X12_compared 75 rfl) rfl (Nat.le_refl _) (Nat.le_refl _)
def b_X12_compared_90    (y1 : Int32) (y2 : Int32) (s0 : Int32) (s1 : Int32) (σ : MS) : Option (MS) := (f_X12_sum (wI σ 0 30 (s1 + s0))).bind (fun r19 => (if y1 = (61 : Int32) then (b_X12_compared_139 ((6 : Int32)) r19) else (if y1 = (60 : Int32) then (if y2 = 0 then (b_X12_compared_139 ((4 : Int32)) r19) else (b_X12_compared_139 ((5 : Int32)) r19)) else (if y2 = 0 then (b_X12_compared_139 ((8 : Int32)) r19) else (b_X12_compared_139 ((7 : Int32)) r19)))))
set_option maxHeartbeats 4000000 in
set_option maxRecDepth 20000 in
theorem c_X12_compared_90 {X : CX} {Ω : OM} (hX : CF X Ω RX12 cX12_compared 3 none rm_X12_compared) (hO : OKO Ω) (hΩ : oSH Ω = SHM)     (y1 : Int32) (y2 : Int32) (s0 : Int32) (s1 : Int32) (σ : MS)  : GE X Ω 3 0 0 (emWV) 0 0 90 [(0, .ref 0), (1, .int y1), (2, .int y2)] [.int s0, .int s1, .ref 0] σ (b_X12_compared_90  y1 y2 s0 s1 σ) := by
  unfold b_X12_compared_90
  refine g_iadd hX (dc_X12_compared 49 rfl) ?_
  refine g_putI (raw := false) hX (dc_X12_compared 50 rfl) fl_X12_199 (by decide) ⟨rfl, rfl⟩ ⟨rfl, rfl⟩ (stS hΩ 0 rfl) ?_
  refine g_aload_n hX (dc_X12_compared 51 rfl) rfl 0 rfl ?_
  refine gV_WV (As := []) (st := []) hX (dc_X12_compared 52 rfl) ml_X12_264 (con_X12_sum hO hΩ (wI σ 0 30 (s1 + s0))) (stS hΩ 0 rfl) rfl rfl ⟨by decide, by decide⟩ ⟨rfl, rfl⟩ ⟨Nat.zero_le _, Nat.zero_le _⟩ (Nat.le_of_ble_eq_true rfl) (fun r19 _ => ?_)
  refine g_aload_n hX (dc_X12_compared 53 rfl) rfl 0 rfl ?_
  refine g_iload_n hX (dc_X12_compared 54 rfl) rfl 1 rfl ?_
  refine g_bipush (w := (61 : Int32)) hX (dc_X12_compared 55 rfl) (by decide) ?_
  refine g_icmp_ne (tgt := 110) hX (dc_X12_compared 56 rfl) (by decide) (fun h20 => ?_) (fun h20 => ?_)
  · refine g_bipush (w := (6 : Int32)) hX (dc_X12_compared 57 rfl) (by decide) ?_
    refine g_goto (tgt := 139) hX (dc_X12_compared 58 rfl) (by decide) ?_
    exact g_sub [] rfl (c_X12_compared_139 hX hO hΩ ((6 : Int32)) r19)
  · refine g_iload_n hX (dc_X12_compared 59 rfl) rfl 1 rfl ?_
    refine g_bipush (w := (60 : Int32)) hX (dc_X12_compared 60 rfl) (by decide) ?_
    refine g_icmp_ne (tgt := 128) hX (dc_X12_compared 61 rfl) (by decide) (fun h21 => ?_) (fun h21 => ?_)
    · refine g_iload_n hX (dc_X12_compared 62 rfl) rfl 2 rfl ?_
      refine g_if_eq (tgt := 124) hX (dc_X12_compared 63 rfl) (by decide) (fun h22 => ?_) (fun h22 => ?_)
      · refine g_iconst (w := (4 : Int32)) hX (dc_X12_compared 66 rfl) (by decide) ?_
        refine g_goto (tgt := 139) hX (dc_X12_compared 67 rfl) (by decide) ?_
        exact g_sub [] rfl (c_X12_compared_139 hX hO hΩ ((4 : Int32)) r19)
      · refine g_iconst (w := (5 : Int32)) hX (dc_X12_compared 64 rfl) (by decide) ?_
        refine g_goto (tgt := 139) hX (dc_X12_compared 65 rfl) (by decide) ?_
        exact g_sub [] rfl (c_X12_compared_139 hX hO hΩ ((5 : Int32)) r19)
    · refine g_iload_n hX (dc_X12_compared 68 rfl) rfl 2 rfl ?_
      refine g_if_eq (tgt := 137) hX (dc_X12_compared 69 rfl) (by decide) (fun h23 => ?_) (fun h23 => ?_)
      · refine g_bipush (w := (8 : Int32)) hX (dc_X12_compared 72 rfl) (by decide) ?_
        exact g_sub [] rfl (c_X12_compared_139 hX hO hΩ ((8 : Int32)) r19)
      · refine g_bipush (w := (7 : Int32)) hX (dc_X12_compared 70 rfl) (by decide) ?_
        refine g_goto (tgt := 139) hX (dc_X12_compared 71 rfl) (by decide) ?_
        exact g_sub [] rfl (c_X12_compared_139 hX hO hΩ ((7 : Int32)) r19)
def b_X12_compared_75    (y1 : Int32) (s0 : Int32) (σ : MS) : Option (MS) := (if s0 = 0 then (b_X12_compared_90 (y1) (s0) ((0 : Int32)) ((sI σ 0 30)) σ) else (b_X12_compared_90 (y1) (s0) ((1 : Int32)) ((sI σ 0 30)) σ))
set_option maxHeartbeats 4000000 in
set_option maxRecDepth 20000 in
theorem c_X12_compared_75 {X : CX} {Ω : OM} (hX : CF X Ω RX12 cX12_compared 3 none rm_X12_compared) (hO : OKO Ω) (hΩ : oSH Ω = SHM)     (y1 : Int32) (s0 : Int32) (σ : MS)  : GE X Ω 3 0 0 (emWV) 0 0 75 [(0, .ref 0), (1, .int y1)] [.int s0] σ (b_X12_compared_75  y1 s0 σ) := by
  unfold b_X12_compared_75
  refine g_istore_n (L' := [(2, .int s0), (0, .ref 0), (1, .int y1)]) hX (dc_X12_compared 40 rfl) rfl (by decide) rfl ?_
  refine g_aload_n hX (dc_X12_compared 41 rfl) rfl 1 rfl ?_
  refine g_dup hX (dc_X12_compared 42 rfl) rfl ?_
  refine g_getI hX (dc_X12_compared 43 rfl) fl_X12_199 (by decide) rfl (stS hΩ 0 rfl) ?_
  refine g_iload_n hX (dc_X12_compared 44 rfl) rfl 0 rfl ?_
  refine g_if_eq (tgt := 89) hX (dc_X12_compared 45 rfl) (by decide) (fun h24 => ?_) (fun h24 => ?_)
  · refine g_iconst (w := (0 : Int32)) hX (dc_X12_compared 48 rfl) (by decide) ?_
    exact g_sub [1, 2, 0] rfl (c_X12_compared_90 hX hO hΩ (y1) (s0) ((0 : Int32)) ((sI σ 0 30)) σ)
  · refine g_iconst (w := (1 : Int32)) hX (dc_X12_compared 46 rfl) (by decide) ?_
    refine g_goto (tgt := 90) hX (dc_X12_compared 47 rfl) (by decide) ?_
    exact g_sub [1, 2, 0] rfl (c_X12_compared_90 hX hO hΩ (y1) (s0) ((1 : Int32)) ((sI σ 0 30)) σ)
def b_X12_compared_74    (y1 : Int32) (σ : MS) : Option (MS) := (b_X12_compared_75 (y1) ((0 : Int32)) σ)
set_option maxHeartbeats 4000000 in
set_option maxRecDepth 20000 in
theorem c_X12_compared_74 {X : CX} {Ω : OM} (hX : CF X Ω RX12 cX12_compared 3 none rm_X12_compared) (hO : OKO Ω) (hΩ : oSH Ω = SHM)     (y1 : Int32) (σ : MS)  : GE X Ω 3 0 0 (emWV) 0 0 74 [(0, .ref 0), (1, .int y1)] [] σ (b_X12_compared_74  y1 σ) := by
  unfold b_X12_compared_74
  refine g_iconst (w := (0 : Int32)) hX (dc_X12_compared 39 rfl) (by decide) ?_
  exact g_sub [0, 1] rfl (c_X12_compared_75 hX hO hΩ (y1) ((0 : Int32)) σ)
def b_X12_compared_37    (y1 : Int32) (σ : MS) : Option (MS) := (f_X12_isCounted (sI σ 0 30) σ).bind (fun r25 => (if y1 = (61 : Int32) then (b_X12_compared_74 (y1) (wI r25 0 30 ((sI r25 0 30) + (1 : Int32)))) else (f_X12_sign (wI r25 0 30 ((sI r25 0 30) + (1 : Int32)))).bind (fun r27 => (if r27 = (61 : Int32) then (b_X12_compared_75 (y1) ((1 : Int32)) (wI r25 0 30 ((sI r25 0 30) + (1 : Int32)))) else (b_X12_compared_74 (y1) (wI r25 0 30 ((sI r25 0 30) + (1 : Int32))))))))
set_option maxHeartbeats 4000000 in
set_option maxRecDepth 20000 in
theorem c_X12_compared_37 {X : CX} {Ω : OM} (hX : CF X Ω RX12 cX12_compared 3 none rm_X12_compared) (hO : OKO Ω) (hΩ : oSH Ω = SHM)     (y1 : Int32) (σ : MS)  : GE X Ω 3 0 0 (emWV) 0 0 37 [(0, .ref 0), (1, .int y1)] [] σ (b_X12_compared_37  y1 σ) := by
  unfold b_X12_compared_37
  refine g_aload_n hX (dc_X12_compared 20 rfl) rfl 0 rfl ?_
  refine g_aload_n hX (dc_X12_compared 21 rfl) rfl 0 rfl ?_
  refine g_getI hX (dc_X12_compared 22 rfl) fl_X12_199 (by decide) rfl (stS hΩ 0 rfl) ?_
  refine gV_WV (As := [.int (sI σ 0 30)]) (st := []) hX (dc_X12_compared 23 rfl) ml_X12_248 (con_X12_isCounted hO hΩ (sI σ 0 30) σ) (stS hΩ 0 rfl) rfl rfl ⟨by decide, by decide⟩ ⟨rfl, rfl⟩ ⟨Nat.zero_le _, Nat.zero_le _⟩ (Nat.le_of_ble_eq_true rfl) (fun r25 _ => ?_)
  refine g_aload_n hX (dc_X12_compared 24 rfl) rfl 0 rfl ?_
  refine g_dup hX (dc_X12_compared 25 rfl) rfl ?_
  refine g_getI hX (dc_X12_compared 26 rfl) fl_X12_199 (by decide) rfl (stS hΩ 0 rfl) ?_
  refine g_iconst (w := (1 : Int32)) hX (dc_X12_compared 27 rfl) (by decide) ?_
  refine g_iadd hX (dc_X12_compared 28 rfl) ?_
  refine g_putI (raw := false) hX (dc_X12_compared 29 rfl) fl_X12_199 (by decide) ⟨rfl, rfl⟩ ⟨rfl, rfl⟩ (stS hΩ 0 rfl) ?_
  refine g_iload_n hX (dc_X12_compared 30 rfl) rfl 1 rfl ?_
  refine g_bipush (w := (61 : Int32)) hX (dc_X12_compared 31 rfl) (by decide) ?_
  refine g_icmp_eq (tgt := 74) hX (dc_X12_compared 32 rfl) (by decide) (fun h26 => ?_) (fun h26 => ?_)
  · exact g_sub [0, 1] rfl (c_X12_compared_74 hX hO hΩ (y1) (wI r25 0 30 ((sI r25 0 30) + (1 : Int32))))
  · refine g_aload_n hX (dc_X12_compared 33 rfl) rfl 0 rfl ?_
    refine gV_PI (As := []) (st := []) hX (dc_X12_compared 34 rfl) ml_X12_202 (con_X12_sign hO hΩ (wI r25 0 30 ((sI r25 0 30) + (1 : Int32)))) (stS hΩ 0 rfl) rfl rfl ⟨by decide, by decide⟩ ⟨rfl, rfl⟩ ⟨Nat.zero_le _, Nat.zero_le _⟩ (Nat.le_of_ble_eq_true rfl) (fun r27 _ => ?_)
    refine g_bipush (w := (61 : Int32)) hX (dc_X12_compared 35 rfl) (by decide) ?_
    refine g_icmp_ne (tgt := 74) hX (dc_X12_compared 36 rfl) (by decide) (fun h28 => ?_) (fun h28 => ?_)
    · refine g_iconst (w := (1 : Int32)) hX (dc_X12_compared 37 rfl) (by decide) ?_
      refine g_goto (tgt := 75) hX (dc_X12_compared 38 rfl) (by decide) ?_
      exact g_sub [0, 1] rfl (c_X12_compared_75 hX hO hΩ (y1) ((1 : Int32)) (wI r25 0 30 ((sI r25 0 30) + (1 : Int32))))
    · exact g_sub [0, 1] rfl (c_X12_compared_74 hX hO hΩ (y1) (wI r25 0 30 ((sI r25 0 30) + (1 : Int32))))
def b_X12_compared_0     (σ : MS) : Option (MS) := (f_X12_sum σ).bind (fun r29 => (f_X12_sign r29).bind (fun r30 => (if r30 = (60 : Int32) then (b_X12_compared_37 (r30) r29) else (if r30 = (61 : Int32) then (b_X12_compared_37 (r30) r29) else (if r30 = (62 : Int32) then (b_X12_compared_37 (r30) r29) else (f_X12_fails (0 : Int32) (sI r29 0 30) r29).bind (fun r34 => some (r34)))))))
set_option maxHeartbeats 4000000 in
set_option maxRecDepth 20000 in
theorem c_X12_compared_0 {X : CX} {Ω : OM} (hX : CF X Ω RX12 cX12_compared 3 none rm_X12_compared) (hO : OKO Ω) (hΩ : oSH Ω = SHM)      (σ : MS)  : GE X Ω 3 0 0 (emWV) 0 0 0 [(0, .ref 0)] [] σ (b_X12_compared_0  σ) := by
  unfold b_X12_compared_0
  refine g_aload_n hX (dc_X12_compared 0 rfl) rfl 0 rfl ?_
  refine gV_WV (As := []) (st := []) hX (dc_X12_compared 1 rfl) ml_X12_264 (con_X12_sum hO hΩ σ) (stS hΩ 0 rfl) rfl rfl ⟨by decide, by decide⟩ ⟨rfl, rfl⟩ ⟨Nat.zero_le _, Nat.zero_le _⟩ (Nat.le_of_ble_eq_true rfl) (fun r29 _ => ?_)
  refine g_aload_n hX (dc_X12_compared 2 rfl) rfl 0 rfl ?_
  refine gV_PI (As := []) (st := []) hX (dc_X12_compared 3 rfl) ml_X12_202 (con_X12_sign hO hΩ r29) (stS hΩ 0 rfl) rfl rfl ⟨by decide, by decide⟩ ⟨rfl, rfl⟩ ⟨Nat.zero_le _, Nat.zero_le _⟩ (Nat.le_of_ble_eq_true rfl) (fun r30 _ => ?_)
  refine g_istore_n (L' := [(1, .int r30), (0, .ref 0)]) hX (dc_X12_compared 4 rfl) rfl (by decide) rfl ?_
  refine g_iload_n hX (dc_X12_compared 5 rfl) rfl 0 rfl ?_
  refine g_bipush (w := (60 : Int32)) hX (dc_X12_compared 6 rfl) (by decide) ?_
  refine g_icmp_eq (tgt := 37) hX (dc_X12_compared 7 rfl) (by decide) (fun h31 => ?_) (fun h31 => ?_)
  · exact g_sub [1, 0] rfl (c_X12_compared_37 hX hO hΩ (r30) r29)
  · refine g_iload_n hX (dc_X12_compared 8 rfl) rfl 0 rfl ?_
    refine g_bipush (w := (61 : Int32)) hX (dc_X12_compared 9 rfl) (by decide) ?_
    refine g_icmp_eq (tgt := 37) hX (dc_X12_compared 10 rfl) (by decide) (fun h32 => ?_) (fun h32 => ?_)
    · exact g_sub [1, 0] rfl (c_X12_compared_37 hX hO hΩ (r30) r29)
    · refine g_iload_n hX (dc_X12_compared 11 rfl) rfl 0 rfl ?_
      refine g_bipush (w := (62 : Int32)) hX (dc_X12_compared 12 rfl) (by decide) ?_
      refine g_icmp_eq (tgt := 37) hX (dc_X12_compared 13 rfl) (by decide) (fun h33 => ?_) (fun h33 => ?_)
      · exact g_sub [1, 0] rfl (c_X12_compared_37 hX hO hΩ (r30) r29)
      · refine g_aload_n hX (dc_X12_compared 14 rfl) rfl 1 rfl ?_
        refine g_iconst (w := (0 : Int32)) hX (dc_X12_compared 15 rfl) (by decide) ?_
        refine g_aload_n hX (dc_X12_compared 16 rfl) rfl 1 rfl ?_
        refine g_getI hX (dc_X12_compared 17 rfl) fl_X12_199 (by decide) rfl (stS hΩ 0 rfl) ?_
        refine gV_WV (As := [.int (0 : Int32), .int (sI r29 0 30)]) (st := []) hX (dc_X12_compared 18 rfl) ml_X12_235 (con_X12_fails hO hΩ (0 : Int32) (sI r29 0 30) r29) (stS hΩ 0 rfl) rfl rfl ⟨by decide, by decide⟩ ⟨rfl, rfl⟩ ⟨Nat.zero_le _, Nat.zero_le _⟩ (Nat.le_of_ble_eq_true rfl) (fun r34 _ => ?_)
        exact g_vret hX (dc_X12_compared 19 rfl) rfl (Nat.le_refl _) (Nat.le_refl _)
def f_X12_compared  (σ : MS) : Option (MS) := b_X12_compared_0   σ
theorem con_X12_compared {Ω : OM} (hO : OKO Ω) (hΩ : oSH Ω = SHM)  (σ : MS)  : Con Ω yX12_compared cX12_compared 3 none rm_X12_compared (emWV) [.ref 0] σ (f_X12_compared  σ) :=
  con_of hO (by decide +kernel) (Nat.le_of_ble_eq_true rfl) rfl (fun X hX _ => c_X12_compared_0 hX hO hΩ    σ )
def it_X12_top : List (Nat × Instr × Nat × Nat) := [(0, .aload_n 0, 1, 1), (1, .getfield 267, 3, 4), (4, .ifCond .ne 7, 3, 7), (7, .iconst (-1), 1, 8), (8, .goto 14, 3, 11), (11, .aload_n 0, 1, 12), (12, .getfield 117, 3, 15), (15, .aload_n 0, 1, 16), (16, .getfield 267, 3, 19), (19, .iconst 1, 1, 20), (20, .isub, 1, 21), (21, .iaload, 1, 22), (22, .ireturn, 1, 23)]
theorem id_X12_top : ∀ q ∈ it_X12_top, decode cX12_top q.1 = .ok (q.2.1, q.2.2.1) ∧ q.1 + q.2.2.1 = q.2.2.2 := by decide +kernel
theorem dc_X12_top {pc : Nat} {i : Instr} {n pc' : Nat} (j : Nat) (h : it_X12_top[j]? = some (pc, i, n, pc')) : Dc cX12_top pc i n pc' := dc_of id_X12_top j h
abbrev rm_X12_top : Room := { frames := 0, cells := 0, slots := 0, locals := 0 }
def b_X12_top_22    (s0 : Int32) (σ : MS) : Option (Int32) := some s0
set_option maxHeartbeats 4000000 in
set_option maxRecDepth 20000 in
theorem c_X12_top_22 {X : CX} {Ω : OM} (hX : CF X Ω RX12 cX12_top 1 (some .int) rm_X12_top) (hO : OKO Ω) (hΩ : oSH Ω = SHM)   (σ : MS)   (s0 : Int32)   : GE X Ω 1 0 0 (emPI σ) 0 0 22 [] [.int s0] σ (b_X12_top_22  s0 σ) := by
  unfold b_X12_top_22
  exact g_iret hX (dc_X12_top 12 rfl) rfl rfl (Nat.le_refl _) (Nat.le_refl _)
def b_X12_top_0     (σ : MS) : Option (Int32) := (if (sI σ 0 37) = 0 then (b_X12_top_22 ((-1 : Int32)) σ) else chk (inb ((sI σ 0 37) - (1 : Int32)) 402) ((b_X12_top_22 ((sI σ 35 (ix ((sI σ 0 37) - (1 : Int32))))) σ)))
set_option maxHeartbeats 4000000 in
set_option maxRecDepth 20000 in
theorem c_X12_top_0 {X : CX} {Ω : OM} (hX : CF X Ω RX12 cX12_top 1 (some .int) rm_X12_top) (hO : OKO Ω) (hΩ : oSH Ω = SHM)   (σ : MS)      : GE X Ω 1 0 0 (emPI σ) 0 0 0 [(0, .ref 0)] [] σ (b_X12_top_0  σ) := by
  unfold b_X12_top_0
  refine g_aload_n hX (dc_X12_top 0 rfl) rfl 0 rfl ?_
  refine g_getI hX (dc_X12_top 1 rfl) fl_X12_267 (by decide) rfl (stS hΩ 0 rfl) ?_
  refine g_if_ne (tgt := 11) hX (dc_X12_top 2 rfl) (by decide) (fun h3 => ?_) (fun h3 => ?_)
  · refine g_iconst (w := (-1 : Int32)) hX (dc_X12_top 3 rfl) (by decide) ?_
    refine g_goto (tgt := 22) hX (dc_X12_top 4 rfl) (by decide) ?_
    exact g_sub [] rfl (c_X12_top_22 hX hO hΩ σ ((-1 : Int32)))
  · refine g_aload_n hX (dc_X12_top 5 rfl) rfl 0 rfl ?_
    refine g_getF (q := 35) hX (dc_X12_top 6 rfl) fl_X12_117 (by decide) rfl (stS hΩ 0 rfl) rfl ?_
    refine g_aload_n hX (dc_X12_top 7 rfl) rfl 0 rfl ?_
    refine g_getI hX (dc_X12_top 8 rfl) fl_X12_267 (by decide) rfl (stS hΩ 0 rfl) ?_
    refine g_iconst (w := (1 : Int32)) hX (dc_X12_top 9 rfl) (by decide) ?_
    refine g_isub hX (dc_X12_top 10 rfl) ?_
    refine g_chk (fun hc4 => ?_)
    refine g_iald hX (dc_X12_top 11 rfl) (stS hΩ 35 rfl) hc4 rfl ?_
    exact g_sub [] rfl (c_X12_top_22 hX hO hΩ σ ((sI σ 35 (ix ((sI σ 0 37) - (1 : Int32))))))
def f_X12_top  (σ : MS) : Option (Int32) := b_X12_top_0   σ
theorem con_X12_top {Ω : OM} (hO : OKO Ω) (hΩ : oSH Ω = SHM)  (σ : MS)  : Con Ω yX12_top cX12_top 1 (some .int) rm_X12_top (emPI σ) [.ref 0] σ (f_X12_top  σ) :=
  con_of hO (by decide +kernel) (Nat.le_of_ble_eq_true rfl) rfl (fun X hX _ => c_X12_top_0 hX hO hΩ   σ )
def it_X12_opens : List (Nat × Instr × Nat × Nat) := [(0, .iload_n 1, 1, 1), (1, .bipush 9, 2, 3), (3, .if_icmp .eq 9, 3, 6), (6, .iload_n 1, 1, 7), (7, .bipush 12, 2, 9), (9, .if_icmp .ne 31, 3, 12), (12, .aload_n 0, 1, 13), (13, .getfield 270, 3, 16), (16, .bipush 10, 2, 18), (18, .if_icmp .ne 12, 3, 21), (21, .aload_n 0, 1, 22), (22, .iconst 2, 1, 23), (23, .aload_n 0, 1, 24), (24, .getfield 199, 3, 27), (27, .invokevirtual 235, 3, 30), (30, .aload_n 0, 1, 31), (31, .dup, 1, 32), (32, .getfield 270, 3, 35), (35, .iconst 1, 1, 36), (36, .iadd, 1, 37), (37, .putfield 270, 3, 40), (40, .aload_n 0, 1, 41), (41, .getfield 117, 3, 44), (44, .aload_n 0, 1, 45), (45, .getfield 267, 3, 48), (48, .iload_n 1, 1, 49), (49, .iastore, 1, 50), (50, .aload_n 0, 1, 51), (51, .dup, 1, 52), (52, .getfield 267, 3, 55), (55, .iconst 1, 1, 56), (56, .iadd, 1, 57), (57, .putfield 267, 3, 60), (60, .return_, 1, 61)]
theorem id_X12_opens : ∀ q ∈ it_X12_opens, decode cX12_opens q.1 = .ok (q.2.1, q.2.2.1) ∧ q.1 + q.2.2.1 = q.2.2.2 := by decide +kernel
theorem dc_X12_opens {pc : Nat} {i : Instr} {n pc' : Nat} (j : Nat) (h : it_X12_opens[j]? = some (pc, i, n, pc')) : Dc cX12_opens pc i n pc' := dc_of id_X12_opens j h
abbrev rm_X12_opens : Room := { frames := 1, cells := 0, slots := 0, locals := 22 }
def b_X12_opens_40    (y1 : Int32) (σ : MS) : Option (MS) := chk (inb (sI σ 0 37) 402) (some ((wI (wI σ 35 (ix (sI σ 0 37)) y1) 0 37 ((sI (wI σ 35 (ix (sI σ 0 37)) y1) 0 37) + (1 : Int32)))))
set_option maxHeartbeats 4000000 in
set_option maxRecDepth 20000 in
theorem c_X12_opens_40 {X : CX} {Ω : OM} (hX : CF X Ω RX12 cX12_opens 2 none rm_X12_opens) (hO : OKO Ω) (hΩ : oSH Ω = SHM)     (y1 : Int32) (σ : MS)  : GE X Ω 2 0 0 (emWV) 0 0 40 [(0, .ref 0), (1, .int y1)] [] σ (b_X12_opens_40  y1 σ) := by
  unfold b_X12_opens_40
  refine g_aload_n hX (dc_X12_opens 21 rfl) rfl 0 rfl ?_
  refine g_getF (q := 35) hX (dc_X12_opens 22 rfl) fl_X12_117 (by decide) rfl (stS hΩ 0 rfl) rfl ?_
  refine g_aload_n hX (dc_X12_opens 23 rfl) rfl 0 rfl ?_
  refine g_getI hX (dc_X12_opens 24 rfl) fl_X12_267 (by decide) rfl (stS hΩ 0 rfl) ?_
  refine g_iload_n hX (dc_X12_opens 25 rfl) rfl 1 rfl ?_
  refine g_chk (fun hc6 => ?_)
  refine g_iast hX (dc_X12_opens 26 rfl) (stS hΩ 35 rfl) hc6 rfl ?_
  refine g_aload_n hX (dc_X12_opens 27 rfl) rfl 0 rfl ?_
  refine g_dup hX (dc_X12_opens 28 rfl) rfl ?_
  refine g_getI hX (dc_X12_opens 29 rfl) fl_X12_267 (by decide) rfl (stS hΩ 0 rfl) ?_
  refine g_iconst (w := (1 : Int32)) hX (dc_X12_opens 30 rfl) (by decide) ?_
  refine g_iadd hX (dc_X12_opens 31 rfl) ?_
  refine g_putI (raw := false) hX (dc_X12_opens 32 rfl) fl_X12_267 (by decide) ⟨rfl, rfl⟩ ⟨rfl, rfl⟩ (stS hΩ 0 rfl) ?_
  exact g_vret hX (dc_X12_opens 33 rfl) rfl (Nat.le_refl _) (Nat.le_refl _)
def b_X12_opens_30    (y1 : Int32) (σ : MS) : Option (MS) := (b_X12_opens_40 (y1) (wI σ 0 35 ((sI σ 0 35) + (1 : Int32))))
set_option maxHeartbeats 4000000 in
set_option maxRecDepth 20000 in
theorem c_X12_opens_30 {X : CX} {Ω : OM} (hX : CF X Ω RX12 cX12_opens 2 none rm_X12_opens) (hO : OKO Ω) (hΩ : oSH Ω = SHM)     (y1 : Int32) (σ : MS)  : GE X Ω 2 0 0 (emWV) 0 0 30 [(0, .ref 0), (1, .int y1)] [] σ (b_X12_opens_30  y1 σ) := by
  unfold b_X12_opens_30
  refine g_aload_n hX (dc_X12_opens 15 rfl) rfl 0 rfl ?_
  refine g_dup hX (dc_X12_opens 16 rfl) rfl ?_
  refine g_getI hX (dc_X12_opens 17 rfl) fl_X12_270 (by decide) rfl (stS hΩ 0 rfl) ?_
  refine g_iconst (w := (1 : Int32)) hX (dc_X12_opens 18 rfl) (by decide) ?_
  refine g_iadd hX (dc_X12_opens 19 rfl) ?_
  refine g_putI (raw := false) hX (dc_X12_opens 20 rfl) fl_X12_270 (by decide) ⟨rfl, rfl⟩ ⟨rfl, rfl⟩ (stS hΩ 0 rfl) ?_
  exact g_sub [0, 1] rfl (c_X12_opens_40 hX hO hΩ (y1) (wI σ 0 35 ((sI σ 0 35) + (1 : Int32))))
def b_X12_opens_12    (y1 : Int32) (σ : MS) : Option (MS) := (if (sI σ 0 35) = (10 : Int32) then (f_X12_fails (2 : Int32) (sI σ 0 30) σ).bind (fun r8 => (b_X12_opens_30 (y1) r8)) else (b_X12_opens_30 (y1) σ))
set_option maxHeartbeats 4000000 in
set_option maxRecDepth 20000 in
theorem c_X12_opens_12 {X : CX} {Ω : OM} (hX : CF X Ω RX12 cX12_opens 2 none rm_X12_opens) (hO : OKO Ω) (hΩ : oSH Ω = SHM)     (y1 : Int32) (σ : MS)  : GE X Ω 2 0 0 (emWV) 0 0 12 [(0, .ref 0), (1, .int y1)] [] σ (b_X12_opens_12  y1 σ) := by
  unfold b_X12_opens_12
  refine g_aload_n hX (dc_X12_opens 6 rfl) rfl 0 rfl ?_
  refine g_getI hX (dc_X12_opens 7 rfl) fl_X12_270 (by decide) rfl (stS hΩ 0 rfl) ?_
  refine g_bipush (w := (10 : Int32)) hX (dc_X12_opens 8 rfl) (by decide) ?_
  refine g_icmp_ne (tgt := 30) hX (dc_X12_opens 9 rfl) (by decide) (fun h7 => ?_) (fun h7 => ?_)
  · refine g_aload_n hX (dc_X12_opens 10 rfl) rfl 0 rfl ?_
    refine g_iconst (w := (2 : Int32)) hX (dc_X12_opens 11 rfl) (by decide) ?_
    refine g_aload_n hX (dc_X12_opens 12 rfl) rfl 0 rfl ?_
    refine g_getI hX (dc_X12_opens 13 rfl) fl_X12_199 (by decide) rfl (stS hΩ 0 rfl) ?_
    refine gV_WV (As := [.int (2 : Int32), .int (sI σ 0 30)]) (st := []) hX (dc_X12_opens 14 rfl) ml_X12_235 (con_X12_fails hO hΩ (2 : Int32) (sI σ 0 30) σ) (stS hΩ 0 rfl) rfl rfl ⟨by decide, by decide⟩ ⟨rfl, rfl⟩ ⟨Nat.zero_le _, Nat.zero_le _⟩ (Nat.le_of_ble_eq_true rfl) (fun r8 _ => ?_)
    exact g_sub [0, 1] rfl (c_X12_opens_30 hX hO hΩ (y1) r8)
  · exact g_sub [0, 1] rfl (c_X12_opens_30 hX hO hΩ (y1) σ)
def b_X12_opens_0   (x1 : Int32)  (σ : MS) : Option (MS) := (if x1 = (9 : Int32) then (b_X12_opens_12 (x1) σ) else (if x1 = (12 : Int32) then (b_X12_opens_12 (x1) σ) else (b_X12_opens_40 (x1) σ)))
set_option maxHeartbeats 4000000 in
set_option maxRecDepth 20000 in
theorem c_X12_opens_0 {X : CX} {Ω : OM} (hX : CF X Ω RX12 cX12_opens 2 none rm_X12_opens) (hO : OKO Ω) (hΩ : oSH Ω = SHM)    (x1 : Int32)  (σ : MS)  : GE X Ω 2 0 0 (emWV) 0 0 0 [(0, .ref 0), (1, .int x1)] [] σ (b_X12_opens_0  x1 σ) := by
  unfold b_X12_opens_0
  refine g_iload_n hX (dc_X12_opens 0 rfl) rfl 1 rfl ?_
  refine g_bipush (w := (9 : Int32)) hX (dc_X12_opens 1 rfl) (by decide) ?_
  refine g_icmp_eq (tgt := 12) hX (dc_X12_opens 2 rfl) (by decide) (fun h9 => ?_) (fun h9 => ?_)
  · exact g_sub [0, 1] rfl (c_X12_opens_12 hX hO hΩ (x1) σ)
  · refine g_iload_n hX (dc_X12_opens 3 rfl) rfl 1 rfl ?_
    refine g_bipush (w := (12 : Int32)) hX (dc_X12_opens 4 rfl) (by decide) ?_
    refine g_icmp_ne (tgt := 40) hX (dc_X12_opens 5 rfl) (by decide) (fun h10 => ?_) (fun h10 => ?_)
    · exact g_sub [0, 1] rfl (c_X12_opens_12 hX hO hΩ (x1) σ)
    · exact g_sub [0, 1] rfl (c_X12_opens_40 hX hO hΩ (x1) σ)
def f_X12_opens (x1 : Int32) (σ : MS) : Option (MS) := b_X12_opens_0  x1 σ
theorem con_X12_opens {Ω : OM} (hO : OKO Ω) (hΩ : oSH Ω = SHM) (x1 : Int32) (σ : MS)  : Con Ω yX12_opens cX12_opens 2 none rm_X12_opens (emWV) [.ref 0, .int x1] σ (f_X12_opens x1 σ) :=
  con_of hO (by decide +kernel) (Nat.le_of_ble_eq_true rfl) rfl (fun X hX _ => c_X12_opens_0 hX hO hΩ   x1 σ )
def it_X12_answers : List (Nat × Instr × Nat × Nat) := [(0, .aload_n 0, 1, 1), (1, .invokevirtual 273, 3, 4), (4, .iload_n 1, 1, 5), (5, .if_icmp .ne 49, 3, 8), (8, .aload_n 0, 1, 9), (9, .getfield 196, 3, 12), (12, .ifCond .ne 42, 3, 15), (15, .aload_n 0, 1, 16), (16, .iload_n 1, 1, 17), (17, .iconst 0, 1, 18), (18, .invokevirtual 251, 3, 21), (21, .aload_n 0, 1, 22), (22, .dup, 1, 23), (23, .getfield 267, 3, 26), (26, .iconst 1, 1, 27), (27, .isub, 1, 28), (28, .putfield 267, 3, 31), (31, .aload_n 0, 1, 32), (32, .dup, 1, 33), (33, .getfield 270, 3, 36), (36, .iload_n 1, 1, 37), (37, .bipush 9, 2, 39), (39, .if_icmp .ne 7, 3, 42), (42, .iconst 1, 1, 43), (43, .goto 4, 3, 46), (46, .iconst 0, 1, 47), (47, .isub, 1, 48), (48, .putfield 270, 3, 51), (51, .goto (-51), 3, 54), (54, .return_, 1, 55)]
theorem id_X12_answers : ∀ q ∈ it_X12_answers, decode cX12_answers q.1 = .ok (q.2.1, q.2.2.1) ∧ q.1 + q.2.2.1 = q.2.2.2 := by decide +kernel
theorem dc_X12_answers {pc : Nat} {i : Instr} {n pc' : Nat} (j : Nat) (h : it_X12_answers[j]? = some (pc, i, n, pc')) : Dc cX12_answers pc i n pc' := dc_of id_X12_answers j h
abbrev rm_X12_answers : Room := { frames := 1, cells := 0, slots := 0, locals := 22 }
def b_X12_answers_54     (σ : MS) : Option (MS) := some (σ)
set_option maxHeartbeats 4000000 in
set_option maxRecDepth 20000 in
theorem c_X12_answers_54 {X : CX} {Ω : OM} (hX : CF X Ω RX12 cX12_answers 2 none rm_X12_answers) (hO : OKO Ω) (hΩ : oSH Ω = SHM)      (σ : MS)  : GE X Ω 2 0 0 (emWV) 0 0 54 [] [] σ (b_X12_answers_54  σ) := by
  unfold b_X12_answers_54
  exact g_vret hX (dc_X12_answers 29 rfl) rfl (Nat.le_refl _) (Nat.le_refl _)
def b_X12_answers_47  (k0 : Int32 → MS → Option (MS))  (y1 : Int32) (s0 : Int32) (s1 : Int32) (σ : MS) : Option (MS) := (k0 (y1) (wI σ 0 35 (s1 - s0)))
set_option maxHeartbeats 4000000 in
set_option maxRecDepth 20000 in
theorem c_X12_answers_47 {X : CX} {Ω : OM} (hX : CF X Ω RX12 cX12_answers 2 none rm_X12_answers) (hO : OKO Ω) (hΩ : oSH Ω = SHM)   (k0 : Int32 → MS → Option (MS)) (hk0 : ∀ (y1 : Int32) (σ : MS) , GE X Ω 2 0 0 (emWV) 0 0 0 [(0, .ref 0), (1, .int y1)] [] σ (k0 y1 σ))  (y1 : Int32) (s0 : Int32) (s1 : Int32) (σ : MS)  : GE X Ω 2 0 0 (emWV) 0 0 47 [(0, .ref 0), (1, .int y1)] [.int s0, .int s1, .ref 0] σ (b_X12_answers_47  k0 y1 s0 s1 σ) := by
  unfold b_X12_answers_47
  refine g_isub hX (dc_X12_answers 26 rfl) ?_
  refine g_putI (raw := false) hX (dc_X12_answers 27 rfl) fl_X12_270 (by decide) ⟨rfl, rfl⟩ ⟨rfl, rfl⟩ (stS hΩ 0 rfl) ?_
  refine g_goto (tgt := 0) hX (dc_X12_answers 28 rfl) (by decide) ?_
  exact g_sub [0, 1] rfl (hk0 (y1) (wI σ 0 35 (s1 - s0)) )
def b_X12_answers_0   : Nat → Int32 → MS → Option (MS)
  | 0, _, _ => none
  | n + 1, y1, σ => (f_X12_top σ).bind (fun r6 => (if r6 = y1 then (if (sI σ 0 31) = 0 then (f_X12_entry y1 (0 : Int32) σ).bind (fun r9 => (if y1 = (9 : Int32) then (b_X12_answers_47 (b_X12_answers_0  n) (y1) ((1 : Int32)) ((sI (wI r9 0 37 ((sI r9 0 37) - (1 : Int32))) 0 35)) (wI r9 0 37 ((sI r9 0 37) - (1 : Int32)))) else (b_X12_answers_47 (b_X12_answers_0  n) (y1) ((0 : Int32)) ((sI (wI r9 0 37 ((sI r9 0 37) - (1 : Int32))) 0 35)) (wI r9 0 37 ((sI r9 0 37) - (1 : Int32)))))) else (b_X12_answers_54 σ)) else (b_X12_answers_54 σ)))
set_option maxHeartbeats 4000000 in
set_option maxRecDepth 20000 in
theorem c_X12_answers_0 {X : CX} {Ω : OM} (hX : CF X Ω RX12 cX12_answers 2 none rm_X12_answers) (hO : OKO Ω) (hΩ : oSH Ω = SHM)    : ∀ (n : Nat) (y1 : Int32) (σ : MS) , GE X Ω 2 0 0 (emWV) 0 0 0 [(0, .ref 0), (1, .int y1)] [] σ (b_X12_answers_0  n y1 σ)
  | 0, _, _ => g_none
  | n + 1, y1, σ => by
    have hk0 := c_X12_answers_0 hX hO hΩ  n
    unfold b_X12_answers_0
    refine g_aload_n hX (dc_X12_answers 0 rfl) rfl 0 rfl ?_
    refine gV_PI (As := []) (st := []) hX (dc_X12_answers 1 rfl) ml_X12_273 (con_X12_top hO hΩ σ) (stS hΩ 0 rfl) rfl rfl ⟨by decide, by decide⟩ ⟨rfl, rfl⟩ ⟨Nat.zero_le _, Nat.zero_le _⟩ (Nat.le_of_ble_eq_true rfl) (fun r6 _ => ?_)
    refine g_iload_n hX (dc_X12_answers 2 rfl) rfl 1 rfl ?_
    refine g_icmp_ne (tgt := 54) hX (dc_X12_answers 3 rfl) (by decide) (fun h7 => ?_) (fun h7 => ?_)
    · refine g_aload_n hX (dc_X12_answers 4 rfl) rfl 0 rfl ?_
      refine g_getI hX (dc_X12_answers 5 rfl) fl_X12_196 (by decide) rfl (stS hΩ 0 rfl) ?_
      refine g_if_ne (tgt := 54) hX (dc_X12_answers 6 rfl) (by decide) (fun h8 => ?_) (fun h8 => ?_)
      · refine g_aload_n hX (dc_X12_answers 7 rfl) rfl 0 rfl ?_
        refine g_iload_n hX (dc_X12_answers 8 rfl) rfl 1 rfl ?_
        refine g_iconst (w := (0 : Int32)) hX (dc_X12_answers 9 rfl) (by decide) ?_
        refine gV_WV (As := [.int y1, .int (0 : Int32)]) (st := []) hX (dc_X12_answers 10 rfl) ml_X12_251 (con_X12_entry hO hΩ y1 (0 : Int32) σ) (stS hΩ 0 rfl) rfl rfl ⟨by decide, by decide⟩ ⟨rfl, rfl⟩ ⟨Nat.zero_le _, Nat.zero_le _⟩ (Nat.le_of_ble_eq_true rfl) (fun r9 _ => ?_)
        refine g_aload_n hX (dc_X12_answers 11 rfl) rfl 0 rfl ?_
        refine g_dup hX (dc_X12_answers 12 rfl) rfl ?_
        refine g_getI hX (dc_X12_answers 13 rfl) fl_X12_267 (by decide) rfl (stS hΩ 0 rfl) ?_
        refine g_iconst (w := (1 : Int32)) hX (dc_X12_answers 14 rfl) (by decide) ?_
        refine g_isub hX (dc_X12_answers 15 rfl) ?_
        refine g_putI (raw := false) hX (dc_X12_answers 16 rfl) fl_X12_267 (by decide) ⟨rfl, rfl⟩ ⟨rfl, rfl⟩ (stS hΩ 0 rfl) ?_
        refine g_aload_n hX (dc_X12_answers 17 rfl) rfl 0 rfl ?_
        refine g_dup hX (dc_X12_answers 18 rfl) rfl ?_
        refine g_getI hX (dc_X12_answers 19 rfl) fl_X12_270 (by decide) rfl (stS hΩ 0 rfl) ?_
        refine g_iload_n hX (dc_X12_answers 20 rfl) rfl 1 rfl ?_
        refine g_bipush (w := (9 : Int32)) hX (dc_X12_answers 21 rfl) (by decide) ?_
        refine g_icmp_ne (tgt := 46) hX (dc_X12_answers 22 rfl) (by decide) (fun h10 => ?_) (fun h10 => ?_)
        · refine g_iconst (w := (1 : Int32)) hX (dc_X12_answers 23 rfl) (by decide) ?_
          refine g_goto (tgt := 47) hX (dc_X12_answers 24 rfl) (by decide) ?_
          exact g_sub [0, 1] rfl (c_X12_answers_47 hX hO hΩ _ hk0 (y1) ((1 : Int32)) ((sI (wI r9 0 37 ((sI r9 0 37) - (1 : Int32))) 0 35)) (wI r9 0 37 ((sI r9 0 37) - (1 : Int32))))
        · refine g_iconst (w := (0 : Int32)) hX (dc_X12_answers 25 rfl) (by decide) ?_
          exact g_sub [0, 1] rfl (c_X12_answers_47 hX hO hΩ _ hk0 (y1) ((0 : Int32)) ((sI (wI r9 0 37 ((sI r9 0 37) - (1 : Int32))) 0 35)) (wI r9 0 37 ((sI r9 0 37) - (1 : Int32))))
      · exact g_sub [] rfl (c_X12_answers_54 hX hO hΩ σ)
    · exact g_sub [] rfl (c_X12_answers_54 hX hO hΩ σ)
def f_X12_answers (x1 : Int32) (σ : MS) : Option (MS) := b_X12_answers_0  FU (x1) σ
theorem con_X12_answers {Ω : OM} (hO : OKO Ω) (hΩ : oSH Ω = SHM) (x1 : Int32) (σ : MS)  : Con Ω yX12_answers cX12_answers 2 none rm_X12_answers (emWV) [.ref 0, .int x1] σ (f_X12_answers x1 σ) :=
  con_of hO (by decide +kernel) (Nat.le_of_ble_eq_true rfl) rfl (fun X hX _ => g_sub [0, 1] rfl <| c_X12_answers_0 hX hO hΩ   FU (x1) σ )
def it_X12_fact : List (Nat × Instr × Nat × Nat) := [(0, .aload_n 0, 1, 1), (1, .invokevirtual 219, 3, 4), (4, .aload_n 0, 1, 5), (5, .ldc_w 276, 3, 8), (8, .invokevirtual 222, 3, 11), (11, .ifCond .eq 21, 3, 14), (14, .aload_n 0, 1, 15), (15, .bipush 9, 2, 17), (17, .invokevirtual 278, 3, 20), (20, .aload_n 0, 1, 21), (21, .dup, 1, 22), (22, .getfield 199, 3, 25), (25, .iconst 3, 1, 26), (26, .iadd, 1, 27), (27, .putfield 199, 3, 30), (30, .iconst 0, 1, 31), (31, .ireturn, 1, 32), (32, .aload_n 0, 1, 33), (33, .invokevirtual 202, 3, 36), (36, .bipush 91, 2, 38), (38, .if_icmp .ne 21, 3, 41), (41, .aload_n 0, 1, 42), (42, .bipush 12, 2, 44), (44, .invokevirtual 278, 3, 47), (47, .aload_n 0, 1, 48), (48, .dup, 1, 49), (49, .getfield 199, 3, 52), (52, .iconst 1, 1, 53), (53, .iadd, 1, 54), (54, .putfield 199, 3, 57), (57, .iconst 0, 1, 58), (58, .ireturn, 1, 59), (59, .aload_n 0, 1, 60), (60, .invokevirtual 281, 3, 63), (63, .iconst 1, 1, 64), (64, .ireturn, 1, 65)]
theorem id_X12_fact : ∀ q ∈ it_X12_fact, decode cX12_fact q.1 = .ok (q.2.1, q.2.2.1) ∧ q.1 + q.2.2.1 = q.2.2.2 := by decide +kernel
theorem dc_X12_fact {pc : Nat} {i : Instr} {n pc' : Nat} (j : Nat) (h : it_X12_fact[j]? = some (pc, i, n, pc')) : Dc cX12_fact pc i n pc' := dc_of id_X12_fact j h
abbrev rm_X12_fact : Room := { frames := 9, cells := 0, slots := 0, locals := 195 }
def b_X12_fact_0     (σ : MS) : Option (Int32 × MS) := (f_X12_blanks σ).bind (fun r9 => (f_X12_stood 20 r9).bind (fun r10 => (if r10 = 0 then (f_X12_sign r9).bind (fun r12 => (if r12 = (91 : Int32) then (f_X12_opens (12 : Int32) r9).bind (fun r14 => some ((0 : Int32), (wI r14 0 30 ((sI r14 0 30) + (1 : Int32))))) else (f_X12_compared r9).bind (fun r15 => some ((1 : Int32), r15)))) else (f_X12_opens (9 : Int32) r9).bind (fun r16 => some ((0 : Int32), (wI r16 0 30 ((sI r16 0 30) + (3 : Int32))))))))
set_option maxHeartbeats 4000000 in
set_option maxRecDepth 20000 in
theorem c_X12_fact_0 {X : CX} {Ω : OM} (hX : CF X Ω RX12 cX12_fact 1 (some .boolean) rm_X12_fact) (hO : OKO Ω) (hΩ : oSH Ω = SHM)      (σ : MS)  : GE X Ω 1 0 0 (emWI) 0 0 0 [(0, .ref 0)] [] σ (b_X12_fact_0  σ) := by
  unfold b_X12_fact_0
  refine g_aload_n hX (dc_X12_fact 0 rfl) rfl 0 rfl ?_
  refine gV_WV (As := []) (st := []) hX (dc_X12_fact 1 rfl) ml_X12_219 (con_X12_blanks hO hΩ σ) (stS hΩ 0 rfl) rfl rfl ⟨by decide, by decide⟩ ⟨rfl, rfl⟩ ⟨Nat.zero_le _, Nat.zero_le _⟩ (Nat.le_of_ble_eq_true rfl) (fun r9 _ => ?_)
  refine g_aload_n hX (dc_X12_fact 2 rfl) rfl 0 rfl ?_
  refine g_ldcwS (i := 20) hX (dc_X12_fact 3 rfl) (by decide) rfl ?_
  refine gV_PI (As := [.ref (1000000 + 20)]) (st := []) hX (dc_X12_fact 4 rfl) ml_X12_222 (con_X12_stood hO hΩ 20 r9 (by decide)) (stS hΩ 0 rfl) rfl rfl ⟨by decide, by decide⟩ ⟨rfl, rfl⟩ ⟨Nat.zero_le _, Nat.zero_le _⟩ (Nat.le_of_ble_eq_true rfl) (fun r10 _ => ?_)
  refine g_if_eq (tgt := 32) hX (dc_X12_fact 5 rfl) (by decide) (fun h11 => ?_) (fun h11 => ?_)
  · refine g_aload_n hX (dc_X12_fact 17 rfl) rfl 0 rfl ?_
    refine gV_PI (As := []) (st := []) hX (dc_X12_fact 18 rfl) ml_X12_202 (con_X12_sign hO hΩ r9) (stS hΩ 0 rfl) rfl rfl ⟨by decide, by decide⟩ ⟨rfl, rfl⟩ ⟨Nat.zero_le _, Nat.zero_le _⟩ (Nat.le_of_ble_eq_true rfl) (fun r12 _ => ?_)
    refine g_bipush (w := (91 : Int32)) hX (dc_X12_fact 19 rfl) (by decide) ?_
    refine g_icmp_ne (tgt := 59) hX (dc_X12_fact 20 rfl) (by decide) (fun h13 => ?_) (fun h13 => ?_)
    · refine g_aload_n hX (dc_X12_fact 21 rfl) rfl 0 rfl ?_
      refine g_bipush (w := (12 : Int32)) hX (dc_X12_fact 22 rfl) (by decide) ?_
      refine gV_WV (As := [.int (12 : Int32)]) (st := []) hX (dc_X12_fact 23 rfl) ml_X12_278 (con_X12_opens hO hΩ (12 : Int32) r9) (stS hΩ 0 rfl) rfl rfl ⟨by decide, by decide⟩ ⟨rfl, rfl⟩ ⟨Nat.zero_le _, Nat.zero_le _⟩ (Nat.le_of_ble_eq_true rfl) (fun r14 _ => ?_)
      refine g_aload_n hX (dc_X12_fact 24 rfl) rfl 0 rfl ?_
      refine g_dup hX (dc_X12_fact 25 rfl) rfl ?_
      refine g_getI hX (dc_X12_fact 26 rfl) fl_X12_199 (by decide) rfl (stS hΩ 0 rfl) ?_
      refine g_iconst (w := (1 : Int32)) hX (dc_X12_fact 27 rfl) (by decide) ?_
      refine g_iadd hX (dc_X12_fact 28 rfl) ?_
      refine g_putI (raw := false) hX (dc_X12_fact 29 rfl) fl_X12_199 (by decide) ⟨rfl, rfl⟩ ⟨rfl, rfl⟩ (stS hΩ 0 rfl) ?_
      refine g_iconst (w := (0 : Int32)) hX (dc_X12_fact 30 rfl) (by decide) ?_
      exact g_iret hX (dc_X12_fact 31 rfl) rfl rfl (Nat.le_refl _) (Nat.le_refl _)
    · refine g_aload_n hX (dc_X12_fact 32 rfl) rfl 0 rfl ?_
      refine gV_WV (As := []) (st := []) hX (dc_X12_fact 33 rfl) ml_X12_281 (con_X12_compared hO hΩ r9) (stS hΩ 0 rfl) rfl rfl ⟨by decide, by decide⟩ ⟨rfl, rfl⟩ ⟨Nat.zero_le _, Nat.zero_le _⟩ (Nat.le_of_ble_eq_true rfl) (fun r15 _ => ?_)
      refine g_iconst (w := (1 : Int32)) hX (dc_X12_fact 34 rfl) (by decide) ?_
      exact g_iret hX (dc_X12_fact 35 rfl) rfl rfl (Nat.le_refl _) (Nat.le_refl _)
  · refine g_aload_n hX (dc_X12_fact 6 rfl) rfl 0 rfl ?_
    refine g_bipush (w := (9 : Int32)) hX (dc_X12_fact 7 rfl) (by decide) ?_
    refine gV_WV (As := [.int (9 : Int32)]) (st := []) hX (dc_X12_fact 8 rfl) ml_X12_278 (con_X12_opens hO hΩ (9 : Int32) r9) (stS hΩ 0 rfl) rfl rfl ⟨by decide, by decide⟩ ⟨rfl, rfl⟩ ⟨Nat.zero_le _, Nat.zero_le _⟩ (Nat.le_of_ble_eq_true rfl) (fun r16 _ => ?_)
    refine g_aload_n hX (dc_X12_fact 9 rfl) rfl 0 rfl ?_
    refine g_dup hX (dc_X12_fact 10 rfl) rfl ?_
    refine g_getI hX (dc_X12_fact 11 rfl) fl_X12_199 (by decide) rfl (stS hΩ 0 rfl) ?_
    refine g_iconst (w := (3 : Int32)) hX (dc_X12_fact 12 rfl) (by decide) ?_
    refine g_iadd hX (dc_X12_fact 13 rfl) ?_
    refine g_putI (raw := false) hX (dc_X12_fact 14 rfl) fl_X12_199 (by decide) ⟨rfl, rfl⟩ ⟨rfl, rfl⟩ (stS hΩ 0 rfl) ?_
    refine g_iconst (w := (0 : Int32)) hX (dc_X12_fact 15 rfl) (by decide) ?_
    exact g_iret hX (dc_X12_fact 16 rfl) rfl rfl (Nat.le_refl _) (Nat.le_refl _)
def f_X12_fact  (σ : MS) : Option (Int32 × MS) := b_X12_fact_0   σ
theorem con_X12_fact {Ω : OM} (hO : OKO Ω) (hΩ : oSH Ω = SHM)  (σ : MS)  : Con Ω yX12_fact cX12_fact 1 (some .boolean) rm_X12_fact (emWI) [.ref 0] σ (f_X12_fact  σ) :=
  con_of hO (by decide +kernel) (Nat.le_of_ble_eq_true rfl) rfl (fun X hX _ => c_X12_fact_0 hX hO hΩ    σ )
def it_X12_test : List (Nat × Instr × Nat × Nat) := [(0, .aload_n 0, 1, 1), (1, .iconst 0, 1, 2), (2, .putfield 267, 3, 5), (5, .iconst 1, 1, 6), (6, .istore_n 1, 1, 7), (7, .iconst 1, 1, 8), (8, .istore_n 2, 1, 9), (9, .iload_n 2, 1, 10), (10, .ifCond .eq 192, 3, 13), (13, .aload_n 0, 1, 14), (14, .getfield 196, 3, 17), (17, .ifCond .ne 185, 3, 20), (20, .iload_n 1, 1, 21), (21, .ifCond .eq 19, 3, 24), (24, .aload_n 0, 1, 25), (25, .invokevirtual 284, 3, 28), (28, .ifCond .ne 7, 3, 31), (31, .iconst 1, 1, 32), (32, .goto 4, 3, 35), (35, .iconst 0, 1, 36), (36, .istore_n 1, 1, 37), (37, .goto (-28), 3, 40), (40, .aload_n 0, 1, 41), (41, .bipush 9, 2, 43), (43, .invokevirtual 287, 3, 46), (46, .aload_n 0, 1, 47), (47, .invokevirtual 219, 3, 50), (50, .aload_n 0, 1, 51), (51, .ldc_w 290, 3, 54), (54, .invokevirtual 222, 3, 57), (57, .istore_n 3, 1, 58), (58, .aload_n 0, 1, 59), (59, .ldc_w 292, 3, 62), (62, .invokevirtual 222, 3, 65), (65, .istore 4, 2, 67), (67, .aload_n 0, 1, 68), (68, .bipush 10, 2, 70), (70, .invokevirtual 287, 3, 73), (73, .iload_n 3, 1, 74), (74, .ifCond .ne 8, 3, 77), (77, .iload 4, 2, 79), (79, .ifCond .eq 52, 3, 82), (82, .iload 4, 2, 84), (84, .ifCond .eq 9, 3, 87), (87, .aload_n 0, 1, 88), (88, .bipush 11, 2, 90), (90, .invokevirtual 287, 3, 93), (93, .aload_n 0, 1, 94), (94, .iload_n 3, 1, 95), (95, .ifCond .eq 8, 3, 98), (98, .bipush 10, 2, 100), (100, .goto 5, 3, 103), (103, .bipush 11, 2, 105), (105, .invokevirtual 278, 3, 108), (108, .aload_n 0, 1, 109), (109, .dup, 1, 110), (110, .getfield 199, 3, 113), (113, .iload_n 3, 1, 114), (114, .ifCond .eq 7, 3, 117), (117, .iconst 3, 1, 118), (118, .goto 4, 3, 121), (121, .iconst 2, 1, 122), (122, .iadd, 1, 123), (123, .putfield 199, 3, 126), (126, .iconst 1, 1, 127), (127, .istore_n 1, 1, 128), (128, .goto 71, 3, 131), (131, .aload_n 0, 1, 132), (132, .bipush 11, 2, 134), (134, .invokevirtual 287, 3, 137), (137, .aload_n 0, 1, 138), (138, .invokevirtual 273, 3, 141), (141, .bipush 12, 2, 143), (143, .if_icmp .ne 54, 3, 146), (146, .aload_n 0, 1, 147), (147, .invokevirtual 202, 3, 150), (150, .bipush 93, 2, 152), (152, .if_icmp .eq 12, 3, 155), (155, .aload_n 0, 1, 156), (156, .iconst 0, 1, 157), (157, .aload_n 0, 1, 158), (158, .getfield 199, 3, 161), (161, .invokevirtual 235, 3, 164), (164, .aload_n 0, 1, 165), (165, .dup, 1, 166), (166, .getfield 199, 3, 169), (169, .iconst 1, 1, 170), (170, .iadd, 1, 171), (171, .putfield 199, 3, 174), (174, .aload_n 0, 1, 175), (175, .dup, 1, 176), (176, .getfield 267, 3, 179), (179, .iconst 1, 1, 180), (180, .isub, 1, 181), (181, .putfield 267, 3, 184), (184, .aload_n 0, 1, 185), (185, .dup, 1, 186), (186, .getfield 270, 3, 189), (189, .iconst 1, 1, 190), (190, .isub, 1, 191), (191, .putfield 270, 3, 194), (194, .goto 5, 3, 197), (197, .iconst 0, 1, 198), (198, .istore_n 2, 1, 199), (199, .goto (-190), 3, 202), (202, .return_, 1, 203)]
theorem id_X12_test : ∀ q ∈ it_X12_test, decode cX12_test q.1 = .ok (q.2.1, q.2.2.1) ∧ q.1 + q.2.2.1 = q.2.2.2 := by decide +kernel
theorem dc_X12_test {pc : Nat} {i : Instr} {n pc' : Nat} (j : Nat) (h : it_X12_test[j]? = some (pc, i, n, pc')) : Dc cX12_test pc i n pc' := dc_of id_X12_test j h
abbrev rm_X12_test : Room := { frames := 10, cells := 0, slots := 0, locals := 215 }
def b_X12_test_202     (σ : MS) : Option (MS) := some (σ)
set_option maxHeartbeats 4000000 in
set_option maxRecDepth 20000 in
theorem c_X12_test_202 {X : CX} {Ω : OM} (hX : CF X Ω RX12 cX12_test 5 none rm_X12_test) (hO : OKO Ω) (hΩ : oSH Ω = SHM)      (σ : MS)  : GE X Ω 5 0 0 (emWV) 0 0 202 [] [] σ (b_X12_test_202  σ) := by
  unfold b_X12_test_202
  exact g_vret hX (dc_X12_test 105 rfl) rfl (Nat.le_refl _) (Nat.le_refl _)
def b_X12_test_199  (k9 : Int32 → Int32 → MS → Option (MS))  (y1 : Int32) (y2 : Int32) (σ : MS) : Option (MS) := (k9 (y1) (y2) σ)
set_option maxHeartbeats 4000000 in
set_option maxRecDepth 20000 in
theorem c_X12_test_199 {X : CX} {Ω : OM} (hX : CF X Ω RX12 cX12_test 5 none rm_X12_test) (hO : OKO Ω) (hΩ : oSH Ω = SHM)   (k9 : Int32 → Int32 → MS → Option (MS)) (hk9 : ∀ (y1 : Int32) (y2 : Int32) (σ : MS) , GE X Ω 5 0 0 (emWV) 0 0 9 [(0, .ref 0), (1, .int y1), (2, .int y2)] [] σ (k9 y1 y2 σ))  (y1 : Int32) (y2 : Int32) (σ : MS)  : GE X Ω 5 0 0 (emWV) 0 0 199 [(0, .ref 0), (1, .int y1), (2, .int y2)] [] σ (b_X12_test_199  k9 y1 y2 σ) := by
  unfold b_X12_test_199
  refine g_goto (tgt := 9) hX (dc_X12_test 104 rfl) (by decide) ?_
  exact g_sub [0, 1, 2] rfl (hk9 (y1) (y2) σ )
def b_X12_test_194  (k9 : Int32 → Int32 → MS → Option (MS))  (y1 : Int32) (y2 : Int32) (σ : MS) : Option (MS) := (b_X12_test_199 k9 (y1) (y2) σ)
set_option maxHeartbeats 4000000 in
set_option maxRecDepth 20000 in
theorem c_X12_test_194 {X : CX} {Ω : OM} (hX : CF X Ω RX12 cX12_test 5 none rm_X12_test) (hO : OKO Ω) (hΩ : oSH Ω = SHM)   (k9 : Int32 → Int32 → MS → Option (MS)) (hk9 : ∀ (y1 : Int32) (y2 : Int32) (σ : MS) , GE X Ω 5 0 0 (emWV) 0 0 9 [(0, .ref 0), (1, .int y1), (2, .int y2)] [] σ (k9 y1 y2 σ))  (y1 : Int32) (y2 : Int32) (σ : MS)  : GE X Ω 5 0 0 (emWV) 0 0 194 [(0, .ref 0), (1, .int y1), (2, .int y2)] [] σ (b_X12_test_194  k9 y1 y2 σ) := by
  unfold b_X12_test_194
  refine g_goto (tgt := 199) hX (dc_X12_test 101 rfl) (by decide) ?_
  exact g_sub [0, 1, 2] rfl (c_X12_test_199 hX hO hΩ _ hk9 (y1) (y2) σ)
def b_X12_test_164  (k9 : Int32 → Int32 → MS → Option (MS))  (y1 : Int32) (y2 : Int32) (σ : MS) : Option (MS) := (b_X12_test_194 k9 (y1) (y2) (wI (wI (wI σ 0 30 ((sI σ 0 30) + (1 : Int32))) 0 37 ((sI (wI σ 0 30 ((sI σ 0 30) + (1 : Int32))) 0 37) - (1 : Int32))) 0 35 ((sI (wI (wI σ 0 30 ((sI σ 0 30) + (1 : Int32))) 0 37 ((sI (wI σ 0 30 ((sI σ 0 30) + (1 : Int32))) 0 37) - (1 : Int32))) 0 35) - (1 : Int32))))
set_option maxHeartbeats 4000000 in
set_option maxRecDepth 20000 in
theorem c_X12_test_164 {X : CX} {Ω : OM} (hX : CF X Ω RX12 cX12_test 5 none rm_X12_test) (hO : OKO Ω) (hΩ : oSH Ω = SHM)   (k9 : Int32 → Int32 → MS → Option (MS)) (hk9 : ∀ (y1 : Int32) (y2 : Int32) (σ : MS) , GE X Ω 5 0 0 (emWV) 0 0 9 [(0, .ref 0), (1, .int y1), (2, .int y2)] [] σ (k9 y1 y2 σ))  (y1 : Int32) (y2 : Int32) (σ : MS)  : GE X Ω 5 0 0 (emWV) 0 0 164 [(0, .ref 0), (1, .int y1), (2, .int y2)] [] σ (b_X12_test_164  k9 y1 y2 σ) := by
  unfold b_X12_test_164
  refine g_aload_n hX (dc_X12_test 83 rfl) rfl 0 rfl ?_
  refine g_dup hX (dc_X12_test 84 rfl) rfl ?_
  refine g_getI hX (dc_X12_test 85 rfl) fl_X12_199 (by decide) rfl (stS hΩ 0 rfl) ?_
  refine g_iconst (w := (1 : Int32)) hX (dc_X12_test 86 rfl) (by decide) ?_
  refine g_iadd hX (dc_X12_test 87 rfl) ?_
  refine g_putI (raw := false) hX (dc_X12_test 88 rfl) fl_X12_199 (by decide) ⟨rfl, rfl⟩ ⟨rfl, rfl⟩ (stS hΩ 0 rfl) ?_
  refine g_aload_n hX (dc_X12_test 89 rfl) rfl 0 rfl ?_
  refine g_dup hX (dc_X12_test 90 rfl) rfl ?_
  refine g_getI hX (dc_X12_test 91 rfl) fl_X12_267 (by decide) rfl (stS hΩ 0 rfl) ?_
  refine g_iconst (w := (1 : Int32)) hX (dc_X12_test 92 rfl) (by decide) ?_
  refine g_isub hX (dc_X12_test 93 rfl) ?_
  refine g_putI (raw := false) hX (dc_X12_test 94 rfl) fl_X12_267 (by decide) ⟨rfl, rfl⟩ ⟨rfl, rfl⟩ (stS hΩ 0 rfl) ?_
  refine g_aload_n hX (dc_X12_test 95 rfl) rfl 0 rfl ?_
  refine g_dup hX (dc_X12_test 96 rfl) rfl ?_
  refine g_getI hX (dc_X12_test 97 rfl) fl_X12_270 (by decide) rfl (stS hΩ 0 rfl) ?_
  refine g_iconst (w := (1 : Int32)) hX (dc_X12_test 98 rfl) (by decide) ?_
  refine g_isub hX (dc_X12_test 99 rfl) ?_
  refine g_putI (raw := false) hX (dc_X12_test 100 rfl) fl_X12_270 (by decide) ⟨rfl, rfl⟩ ⟨rfl, rfl⟩ (stS hΩ 0 rfl) ?_
  exact g_sub [0, 1, 2] rfl (c_X12_test_194 hX hO hΩ _ hk9 (y1) (y2) (wI (wI (wI σ 0 30 ((sI σ 0 30) + (1 : Int32))) 0 37 ((sI (wI σ 0 30 ((sI σ 0 30) + (1 : Int32))) 0 37) - (1 : Int32))) 0 35 ((sI (wI (wI σ 0 30 ((sI σ 0 30) + (1 : Int32))) 0 37 ((sI (wI σ 0 30 ((sI σ 0 30) + (1 : Int32))) 0 37) - (1 : Int32))) 0 35) - (1 : Int32))))
def b_X12_test_122  (k9 : Int32 → Int32 → MS → Option (MS))  (y2 : Int32) (s0 : Int32) (s1 : Int32) (σ : MS) : Option (MS) := (b_X12_test_199 k9 ((1 : Int32)) (y2) (wI σ 0 30 (s1 + s0)))
set_option maxHeartbeats 4000000 in
set_option maxRecDepth 20000 in
theorem c_X12_test_122 {X : CX} {Ω : OM} (hX : CF X Ω RX12 cX12_test 5 none rm_X12_test) (hO : OKO Ω) (hΩ : oSH Ω = SHM)   (k9 : Int32 → Int32 → MS → Option (MS)) (hk9 : ∀ (y1 : Int32) (y2 : Int32) (σ : MS) , GE X Ω 5 0 0 (emWV) 0 0 9 [(0, .ref 0), (1, .int y1), (2, .int y2)] [] σ (k9 y1 y2 σ))  (y2 : Int32) (s0 : Int32) (s1 : Int32) (σ : MS)  : GE X Ω 5 0 0 (emWV) 0 0 122 [(0, .ref 0), (2, .int y2)] [.int s0, .int s1, .ref 0] σ (b_X12_test_122  k9 y2 s0 s1 σ) := by
  unfold b_X12_test_122
  refine g_iadd hX (dc_X12_test 62 rfl) ?_
  refine g_putI (raw := false) hX (dc_X12_test 63 rfl) fl_X12_199 (by decide) ⟨rfl, rfl⟩ ⟨rfl, rfl⟩ (stS hΩ 0 rfl) ?_
  refine g_iconst (w := (1 : Int32)) hX (dc_X12_test 64 rfl) (by decide) ?_
  refine g_istore_n (L' := [(1, .int (1 : Int32)), (0, .ref 0), (2, .int y2)]) hX (dc_X12_test 65 rfl) rfl (by decide) rfl ?_
  refine g_goto (tgt := 199) hX (dc_X12_test 66 rfl) (by decide) ?_
  exact g_sub [1, 0, 2] rfl (c_X12_test_199 hX hO hΩ _ hk9 ((1 : Int32)) (y2) (wI σ 0 30 (s1 + s0)))
def b_X12_test_105  (k9 : Int32 → Int32 → MS → Option (MS))  (y2 : Int32) (y3 : Int32) (s0 : Int32) (σ : MS) : Option (MS) := (f_X12_opens s0 σ).bind (fun r24 => (if y3 = 0 then (b_X12_test_122 k9 (y2) ((2 : Int32)) ((sI r24 0 30)) r24) else (b_X12_test_122 k9 (y2) ((3 : Int32)) ((sI r24 0 30)) r24)))
set_option maxHeartbeats 4000000 in
set_option maxRecDepth 20000 in
theorem c_X12_test_105 {X : CX} {Ω : OM} (hX : CF X Ω RX12 cX12_test 5 none rm_X12_test) (hO : OKO Ω) (hΩ : oSH Ω = SHM)   (k9 : Int32 → Int32 → MS → Option (MS)) (hk9 : ∀ (y1 : Int32) (y2 : Int32) (σ : MS) , GE X Ω 5 0 0 (emWV) 0 0 9 [(0, .ref 0), (1, .int y1), (2, .int y2)] [] σ (k9 y1 y2 σ))  (y2 : Int32) (y3 : Int32) (s0 : Int32) (σ : MS)  : GE X Ω 5 0 0 (emWV) 0 0 105 [(0, .ref 0), (2, .int y2), (3, .int y3)] [.int s0, .ref 0] σ (b_X12_test_105  k9 y2 y3 s0 σ) := by
  unfold b_X12_test_105
  refine gV_WV (As := [.int s0]) (st := []) hX (dc_X12_test 53 rfl) ml_X12_278 (con_X12_opens hO hΩ s0 σ) (stS hΩ 0 rfl) rfl rfl ⟨by decide, by decide⟩ ⟨rfl, rfl⟩ ⟨Nat.zero_le _, Nat.zero_le _⟩ (Nat.le_of_ble_eq_true rfl) (fun r24 _ => ?_)
  refine g_aload_n hX (dc_X12_test 54 rfl) rfl 0 rfl ?_
  refine g_dup hX (dc_X12_test 55 rfl) rfl ?_
  refine g_getI hX (dc_X12_test 56 rfl) fl_X12_199 (by decide) rfl (stS hΩ 0 rfl) ?_
  refine g_iload_n hX (dc_X12_test 57 rfl) rfl 2 rfl ?_
  refine g_if_eq (tgt := 121) hX (dc_X12_test 58 rfl) (by decide) (fun h25 => ?_) (fun h25 => ?_)
  · refine g_iconst (w := (2 : Int32)) hX (dc_X12_test 61 rfl) (by decide) ?_
    exact g_sub [0, 1] rfl (c_X12_test_122 hX hO hΩ _ hk9 (y2) ((2 : Int32)) ((sI r24 0 30)) r24)
  · refine g_iconst (w := (3 : Int32)) hX (dc_X12_test 59 rfl) (by decide) ?_
    refine g_goto (tgt := 122) hX (dc_X12_test 60 rfl) (by decide) ?_
    exact g_sub [0, 1] rfl (c_X12_test_122 hX hO hΩ _ hk9 (y2) ((3 : Int32)) ((sI r24 0 30)) r24)
def b_X12_test_93  (k9 : Int32 → Int32 → MS → Option (MS))  (y2 : Int32) (y3 : Int32) (σ : MS) : Option (MS) := (if y3 = 0 then (b_X12_test_105 k9 (y2) (y3) ((11 : Int32)) σ) else (b_X12_test_105 k9 (y2) (y3) ((10 : Int32)) σ))
set_option maxHeartbeats 4000000 in
set_option maxRecDepth 20000 in
theorem c_X12_test_93 {X : CX} {Ω : OM} (hX : CF X Ω RX12 cX12_test 5 none rm_X12_test) (hO : OKO Ω) (hΩ : oSH Ω = SHM)   (k9 : Int32 → Int32 → MS → Option (MS)) (hk9 : ∀ (y1 : Int32) (y2 : Int32) (σ : MS) , GE X Ω 5 0 0 (emWV) 0 0 9 [(0, .ref 0), (1, .int y1), (2, .int y2)] [] σ (k9 y1 y2 σ))  (y2 : Int32) (y3 : Int32) (σ : MS)  : GE X Ω 5 0 0 (emWV) 0 0 93 [(0, .ref 0), (2, .int y2), (3, .int y3)] [] σ (b_X12_test_93  k9 y2 y3 σ) := by
  unfold b_X12_test_93
  refine g_aload_n hX (dc_X12_test 47 rfl) rfl 0 rfl ?_
  refine g_iload_n hX (dc_X12_test 48 rfl) rfl 2 rfl ?_
  refine g_if_eq (tgt := 103) hX (dc_X12_test 49 rfl) (by decide) (fun h26 => ?_) (fun h26 => ?_)
  · refine g_bipush (w := (11 : Int32)) hX (dc_X12_test 52 rfl) (by decide) ?_
    exact g_sub [0, 1, 2] rfl (c_X12_test_105 hX hO hΩ _ hk9 (y2) (y3) ((11 : Int32)) σ)
  · refine g_bipush (w := (10 : Int32)) hX (dc_X12_test 50 rfl) (by decide) ?_
    refine g_goto (tgt := 105) hX (dc_X12_test 51 rfl) (by decide) ?_
    exact g_sub [0, 1, 2] rfl (c_X12_test_105 hX hO hΩ _ hk9 (y2) (y3) ((10 : Int32)) σ)
def b_X12_test_82  (k9 : Int32 → Int32 → MS → Option (MS))  (y2 : Int32) (y3 : Int32) (y4 : Int32) (σ : MS) : Option (MS) := (if y4 = 0 then (b_X12_test_93 k9 (y2) (y3) σ) else (f_X12_answers (11 : Int32) σ).bind (fun r28 => (b_X12_test_93 k9 (y2) (y3) r28)))
set_option maxHeartbeats 4000000 in
set_option maxRecDepth 20000 in
theorem c_X12_test_82 {X : CX} {Ω : OM} (hX : CF X Ω RX12 cX12_test 5 none rm_X12_test) (hO : OKO Ω) (hΩ : oSH Ω = SHM)   (k9 : Int32 → Int32 → MS → Option (MS)) (hk9 : ∀ (y1 : Int32) (y2 : Int32) (σ : MS) , GE X Ω 5 0 0 (emWV) 0 0 9 [(0, .ref 0), (1, .int y1), (2, .int y2)] [] σ (k9 y1 y2 σ))  (y2 : Int32) (y3 : Int32) (y4 : Int32) (σ : MS)  : GE X Ω 5 0 0 (emWV) 0 0 82 [(0, .ref 0), (2, .int y2), (3, .int y3), (4, .int y4)] [] σ (b_X12_test_82  k9 y2 y3 y4 σ) := by
  unfold b_X12_test_82
  refine g_iload hX (dc_X12_test 42 rfl) 3 rfl ?_
  refine g_if_eq (tgt := 93) hX (dc_X12_test 43 rfl) (by decide) (fun h27 => ?_) (fun h27 => ?_)
  · exact g_sub [0, 1, 2] rfl (c_X12_test_93 hX hO hΩ _ hk9 (y2) (y3) σ)
  · refine g_aload_n hX (dc_X12_test 44 rfl) rfl 0 rfl ?_
    refine g_bipush (w := (11 : Int32)) hX (dc_X12_test 45 rfl) (by decide) ?_
    refine gV_WV (As := [.int (11 : Int32)]) (st := []) hX (dc_X12_test 46 rfl) ml_X12_287 (con_X12_answers hO hΩ (11 : Int32) σ) (stS hΩ 0 rfl) rfl rfl ⟨by decide, by decide⟩ ⟨rfl, rfl⟩ ⟨Nat.zero_le _, Nat.zero_le _⟩ (Nat.le_of_ble_eq_true rfl) (fun r28 _ => ?_)
    exact g_sub [0, 1, 2] rfl (c_X12_test_93 hX hO hΩ _ hk9 (y2) (y3) r28)
def b_X12_test_36  (k9 : Int32 → Int32 → MS → Option (MS))  (y2 : Int32) (s0 : Int32) (σ : MS) : Option (MS) := (k9 (s0) (y2) σ)
set_option maxHeartbeats 4000000 in
set_option maxRecDepth 20000 in
theorem c_X12_test_36 {X : CX} {Ω : OM} (hX : CF X Ω RX12 cX12_test 5 none rm_X12_test) (hO : OKO Ω) (hΩ : oSH Ω = SHM)   (k9 : Int32 → Int32 → MS → Option (MS)) (hk9 : ∀ (y1 : Int32) (y2 : Int32) (σ : MS) , GE X Ω 5 0 0 (emWV) 0 0 9 [(0, .ref 0), (1, .int y1), (2, .int y2)] [] σ (k9 y1 y2 σ))  (y2 : Int32) (s0 : Int32) (σ : MS)  : GE X Ω 5 0 0 (emWV) 0 0 36 [(0, .ref 0), (2, .int y2)] [.int s0] σ (b_X12_test_36  k9 y2 s0 σ) := by
  unfold b_X12_test_36
  refine g_istore_n (L' := [(1, .int s0), (0, .ref 0), (2, .int y2)]) hX (dc_X12_test 20 rfl) rfl (by decide) rfl ?_
  refine g_goto (tgt := 9) hX (dc_X12_test 21 rfl) (by decide) ?_
  exact g_sub [1, 0, 2] rfl (hk9 (s0) (y2) σ )
def b_X12_test_9   : Nat → Int32 → Int32 → MS → Option (MS)
  | 0, _, _, _ => none
  | n + 1, y1, y2, σ => (if y2 = 0 then (b_X12_test_202 σ) else (if (sI σ 0 31) = 0 then (if y1 = 0 then (f_X12_answers (9 : Int32) σ).bind (fun r32 => (f_X12_blanks r32).bind (fun r33 => (f_X12_stood 21 r33).bind (fun r34 => (f_X12_stood 22 r33).bind (fun r35 => (f_X12_answers (10 : Int32) r33).bind (fun r36 => (if r34 = 0 then (if r35 = 0 then (f_X12_answers (11 : Int32) r36).bind (fun r39 => (f_X12_top r39).bind (fun r40 => (if r40 = (12 : Int32) then (f_X12_sign r39).bind (fun r42 => (if r42 = (93 : Int32) then (b_X12_test_164 (b_X12_test_9  n) (y1) (y2) r39) else (f_X12_fails (0 : Int32) (sI r39 0 30) r39).bind (fun r44 => (b_X12_test_164 (b_X12_test_9  n) (y1) (y2) r44)))) else (b_X12_test_199 (b_X12_test_9  n) (y1) ((0 : Int32)) r39)))) else (b_X12_test_82 (b_X12_test_9  n) (y2) (r34) (r35) r36)) else (b_X12_test_82 (b_X12_test_9  n) (y2) (r34) (r35) r36))))))) else (f_X12_fact σ).bind (fun r45 => (if r45.1 = 0 then (b_X12_test_36 (b_X12_test_9  n) (y2) ((1 : Int32)) r45.2) else (b_X12_test_36 (b_X12_test_9  n) (y2) ((0 : Int32)) r45.2)))) else (b_X12_test_202 σ)))
set_option maxHeartbeats 4000000 in
set_option maxRecDepth 20000 in
theorem c_X12_test_9 {X : CX} {Ω : OM} (hX : CF X Ω RX12 cX12_test 5 none rm_X12_test) (hO : OKO Ω) (hΩ : oSH Ω = SHM)    : ∀ (n : Nat) (y1 : Int32) (y2 : Int32) (σ : MS) , GE X Ω 5 0 0 (emWV) 0 0 9 [(0, .ref 0), (1, .int y1), (2, .int y2)] [] σ (b_X12_test_9  n y1 y2 σ)
  | 0, _, _, _ => g_none
  | n + 1, y1, y2, σ => by
    have hk9 := c_X12_test_9 hX hO hΩ  n
    unfold b_X12_test_9
    refine g_iload_n hX (dc_X12_test 7 rfl) rfl 2 rfl ?_
    refine g_if_eq (tgt := 202) hX (dc_X12_test 8 rfl) (by decide) (fun h29 => ?_) (fun h29 => ?_)
    · exact g_sub [] rfl (c_X12_test_202 hX hO hΩ σ)
    · refine g_aload_n hX (dc_X12_test 9 rfl) rfl 0 rfl ?_
      refine g_getI hX (dc_X12_test 10 rfl) fl_X12_196 (by decide) rfl (stS hΩ 0 rfl) ?_
      refine g_if_ne (tgt := 202) hX (dc_X12_test 11 rfl) (by decide) (fun h30 => ?_) (fun h30 => ?_)
      · refine g_iload_n hX (dc_X12_test 12 rfl) rfl 1 rfl ?_
        refine g_if_eq (tgt := 40) hX (dc_X12_test 13 rfl) (by decide) (fun h31 => ?_) (fun h31 => ?_)
        · refine g_aload_n hX (dc_X12_test 22 rfl) rfl 0 rfl ?_
          refine g_bipush (w := (9 : Int32)) hX (dc_X12_test 23 rfl) (by decide) ?_
          refine gV_WV (As := [.int (9 : Int32)]) (st := []) hX (dc_X12_test 24 rfl) ml_X12_287 (con_X12_answers hO hΩ (9 : Int32) σ) (stS hΩ 0 rfl) rfl rfl ⟨by decide, by decide⟩ ⟨rfl, rfl⟩ ⟨Nat.zero_le _, Nat.zero_le _⟩ (Nat.le_of_ble_eq_true rfl) (fun r32 _ => ?_)
          refine g_aload_n hX (dc_X12_test 25 rfl) rfl 0 rfl ?_
          refine gV_WV (As := []) (st := []) hX (dc_X12_test 26 rfl) ml_X12_219 (con_X12_blanks hO hΩ r32) (stS hΩ 0 rfl) rfl rfl ⟨by decide, by decide⟩ ⟨rfl, rfl⟩ ⟨Nat.zero_le _, Nat.zero_le _⟩ (Nat.le_of_ble_eq_true rfl) (fun r33 _ => ?_)
          refine g_aload_n hX (dc_X12_test 27 rfl) rfl 0 rfl ?_
          refine g_ldcwS (i := 21) hX (dc_X12_test 28 rfl) (by decide) rfl ?_
          refine gV_PI (As := [.ref (1000000 + 21)]) (st := []) hX (dc_X12_test 29 rfl) ml_X12_222 (con_X12_stood hO hΩ 21 r33 (by decide)) (stS hΩ 0 rfl) rfl rfl ⟨by decide, by decide⟩ ⟨rfl, rfl⟩ ⟨Nat.zero_le _, Nat.zero_le _⟩ (Nat.le_of_ble_eq_true rfl) (fun r34 _ => ?_)
          refine g_istore_n (L' := [(3, .int r34), (0, .ref 0), (1, .int y1), (2, .int y2)]) hX (dc_X12_test 30 rfl) rfl (by decide) rfl ?_
          refine g_aload_n hX (dc_X12_test 31 rfl) rfl 1 rfl ?_
          refine g_ldcwS (i := 22) hX (dc_X12_test 32 rfl) (by decide) rfl ?_
          refine gV_PI (As := [.ref (1000000 + 22)]) (st := []) hX (dc_X12_test 33 rfl) ml_X12_222 (con_X12_stood hO hΩ 22 r33 (by decide)) (stS hΩ 0 rfl) rfl rfl ⟨by decide, by decide⟩ ⟨rfl, rfl⟩ ⟨Nat.zero_le _, Nat.zero_le _⟩ (Nat.le_of_ble_eq_true rfl) (fun r35 _ => ?_)
          refine g_istore (L' := [(4, .int r35), (3, .int r34), (0, .ref 0), (1, .int y1), (2, .int y2)]) hX (dc_X12_test 34 rfl) (by decide) rfl ?_
          refine g_aload_n hX (dc_X12_test 35 rfl) rfl 2 rfl ?_
          refine g_bipush (w := (10 : Int32)) hX (dc_X12_test 36 rfl) (by decide) ?_
          refine gV_WV (As := [.int (10 : Int32)]) (st := []) hX (dc_X12_test 37 rfl) ml_X12_287 (con_X12_answers hO hΩ (10 : Int32) r33) (stS hΩ 0 rfl) rfl rfl ⟨by decide, by decide⟩ ⟨rfl, rfl⟩ ⟨Nat.zero_le _, Nat.zero_le _⟩ (Nat.le_of_ble_eq_true rfl) (fun r36 _ => ?_)
          refine g_iload_n hX (dc_X12_test 38 rfl) rfl 1 rfl ?_
          refine g_if_ne (tgt := 82) hX (dc_X12_test 39 rfl) (by decide) (fun h37 => ?_) (fun h37 => ?_)
          · refine g_iload hX (dc_X12_test 40 rfl) 0 rfl ?_
            refine g_if_eq (tgt := 131) hX (dc_X12_test 41 rfl) (by decide) (fun h38 => ?_) (fun h38 => ?_)
            · refine g_aload_n hX (dc_X12_test 67 rfl) rfl 2 rfl ?_
              refine g_bipush (w := (11 : Int32)) hX (dc_X12_test 68 rfl) (by decide) ?_
              refine gV_WV (As := [.int (11 : Int32)]) (st := []) hX (dc_X12_test 69 rfl) ml_X12_287 (con_X12_answers hO hΩ (11 : Int32) r36) (stS hΩ 0 rfl) rfl rfl ⟨by decide, by decide⟩ ⟨rfl, rfl⟩ ⟨Nat.zero_le _, Nat.zero_le _⟩ (Nat.le_of_ble_eq_true rfl) (fun r39 _ => ?_)
              refine g_aload_n hX (dc_X12_test 70 rfl) rfl 2 rfl ?_
              refine gV_PI (As := []) (st := []) hX (dc_X12_test 71 rfl) ml_X12_273 (con_X12_top hO hΩ r39) (stS hΩ 0 rfl) rfl rfl ⟨by decide, by decide⟩ ⟨rfl, rfl⟩ ⟨Nat.zero_le _, Nat.zero_le _⟩ (Nat.le_of_ble_eq_true rfl) (fun r40 _ => ?_)
              refine g_bipush (w := (12 : Int32)) hX (dc_X12_test 72 rfl) (by decide) ?_
              refine g_icmp_ne (tgt := 197) hX (dc_X12_test 73 rfl) (by decide) (fun h41 => ?_) (fun h41 => ?_)
              · refine g_aload_n hX (dc_X12_test 74 rfl) rfl 2 rfl ?_
                refine gV_PI (As := []) (st := []) hX (dc_X12_test 75 rfl) ml_X12_202 (con_X12_sign hO hΩ r39) (stS hΩ 0 rfl) rfl rfl ⟨by decide, by decide⟩ ⟨rfl, rfl⟩ ⟨Nat.zero_le _, Nat.zero_le _⟩ (Nat.le_of_ble_eq_true rfl) (fun r42 _ => ?_)
                refine g_bipush (w := (93 : Int32)) hX (dc_X12_test 76 rfl) (by decide) ?_
                refine g_icmp_eq (tgt := 164) hX (dc_X12_test 77 rfl) (by decide) (fun h43 => ?_) (fun h43 => ?_)
                · exact g_sub [2, 3, 4] rfl (c_X12_test_164 hX hO hΩ _ hk9 (y1) (y2) r39)
                · refine g_aload_n hX (dc_X12_test 78 rfl) rfl 2 rfl ?_
                  refine g_iconst (w := (0 : Int32)) hX (dc_X12_test 79 rfl) (by decide) ?_
                  refine g_aload_n hX (dc_X12_test 80 rfl) rfl 2 rfl ?_
                  refine g_getI hX (dc_X12_test 81 rfl) fl_X12_199 (by decide) rfl (stS hΩ 0 rfl) ?_
                  refine gV_WV (As := [.int (0 : Int32), .int (sI r39 0 30)]) (st := []) hX (dc_X12_test 82 rfl) ml_X12_235 (con_X12_fails hO hΩ (0 : Int32) (sI r39 0 30) r39) (stS hΩ 0 rfl) rfl rfl ⟨by decide, by decide⟩ ⟨rfl, rfl⟩ ⟨Nat.zero_le _, Nat.zero_le _⟩ (Nat.le_of_ble_eq_true rfl) (fun r44 _ => ?_)
                  exact g_sub [2, 3, 4] rfl (c_X12_test_164 hX hO hΩ _ hk9 (y1) (y2) r44)
              · refine g_iconst (w := (0 : Int32)) hX (dc_X12_test 102 rfl) (by decide) ?_
                refine g_istore_n (L' := [(2, .int (0 : Int32)), (4, .int r35), (3, .int r34), (0, .ref 0), (1, .int y1)]) hX (dc_X12_test 103 rfl) rfl (by decide) rfl ?_
                exact g_sub [3, 4, 0] rfl (c_X12_test_199 hX hO hΩ _ hk9 (y1) ((0 : Int32)) r39)
            · exact g_sub [2, 4, 1, 0] rfl (c_X12_test_82 hX hO hΩ _ hk9 (y2) (r34) (r35) r36)
          · exact g_sub [2, 4, 1, 0] rfl (c_X12_test_82 hX hO hΩ _ hk9 (y2) (r34) (r35) r36)
        · refine g_aload_n hX (dc_X12_test 14 rfl) rfl 0 rfl ?_
          refine gV_WI (As := []) (st := []) hX (dc_X12_test 15 rfl) ml_X12_284 (con_X12_fact hO hΩ σ) (stS hΩ 0 rfl) rfl rfl ⟨by decide, by decide⟩ ⟨rfl, rfl⟩ ⟨Nat.zero_le _, Nat.zero_le _⟩ (Nat.le_of_ble_eq_true rfl) (fun r45 _ => ?_)
          refine g_if_ne (tgt := 35) hX (dc_X12_test 16 rfl) (by decide) (fun h46 => ?_) (fun h46 => ?_)
          · refine g_iconst (w := (1 : Int32)) hX (dc_X12_test 17 rfl) (by decide) ?_
            refine g_goto (tgt := 36) hX (dc_X12_test 18 rfl) (by decide) ?_
            exact g_sub [0, 2] rfl (c_X12_test_36 hX hO hΩ _ hk9 (y2) ((1 : Int32)) r45.2)
          · refine g_iconst (w := (0 : Int32)) hX (dc_X12_test 19 rfl) (by decide) ?_
            exact g_sub [0, 2] rfl (c_X12_test_36 hX hO hΩ _ hk9 (y2) ((0 : Int32)) r45.2)
      · exact g_sub [] rfl (c_X12_test_202 hX hO hΩ σ)
def b_X12_test_0     (σ : MS) : Option (MS) := (b_X12_test_9 FU ((1 : Int32)) ((1 : Int32)) (wI σ 0 37 (0 : Int32)))
set_option maxHeartbeats 4000000 in
set_option maxRecDepth 20000 in
theorem c_X12_test_0 {X : CX} {Ω : OM} (hX : CF X Ω RX12 cX12_test 5 none rm_X12_test) (hO : OKO Ω) (hΩ : oSH Ω = SHM)      (σ : MS)  : GE X Ω 5 0 0 (emWV) 0 0 0 [(0, .ref 0)] [] σ (b_X12_test_0  σ) := by
  unfold b_X12_test_0
  refine g_aload_n hX (dc_X12_test 0 rfl) rfl 0 rfl ?_
  refine g_iconst (w := (0 : Int32)) hX (dc_X12_test 1 rfl) (by decide) ?_
  refine g_putI (raw := false) hX (dc_X12_test 2 rfl) fl_X12_267 (by decide) ⟨rfl, rfl⟩ ⟨rfl, rfl⟩ (stS hΩ 0 rfl) ?_
  refine g_iconst (w := (1 : Int32)) hX (dc_X12_test 3 rfl) (by decide) ?_
  refine g_istore_n (L' := [(1, .int (1 : Int32)), (0, .ref 0)]) hX (dc_X12_test 4 rfl) rfl (by decide) rfl ?_
  refine g_iconst (w := (1 : Int32)) hX (dc_X12_test 5 rfl) (by decide) ?_
  refine g_istore_n (L' := [(2, .int (1 : Int32)), (1, .int (1 : Int32)), (0, .ref 0)]) hX (dc_X12_test 6 rfl) rfl (by decide) rfl ?_
  exact g_sub [2, 1, 0] rfl (c_X12_test_9 hX hO hΩ FU ((1 : Int32)) ((1 : Int32)) (wI σ 0 37 (0 : Int32)))
def f_X12_test  (σ : MS) : Option (MS) := b_X12_test_0   σ
theorem con_X12_test {Ω : OM} (hO : OKO Ω) (hΩ : oSH Ω = SHM)  (σ : MS)  : Con Ω yX12_test cX12_test 5 none rm_X12_test (emWV) [.ref 0] σ (f_X12_test  σ) :=
  con_of hO (by decide +kernel) (Nat.le_of_ble_eq_true rfl) rfl (fun X hX _ => c_X12_test_0 hX hO hΩ    σ )
def it_X12_amount : List (Nat × Instr × Nat × Nat) := [(0, .aload_n 0, 1, 1), (1, .invokevirtual 219, 3, 4), (4, .aload_n 0, 1, 5), (5, .getfield 199, 3, 8), (8, .istore_n 3, 1, 9), (9, .aload_n 0, 1, 10), (10, .getfield 196, 3, 13), (13, .ifCond .ne 12, 3, 16), (16, .aload_n 0, 1, 17), (17, .ldc 243, 2, 19), (19, .invokevirtual 244, 3, 22), (22, .goto 4, 3, 25), (25, .iconst 0, 1, 26), (26, .istore 4, 2, 28), (28, .aload_n 0, 1, 29), (29, .getfield 196, 3, 32), (32, .ifCond .ne 22, 3, 35), (35, .iload 4, 2, 37), (37, .i2l, 1, 38), (38, .iload_n 1, 1, 39), (39, .i2l, 1, 40), (40, .iload_n 2, 1, 41), (41, .i2l, 1, 42), (42, .invokestatic 161, 3, 45), (45, .ifCond .ne 9, 3, 48), (48, .aload_n 0, 1, 49), (49, .iconst 1, 1, 50), (50, .iload_n 3, 1, 51), (51, .invokevirtual 235, 3, 54), (54, .iload 4, 2, 56), (56, .ireturn, 1, 57)]
theorem id_X12_amount : ∀ q ∈ it_X12_amount, decode cX12_amount q.1 = .ok (q.2.1, q.2.2.1) ∧ q.1 + q.2.2.1 = q.2.2.2 := by decide +kernel
theorem dc_X12_amount {pc : Nat} {i : Instr} {n pc' : Nat} (j : Nat) (h : it_X12_amount[j]? = some (pc, i, n, pc')) : Dc cX12_amount pc i n pc' := dc_of id_X12_amount j h
abbrev rm_X12_amount : Room := { frames := 3, cells := 0, slots := 0, locals := 68 }
def b_X12_amount_54    (y4 : Int32) (σ : MS) : Option (Int32 × MS) := some (y4, σ)
set_option maxHeartbeats 4000000 in
set_option maxRecDepth 20000 in
theorem c_X12_amount_54 {X : CX} {Ω : OM} (hX : CF X Ω RX12 cX12_amount 5 (some .int) rm_X12_amount) (hO : OKO Ω) (hΩ : oSH Ω = SHM)     (y4 : Int32) (σ : MS)  : GE X Ω 5 0 0 (emWI) 0 0 54 [(4, .int y4)] [] σ (b_X12_amount_54  y4 σ) := by
  unfold b_X12_amount_54
  refine g_iload hX (dc_X12_amount 29 rfl) 0 rfl ?_
  exact g_iret hX (dc_X12_amount 30 rfl) rfl rfl (Nat.le_refl _) (Nat.le_refl _)
def b_X12_amount_26    (y1 : Int32) (y2 : Int32) (y3 : Int32) (s0 : Int32) (σ : MS) : Option (Int32 × MS) := (if (sI σ 0 31) = 0 then (f_X12_in (s0).toInt64 (y1).toInt64 (y2).toInt64).bind (fun r9 => (if r9 = 0 then (f_X12_fails (1 : Int32) y3 σ).bind (fun r11 => (b_X12_amount_54 (s0) r11)) else (b_X12_amount_54 (s0) σ))) else (b_X12_amount_54 (s0) σ))
set_option maxHeartbeats 4000000 in
set_option maxRecDepth 20000 in
theorem c_X12_amount_26 {X : CX} {Ω : OM} (hX : CF X Ω RX12 cX12_amount 5 (some .int) rm_X12_amount) (hO : OKO Ω) (hΩ : oSH Ω = SHM)     (y1 : Int32) (y2 : Int32) (y3 : Int32) (s0 : Int32) (σ : MS)  : GE X Ω 5 0 0 (emWI) 0 0 26 [(0, .ref 0), (1, .int y1), (2, .int y2), (3, .int y3)] [.int s0] σ (b_X12_amount_26  y1 y2 y3 s0 σ) := by
  unfold b_X12_amount_26
  refine g_istore (L' := [(4, .int s0), (0, .ref 0), (1, .int y1), (2, .int y2), (3, .int y3)]) hX (dc_X12_amount 13 rfl) (by decide) rfl ?_
  refine g_aload_n hX (dc_X12_amount 14 rfl) rfl 1 rfl ?_
  refine g_getI hX (dc_X12_amount 15 rfl) fl_X12_196 (by decide) rfl (stS hΩ 0 rfl) ?_
  refine g_if_ne (tgt := 54) hX (dc_X12_amount 16 rfl) (by decide) (fun h8 => ?_) (fun h8 => ?_)
  · refine g_iload hX (dc_X12_amount 17 rfl) 0 rfl ?_
    refine g_i2l hX (dc_X12_amount 18 rfl) ?_
    refine g_iload_n hX (dc_X12_amount 19 rfl) rfl 2 rfl ?_
    refine g_i2l hX (dc_X12_amount 20 rfl) ?_
    refine g_iload_n hX (dc_X12_amount 21 rfl) rfl 3 rfl ?_
    refine g_i2l hX (dc_X12_amount 22 rfl) ?_
    refine gS_PI (As := [.long (s0).toInt64, .long (y1).toInt64, .long (y2).toInt64]) (st := []) hX (dc_X12_amount 23 rfl) ml_X12_161 (con_X12_in hO hΩ (s0).toInt64 (y1).toInt64 (y2).toInt64 σ) rfl rfl ⟨by decide, by decide⟩ ⟨rfl, rfl⟩ ⟨Nat.zero_le _, Nat.zero_le _⟩ (Nat.le_of_ble_eq_true rfl) (fun r9 _ => ?_)
    refine g_if_ne (tgt := 54) hX (dc_X12_amount 24 rfl) (by decide) (fun h10 => ?_) (fun h10 => ?_)
    · refine g_aload_n hX (dc_X12_amount 25 rfl) rfl 1 rfl ?_
      refine g_iconst (w := (1 : Int32)) hX (dc_X12_amount 26 rfl) (by decide) ?_
      refine g_iload_n hX (dc_X12_amount 27 rfl) rfl 4 rfl ?_
      refine gV_WV (As := [.int (1 : Int32), .int y3]) (st := []) hX (dc_X12_amount 28 rfl) ml_X12_235 (con_X12_fails hO hΩ (1 : Int32) y3 σ) (stS hΩ 0 rfl) rfl rfl ⟨by decide, by decide⟩ ⟨rfl, rfl⟩ ⟨Nat.zero_le _, Nat.zero_le _⟩ (Nat.le_of_ble_eq_true rfl) (fun r11 _ => ?_)
      exact g_sub [0] rfl (c_X12_amount_54 hX hO hΩ (s0) r11)
    · exact g_sub [0] rfl (c_X12_amount_54 hX hO hΩ (s0) σ)
  · exact g_sub [0] rfl (c_X12_amount_54 hX hO hΩ (s0) σ)
def b_X12_amount_0   (x1 : Int32) (x2 : Int32)  (σ : MS) : Option (Int32 × MS) := (f_X12_blanks σ).bind (fun r12 => (if (sI r12 0 31) = 0 then (f_X12_digits (99999 : Int32) r12).bind (fun r14 => (b_X12_amount_26 (x1) (x2) ((sI r12 0 30)) (r14.1) r14.2)) else (b_X12_amount_26 (x1) (x2) ((sI r12 0 30)) ((0 : Int32)) r12)))
set_option maxHeartbeats 4000000 in
set_option maxRecDepth 20000 in
theorem c_X12_amount_0 {X : CX} {Ω : OM} (hX : CF X Ω RX12 cX12_amount 5 (some .int) rm_X12_amount) (hO : OKO Ω) (hΩ : oSH Ω = SHM)    (x1 : Int32) (x2 : Int32)  (σ : MS)  : GE X Ω 5 0 0 (emWI) 0 0 0 [(0, .ref 0), (1, .int x1), (2, .int x2)] [] σ (b_X12_amount_0  x1 x2 σ) := by
  unfold b_X12_amount_0
  refine g_aload_n hX (dc_X12_amount 0 rfl) rfl 0 rfl ?_
  refine gV_WV (As := []) (st := []) hX (dc_X12_amount 1 rfl) ml_X12_219 (con_X12_blanks hO hΩ σ) (stS hΩ 0 rfl) rfl rfl ⟨by decide, by decide⟩ ⟨rfl, rfl⟩ ⟨Nat.zero_le _, Nat.zero_le _⟩ (Nat.le_of_ble_eq_true rfl) (fun r12 _ => ?_)
  refine g_aload_n hX (dc_X12_amount 2 rfl) rfl 0 rfl ?_
  refine g_getI hX (dc_X12_amount 3 rfl) fl_X12_199 (by decide) rfl (stS hΩ 0 rfl) ?_
  refine g_istore_n (L' := [(3, .int (sI r12 0 30)), (0, .ref 0), (1, .int x1), (2, .int x2)]) hX (dc_X12_amount 4 rfl) rfl (by decide) rfl ?_
  refine g_aload_n hX (dc_X12_amount 5 rfl) rfl 1 rfl ?_
  refine g_getI hX (dc_X12_amount 6 rfl) fl_X12_196 (by decide) rfl (stS hΩ 0 rfl) ?_
  refine g_if_ne (tgt := 25) hX (dc_X12_amount 7 rfl) (by decide) (fun h13 => ?_) (fun h13 => ?_)
  · refine g_aload_n hX (dc_X12_amount 8 rfl) rfl 1 rfl ?_
    refine g_ldc hX (dc_X12_amount 9 rfl) wk_X12_243 ?_
    refine gV_WI (As := [.int (99999 : Int32)]) (st := []) hX (dc_X12_amount 10 rfl) ml_X12_244 (con_X12_digits hO hΩ (99999 : Int32) r12) (stS hΩ 0 rfl) rfl rfl ⟨by decide, by decide⟩ ⟨rfl, rfl⟩ ⟨Nat.zero_le _, Nat.zero_le _⟩ (Nat.le_of_ble_eq_true rfl) (fun r14 _ => ?_)
    refine g_goto (tgt := 26) hX (dc_X12_amount 11 rfl) (by decide) ?_
    exact g_sub [1, 2, 3, 0] rfl (c_X12_amount_26 hX hO hΩ (x1) (x2) ((sI r12 0 30)) (r14.1) r14.2)
  · refine g_iconst (w := (0 : Int32)) hX (dc_X12_amount 12 rfl) (by decide) ?_
    exact g_sub [1, 2, 3, 0] rfl (c_X12_amount_26 hX hO hΩ (x1) (x2) ((sI r12 0 30)) ((0 : Int32)) r12)
def f_X12_amount (x1 : Int32) (x2 : Int32) (σ : MS) : Option (Int32 × MS) := b_X12_amount_0  x1 x2 σ
theorem con_X12_amount {Ω : OM} (hO : OKO Ω) (hΩ : oSH Ω = SHM) (x1 : Int32) (x2 : Int32) (σ : MS)  : Con Ω yX12_amount cX12_amount 5 (some .int) rm_X12_amount (emWI) [.ref 0, .int x1, .int x2] σ (f_X12_amount x1 x2 σ) :=
  con_of hO (by decide +kernel) (Nat.le_of_ble_eq_true rfl) rfl (fun X hX _ => c_X12_amount_0 hX hO hΩ   x1 x2 σ )
def it_X12_duchyWord : List (Nat × Instr × Nat × Nat) := [(0, .iload_n 0, 1, 1), (1, .tableswitch 52 0 4 #[35, 39, 42, 45, 48], 35, 36), (36, .ldc_w 294, 3, 39), (39, .areturn, 1, 40), (40, .ldc 180, 2, 42), (42, .areturn, 1, 43), (43, .ldc 176, 2, 45), (45, .areturn, 1, 46), (46, .ldc 178, 2, 48), (48, .areturn, 1, 49), (49, .ldc_w 296, 3, 52), (52, .areturn, 1, 53), (53, .ldc_w 298, 3, 56), (56, .areturn, 1, 57)]
theorem id_X12_duchyWord : ∀ q ∈ it_X12_duchyWord, decode cX12_duchyWord q.1 = .ok (q.2.1, q.2.2.1) ∧ q.1 + q.2.2.1 = q.2.2.2 := by decide +kernel
theorem dc_X12_duchyWord {pc : Nat} {i : Instr} {n pc' : Nat} (j : Nat) (h : it_X12_duchyWord[j]? = some (pc, i, n, pc')) : Dc cX12_duchyWord pc i n pc' := dc_of id_X12_duchyWord j h
abbrev rm_X12_duchyWord : Room := { frames := 0, cells := 0, slots := 0, locals := 0 }
def b_X12_duchyWord_0   (x0 : Int32)   : Option (Nat) := (if x0 = (0 : Int32) then some 3 else (if x0 = (1 : Int32) then some 4 else (if x0 = (2 : Int32) then some 5 else (if x0 = (3 : Int32) then some 6 else (if x0 = (4 : Int32) then some 7 else some 8)))))
set_option maxHeartbeats 4000000 in
set_option maxRecDepth 20000 in
theorem c_X12_duchyWord_0 {X : CX} {Ω : OM} (hX : CF X Ω RX12 cX12_duchyWord 1 (some (.object "java/lang/String")) rm_X12_duchyWord) (hO : OKO Ω) (hΩ : oSH Ω = SHM)   (σ : MS)  (x0 : Int32)    : GE X Ω 1 0 0 (emPS σ) 0 0 0 [(0, .int x0)] [] σ (b_X12_duchyWord_0  x0) := by
  unfold b_X12_duchyWord_0
  refine g_iload_n hX (dc_X12_duchyWord 0 rfl) rfl 0 rfl ?_
  refine g_ite (fun h6 => ?_) (fun h6 => ?_)
  · refine g_tsIn (off := 35) (tgt := 36) hX (dc_X12_duchyWord 1 rfl) (by rw [h6]; decide) (by rw [h6]; decide) (by rw [h6]; rfl) (by decide) ?_
    refine g_ldcwS (i := 3) hX (dc_X12_duchyWord 2 rfl) (by decide) rfl ?_
    exact g_aret (r := some ((1000000 + 3))) hX (dc_X12_duchyWord 3 rfl) (Or.inl ⟨_, rfl⟩) rfl (Nat.le_refl _) (Nat.le_refl _)
  · refine g_ite (fun h7 => ?_) (fun h7 => ?_)
    · refine g_tsIn (off := 39) (tgt := 40) hX (dc_X12_duchyWord 1 rfl) (by rw [h7]; decide) (by rw [h7]; decide) (by rw [h7]; rfl) (by decide) ?_
      refine g_ldcS (i := 4) hX (dc_X12_duchyWord 4 rfl) (by decide) rfl ?_
      exact g_aret (r := some ((1000000 + 4))) hX (dc_X12_duchyWord 5 rfl) (Or.inl ⟨_, rfl⟩) rfl (Nat.le_refl _) (Nat.le_refl _)
    · refine g_ite (fun h8 => ?_) (fun h8 => ?_)
      · refine g_tsIn (off := 42) (tgt := 43) hX (dc_X12_duchyWord 1 rfl) (by rw [h8]; decide) (by rw [h8]; decide) (by rw [h8]; rfl) (by decide) ?_
        refine g_ldcS (i := 5) hX (dc_X12_duchyWord 6 rfl) (by decide) rfl ?_
        exact g_aret (r := some ((1000000 + 5))) hX (dc_X12_duchyWord 7 rfl) (Or.inl ⟨_, rfl⟩) rfl (Nat.le_refl _) (Nat.le_refl _)
      · refine g_ite (fun h9 => ?_) (fun h9 => ?_)
        · refine g_tsIn (off := 45) (tgt := 46) hX (dc_X12_duchyWord 1 rfl) (by rw [h9]; decide) (by rw [h9]; decide) (by rw [h9]; rfl) (by decide) ?_
          refine g_ldcS (i := 6) hX (dc_X12_duchyWord 8 rfl) (by decide) rfl ?_
          exact g_aret (r := some ((1000000 + 6))) hX (dc_X12_duchyWord 9 rfl) (Or.inl ⟨_, rfl⟩) rfl (Nat.le_refl _) (Nat.le_refl _)
        · refine g_ite (fun h10 => ?_) (fun h10 => ?_)
          · refine g_tsIn (off := 48) (tgt := 49) hX (dc_X12_duchyWord 1 rfl) (by rw [h10]; decide) (by rw [h10]; decide) (by rw [h10]; rfl) (by decide) ?_
            refine g_ldcwS (i := 7) hX (dc_X12_duchyWord 10 rfl) (by decide) rfl ?_
            exact g_aret (r := some ((1000000 + 7))) hX (dc_X12_duchyWord 11 rfl) (Or.inl ⟨_, rfl⟩) rfl (Nat.le_refl _) (Nat.le_refl _)
          · refine g_tsOut (tgt := 53) hX (dc_X12_duchyWord 1 rfl) (by have e0 := i32ne h6 (k := 0) (by decide); have e1 := i32ne h7 (k := 1) (by decide); have e2 := i32ne h8 (k := 2) (by decide); have e3 := i32ne h9 (k := 3) (by decide); have e4 := i32ne h10 (k := 4) (by decide); omega) (by decide) ?_
            refine g_ldcwS (i := 8) hX (dc_X12_duchyWord 12 rfl) (by decide) rfl ?_
            exact g_aret (r := some ((1000000 + 8))) hX (dc_X12_duchyWord 13 rfl) (Or.inl ⟨_, rfl⟩) rfl (Nat.le_refl _) (Nat.le_refl _)
def f_X12_duchyWord (x0 : Int32)  : Option (Nat) := b_X12_duchyWord_0  x0 
theorem con_X12_duchyWord {Ω : OM} (hO : OKO Ω) (hΩ : oSH Ω = SHM) (x0 : Int32) (σ : MS)  : Con Ω yX12_duchyWord cX12_duchyWord 1 (some (.object "java/lang/String")) rm_X12_duchyWord (emPS σ) [.int x0] σ (f_X12_duchyWord x0 ) :=
  con_of hO (by decide +kernel) (Nat.le_of_ble_eq_true rfl) rfl (fun X hX _ => c_X12_duchyWord_0 hX hO hΩ   σ x0)
def it_X12_newHeldBy : List (Nat × Instr × Nat × Nat) := [(0, .iconst 0, 1, 1), (1, .istore_n 2, 1, 2), (2, .iconst 0, 1, 3), (3, .istore_n 3, 1, 4), (4, .iload_n 3, 1, 5), (5, .aload_n 0, 1, 6), (6, .getfield 61, 3, 9), (9, .iconst 4, 1, 10), (10, .iaload, 1, 11), (11, .if_icmp .ge 27, 3, 14), (14, .iload_n 2, 1, 15), (15, .aload_n 0, 1, 16), (16, .getfield 85, 3, 19), (19, .iload_n 3, 1, 20), (20, .iaload, 1, 21), (21, .iload_n 1, 1, 22), (22, .if_icmp .ne 7, 3, 25), (25, .iconst 1, 1, 26), (26, .goto 4, 3, 29), (29, .iconst 0, 1, 30), (30, .iadd, 1, 31), (31, .istore_n 2, 1, 32), (32, .iinc 3 1, 3, 35), (35, .goto (-31), 3, 38), (38, .iload_n 2, 1, 39), (39, .ireturn, 1, 40)]
theorem id_X12_newHeldBy : ∀ q ∈ it_X12_newHeldBy, decode cX12_newHeldBy q.1 = .ok (q.2.1, q.2.2.1) ∧ q.1 + q.2.2.1 = q.2.2.2 := by decide +kernel
theorem dc_X12_newHeldBy {pc : Nat} {i : Instr} {n pc' : Nat} (j : Nat) (h : it_X12_newHeldBy[j]? = some (pc, i, n, pc')) : Dc cX12_newHeldBy pc i n pc' := dc_of id_X12_newHeldBy j h
abbrev rm_X12_newHeldBy : Room := { frames := 0, cells := 0, slots := 0, locals := 0 }
def b_X12_newHeldBy_30  (k4 : Int32 → Int32 → Int32 → MS → Option (Int32))  (y1 : Int32) (y3 : Int32) (s0 : Int32) (s1 : Int32) (σ : MS) : Option (Int32) := (k4 (y1) ((s1 + s0)) ((y3 + (1 : Int32))) σ)
set_option maxHeartbeats 4000000 in
set_option maxRecDepth 20000 in
theorem c_X12_newHeldBy_30 {X : CX} {Ω : OM} (hX : CF X Ω RX12 cX12_newHeldBy 4 (some .int) rm_X12_newHeldBy) (hO : OKO Ω) (hΩ : oSH Ω = SHM)   (σ : MS) (k4 : Int32 → Int32 → Int32 → MS → Option (Int32)) (hk4 : ∀ (y1 : Int32) (y2 : Int32) (y3 : Int32), GE X Ω 4 0 0 (emPI σ) 0 0 4 [(0, .ref 0), (1, .int y1), (2, .int y2), (3, .int y3)] [] σ (k4 y1 y2 y3 σ))  (y1 : Int32) (y3 : Int32) (s0 : Int32) (s1 : Int32)   : GE X Ω 4 0 0 (emPI σ) 0 0 30 [(0, .ref 0), (1, .int y1), (3, .int y3)] [.int s0, .int s1] σ (b_X12_newHeldBy_30  k4 y1 y3 s0 s1 σ) := by
  unfold b_X12_newHeldBy_30
  refine g_iadd hX (dc_X12_newHeldBy 20 rfl) ?_
  refine g_istore_n (L' := [(2, .int (s1 + s0)), (0, .ref 0), (1, .int y1), (3, .int y3)]) hX (dc_X12_newHeldBy 21 rfl) rfl (by decide) rfl ?_
  refine g_iinc (w := (y3 + (1 : Int32))) (L' := [(3, .int (y3 + (1 : Int32))), (2, .int (s1 + s0)), (0, .ref 0), (1, .int y1)]) hX (dc_X12_newHeldBy 22 rfl) 3 rfl rfl (by decide) rfl ?_
  refine g_goto (tgt := 4) hX (dc_X12_newHeldBy 23 rfl) (by decide) ?_
  exact g_sub [2, 3, 1, 0] rfl (hk4 (y1) ((s1 + s0)) ((y3 + (1 : Int32))) )
def b_X12_newHeldBy_4   : Nat → Int32 → Int32 → Int32 → MS → Option (Int32)
  | 0, _, _, _, _ => none
  | n + 1, y1, y2, y3, σ => (if (sI σ 18 4) ≤ y3 then some y2 else chk (inb y3 6) ((if (sI σ 26 (ix y3)) = y1 then (b_X12_newHeldBy_30 (b_X12_newHeldBy_4  n) (y1) (y3) ((1 : Int32)) (y2) σ) else (b_X12_newHeldBy_30 (b_X12_newHeldBy_4  n) (y1) (y3) ((0 : Int32)) (y2) σ))))
set_option maxHeartbeats 4000000 in
set_option maxRecDepth 20000 in
theorem c_X12_newHeldBy_4 {X : CX} {Ω : OM} (hX : CF X Ω RX12 cX12_newHeldBy 4 (some .int) rm_X12_newHeldBy) (hO : OKO Ω) (hΩ : oSH Ω = SHM)   (σ : MS)  : ∀ (n : Nat) (y1 : Int32) (y2 : Int32) (y3 : Int32)  , GE X Ω 4 0 0 (emPI σ) 0 0 4 [(0, .ref 0), (1, .int y1), (2, .int y2), (3, .int y3)] [] σ (b_X12_newHeldBy_4  n y1 y2 y3 σ)
  | 0, _, _, _ => g_none
  | n + 1, y1, y2, y3 => by
    have hk4 := c_X12_newHeldBy_4 hX hO hΩ  σ n
    unfold b_X12_newHeldBy_4
    refine g_iload_n hX (dc_X12_newHeldBy 4 rfl) rfl 3 rfl ?_
    refine g_aload_n hX (dc_X12_newHeldBy 5 rfl) rfl 0 rfl ?_
    refine g_getF (q := 18) hX (dc_X12_newHeldBy 6 rfl) fl_X12_61 (by decide) rfl (stS hΩ 0 rfl) rfl ?_
    refine g_iconst (w := (4 : Int32)) hX (dc_X12_newHeldBy 7 rfl) (by decide) ?_
    refine g_iald (j := 4) hX (dc_X12_newHeldBy 8 rfl) (stS hΩ 18 rfl) (by decide) (by decide) ?_
    refine g_icmp_ge (tgt := 38) hX (dc_X12_newHeldBy 9 rfl) (by decide) (fun h4 => ?_) (fun h4 => ?_)
    · refine g_iload_n hX (dc_X12_newHeldBy 24 rfl) rfl 2 rfl ?_
      exact g_iret hX (dc_X12_newHeldBy 25 rfl) rfl rfl (Nat.le_refl _) (Nat.le_refl _)
    · refine g_iload_n hX (dc_X12_newHeldBy 10 rfl) rfl 2 rfl ?_
      refine g_aload_n hX (dc_X12_newHeldBy 11 rfl) rfl 0 rfl ?_
      refine g_getF (q := 26) hX (dc_X12_newHeldBy 12 rfl) fl_X12_85 (by decide) rfl (stS hΩ 0 rfl) rfl ?_
      refine g_iload_n hX (dc_X12_newHeldBy 13 rfl) rfl 3 rfl ?_
      refine g_chk (fun hc5 => ?_)
      refine g_iald hX (dc_X12_newHeldBy 14 rfl) (stS hΩ 26 rfl) hc5 rfl ?_
      refine g_iload_n hX (dc_X12_newHeldBy 15 rfl) rfl 1 rfl ?_
      refine g_icmp_ne (tgt := 29) hX (dc_X12_newHeldBy 16 rfl) (by decide) (fun h6 => ?_) (fun h6 => ?_)
      · refine g_iconst (w := (1 : Int32)) hX (dc_X12_newHeldBy 17 rfl) (by decide) ?_
        refine g_goto (tgt := 30) hX (dc_X12_newHeldBy 18 rfl) (by decide) ?_
        exact g_sub [0, 1, 3] rfl (c_X12_newHeldBy_30 hX hO hΩ σ _ hk4 (y1) (y3) ((1 : Int32)) (y2))
      · refine g_iconst (w := (0 : Int32)) hX (dc_X12_newHeldBy 19 rfl) (by decide) ?_
        exact g_sub [0, 1, 3] rfl (c_X12_newHeldBy_30 hX hO hΩ σ _ hk4 (y1) (y3) ((0 : Int32)) (y2))
def b_X12_newHeldBy_0   (x1 : Int32)  (σ : MS) : Option (Int32) := (b_X12_newHeldBy_4 FU (x1) ((0 : Int32)) ((0 : Int32)) σ)
set_option maxHeartbeats 4000000 in
set_option maxRecDepth 20000 in
theorem c_X12_newHeldBy_0 {X : CX} {Ω : OM} (hX : CF X Ω RX12 cX12_newHeldBy 4 (some .int) rm_X12_newHeldBy) (hO : OKO Ω) (hΩ : oSH Ω = SHM)   (σ : MS)  (x1 : Int32)    : GE X Ω 4 0 0 (emPI σ) 0 0 0 [(0, .ref 0), (1, .int x1)] [] σ (b_X12_newHeldBy_0  x1 σ) := by
  unfold b_X12_newHeldBy_0
  refine g_iconst (w := (0 : Int32)) hX (dc_X12_newHeldBy 0 rfl) (by decide) ?_
  refine g_istore_n (L' := [(2, .int (0 : Int32)), (0, .ref 0), (1, .int x1)]) hX (dc_X12_newHeldBy 1 rfl) rfl (by decide) rfl ?_
  refine g_iconst (w := (0 : Int32)) hX (dc_X12_newHeldBy 2 rfl) (by decide) ?_
  refine g_istore_n (L' := [(3, .int (0 : Int32)), (2, .int (0 : Int32)), (0, .ref 0), (1, .int x1)]) hX (dc_X12_newHeldBy 3 rfl) rfl (by decide) rfl ?_
  exact g_sub [2, 3, 1, 0] rfl (c_X12_newHeldBy_4 hX hO hΩ σ FU (x1) ((0 : Int32)) ((0 : Int32)))
def f_X12_newHeldBy (x1 : Int32) (σ : MS) : Option (Int32) := b_X12_newHeldBy_0  x1 σ
theorem con_X12_newHeldBy {Ω : OM} (hO : OKO Ω) (hΩ : oSH Ω = SHM) (x1 : Int32) (σ : MS)  : Con Ω yX12_newHeldBy cX12_newHeldBy 4 (some .int) rm_X12_newHeldBy (emPI σ) [.ref 0, .int x1] σ (f_X12_newHeldBy x1 σ) :=
  con_of hO (by decide +kernel) (Nat.le_of_ble_eq_true rfl) rfl (fun X hX _ => c_X12_newHeldBy_0 hX hO hΩ   σ x1)
def it_X12_readsHeld : List (Nat × Instr × Nat × Nat) := [(0, .aload_n 0, 1, 1), (1, .iconst 0, 1, 2), (2, .aload_n 0, 1, 3), (3, .getfield 61, 3, 6), (6, .iconst 4, 1, 7), (7, .iaload, 1, 8), (8, .iconst 1, 1, 9), (9, .isub, 1, 10), (10, .invokevirtual 299, 3, 13), (13, .istore_n 1, 1, 14), (14, .aload_n 0, 1, 15), (15, .invokevirtual 219, 3, 18), (18, .aload_n 0, 1, 19), (19, .getfield 199, 3, 22), (22, .istore_n 2, 1, 23), (23, .aload_n 0, 1, 24), (24, .iconst 0, 1, 25), (25, .aload_n 0, 1, 26), (26, .getfield 61, 3, 29), (29, .iconst 3, 1, 30), (30, .iaload, 1, 31), (31, .iconst 1, 1, 32), (32, .isub, 1, 33), (33, .invokevirtual 299, 3, 36), (36, .istore_n 3, 1, 37), (37, .aload_n 0, 1, 38), (38, .getfield 196, 3, 41), (41, .ifCond .le 4, 3, 44), (44, .return_, 1, 45), (45, .aload_n 0, 1, 46), (46, .getfield 85, 3, 49), (49, .iload_n 1, 1, 50), (50, .iaload, 1, 51), (51, .iconst (-1), 1, 52), (52, .if_icmp .ne 17, 3, 55), (55, .aload_n 0, 1, 56), (56, .iload_n 3, 1, 57), (57, .invokevirtual 303, 3, 60), (60, .aload_n 0, 1, 61), (61, .getfield 79, 3, 64), (64, .iload_n 3, 1, 65), (65, .iaload, 1, 66), (66, .if_icmp .lt 10, 3, 69), (69, .aload_n 0, 1, 70), (70, .iconst 1, 1, 71), (71, .iload_n 2, 1, 72), (72, .invokevirtual 235, 3, 75), (75, .return_, 1, 76), (76, .aload_n 0, 1, 77), (77, .getfield 85, 3, 80), (80, .iload_n 1, 1, 81), (81, .iload_n 3, 1, 82), (82, .iastore, 1, 83), (83, .return_, 1, 84)]
theorem id_X12_readsHeld : ∀ q ∈ it_X12_readsHeld, decode cX12_readsHeld q.1 = .ok (q.2.1, q.2.2.1) ∧ q.1 + q.2.2.1 = q.2.2.2 := by decide +kernel
theorem dc_X12_readsHeld {pc : Nat} {i : Instr} {n pc' : Nat} (j : Nat) (h : it_X12_readsHeld[j]? = some (pc, i, n, pc')) : Dc cX12_readsHeld pc i n pc' := dc_of id_X12_readsHeld j h
abbrev rm_X12_readsHeld : Room := { frames := 4, cells := 0, slots := 0, locals := 92 }
def b_X12_readsHeld_69    (y2 : Int32) (σ : MS) : Option (MS) := (f_X12_fails (1 : Int32) y2 σ).bind (fun r12 => some (r12))
set_option maxHeartbeats 4000000 in
set_option maxRecDepth 20000 in
theorem c_X12_readsHeld_69 {X : CX} {Ω : OM} (hX : CF X Ω RX12 cX12_readsHeld 4 none rm_X12_readsHeld) (hO : OKO Ω) (hΩ : oSH Ω = SHM)     (y2 : Int32) (σ : MS)  : GE X Ω 4 0 0 (emWV) 0 0 69 [(0, .ref 0), (2, .int y2)] [] σ (b_X12_readsHeld_69  y2 σ) := by
  unfold b_X12_readsHeld_69
  refine g_aload_n hX (dc_X12_readsHeld 43 rfl) rfl 0 rfl ?_
  refine g_iconst (w := (1 : Int32)) hX (dc_X12_readsHeld 44 rfl) (by decide) ?_
  refine g_iload_n hX (dc_X12_readsHeld 45 rfl) rfl 1 rfl ?_
  refine gV_WV (As := [.int (1 : Int32), .int y2]) (st := []) hX (dc_X12_readsHeld 46 rfl) ml_X12_235 (con_X12_fails hO hΩ (1 : Int32) y2 σ) (stS hΩ 0 rfl) rfl rfl ⟨by decide, by decide⟩ ⟨rfl, rfl⟩ ⟨Nat.zero_le _, Nat.zero_le _⟩ (Nat.le_of_ble_eq_true rfl) (fun r12 _ => ?_)
  exact g_vret hX (dc_X12_readsHeld 47 rfl) rfl (Nat.le_refl _) (Nat.le_refl _)
def b_X12_readsHeld_0     (σ : MS) : Option (MS) := (f_X12_amount (0 : Int32) ((sI σ 18 4) - (1 : Int32)) σ).bind (fun r13 => (f_X12_blanks r13.2).bind (fun r14 => (f_X12_amount (0 : Int32) ((sI r14 18 3) - (1 : Int32)) r14).bind (fun r15 => (if (sI r15.2 0 31) ≤ 0 then chk (inb r13.1 6) ((if (sI r15.2 26 (ix r13.1)) = (-1 : Int32) then (f_X12_newHeldBy r15.1 r15.2).bind (fun r19 => chk (inb r15.1 4) ((if r19 < (sI r15.2 24 (ix r15.1)) then chk (inb r13.1 6) (some ((wI r15.2 26 (ix r13.1) r15.1))) else (b_X12_readsHeld_69 ((sI r14 0 30)) r15.2)))) else (b_X12_readsHeld_69 ((sI r14 0 30)) r15.2))) else some (r15.2)))))
set_option maxHeartbeats 4000000 in
set_option maxRecDepth 20000 in
theorem c_X12_readsHeld_0 {X : CX} {Ω : OM} (hX : CF X Ω RX12 cX12_readsHeld 4 none rm_X12_readsHeld) (hO : OKO Ω) (hΩ : oSH Ω = SHM)      (σ : MS)  : GE X Ω 4 0 0 (emWV) 0 0 0 [(0, .ref 0)] [] σ (b_X12_readsHeld_0  σ) := by
  unfold b_X12_readsHeld_0
  refine g_aload_n hX (dc_X12_readsHeld 0 rfl) rfl 0 rfl ?_
  refine g_iconst (w := (0 : Int32)) hX (dc_X12_readsHeld 1 rfl) (by decide) ?_
  refine g_aload_n hX (dc_X12_readsHeld 2 rfl) rfl 0 rfl ?_
  refine g_getF (q := 18) hX (dc_X12_readsHeld 3 rfl) fl_X12_61 (by decide) rfl (stS hΩ 0 rfl) rfl ?_
  refine g_iconst (w := (4 : Int32)) hX (dc_X12_readsHeld 4 rfl) (by decide) ?_
  refine g_iald (j := 4) hX (dc_X12_readsHeld 5 rfl) (stS hΩ 18 rfl) (by decide) (by decide) ?_
  refine g_iconst (w := (1 : Int32)) hX (dc_X12_readsHeld 6 rfl) (by decide) ?_
  refine g_isub hX (dc_X12_readsHeld 7 rfl) ?_
  refine gV_WI (As := [.int (0 : Int32), .int ((sI σ 18 4) - (1 : Int32))]) (st := []) hX (dc_X12_readsHeld 8 rfl) ml_X12_299 (con_X12_amount hO hΩ (0 : Int32) ((sI σ 18 4) - (1 : Int32)) σ) (stS hΩ 0 rfl) rfl rfl ⟨by decide, by decide⟩ ⟨rfl, rfl⟩ ⟨Nat.zero_le _, Nat.zero_le _⟩ (Nat.le_of_ble_eq_true rfl) (fun r13 _ => ?_)
  refine g_istore_n (L' := [(1, .int r13.1), (0, .ref 0)]) hX (dc_X12_readsHeld 9 rfl) rfl (by decide) rfl ?_
  refine g_aload_n hX (dc_X12_readsHeld 10 rfl) rfl 1 rfl ?_
  refine gV_WV (As := []) (st := []) hX (dc_X12_readsHeld 11 rfl) ml_X12_219 (con_X12_blanks hO hΩ r13.2) (stS hΩ 0 rfl) rfl rfl ⟨by decide, by decide⟩ ⟨rfl, rfl⟩ ⟨Nat.zero_le _, Nat.zero_le _⟩ (Nat.le_of_ble_eq_true rfl) (fun r14 _ => ?_)
  refine g_aload_n hX (dc_X12_readsHeld 12 rfl) rfl 1 rfl ?_
  refine g_getI hX (dc_X12_readsHeld 13 rfl) fl_X12_199 (by decide) rfl (stS hΩ 0 rfl) ?_
  refine g_istore_n (L' := [(2, .int (sI r14 0 30)), (1, .int r13.1), (0, .ref 0)]) hX (dc_X12_readsHeld 14 rfl) rfl (by decide) rfl ?_
  refine g_aload_n hX (dc_X12_readsHeld 15 rfl) rfl 2 rfl ?_
  refine g_iconst (w := (0 : Int32)) hX (dc_X12_readsHeld 16 rfl) (by decide) ?_
  refine g_aload_n hX (dc_X12_readsHeld 17 rfl) rfl 2 rfl ?_
  refine g_getF (q := 18) hX (dc_X12_readsHeld 18 rfl) fl_X12_61 (by decide) rfl (stS hΩ 0 rfl) rfl ?_
  refine g_iconst (w := (3 : Int32)) hX (dc_X12_readsHeld 19 rfl) (by decide) ?_
  refine g_iald (j := 3) hX (dc_X12_readsHeld 20 rfl) (stS hΩ 18 rfl) (by decide) (by decide) ?_
  refine g_iconst (w := (1 : Int32)) hX (dc_X12_readsHeld 21 rfl) (by decide) ?_
  refine g_isub hX (dc_X12_readsHeld 22 rfl) ?_
  refine gV_WI (As := [.int (0 : Int32), .int ((sI r14 18 3) - (1 : Int32))]) (st := []) hX (dc_X12_readsHeld 23 rfl) ml_X12_299 (con_X12_amount hO hΩ (0 : Int32) ((sI r14 18 3) - (1 : Int32)) r14) (stS hΩ 0 rfl) rfl rfl ⟨by decide, by decide⟩ ⟨rfl, rfl⟩ ⟨Nat.zero_le _, Nat.zero_le _⟩ (Nat.le_of_ble_eq_true rfl) (fun r15 _ => ?_)
  refine g_istore_n (L' := [(3, .int r15.1), (2, .int (sI r14 0 30)), (1, .int r13.1), (0, .ref 0)]) hX (dc_X12_readsHeld 24 rfl) rfl (by decide) rfl ?_
  refine g_aload_n hX (dc_X12_readsHeld 25 rfl) rfl 3 rfl ?_
  refine g_getI hX (dc_X12_readsHeld 26 rfl) fl_X12_196 (by decide) rfl (stS hΩ 0 rfl) ?_
  refine g_if_le (tgt := 45) hX (dc_X12_readsHeld 27 rfl) (by decide) (fun h16 => ?_) (fun h16 => ?_)
  · refine g_aload_n hX (dc_X12_readsHeld 29 rfl) rfl 3 rfl ?_
    refine g_getF (q := 26) hX (dc_X12_readsHeld 30 rfl) fl_X12_85 (by decide) rfl (stS hΩ 0 rfl) rfl ?_
    refine g_iload_n hX (dc_X12_readsHeld 31 rfl) rfl 2 rfl ?_
    refine g_chk (fun hc17 => ?_)
    refine g_iald hX (dc_X12_readsHeld 32 rfl) (stS hΩ 26 rfl) hc17 rfl ?_
    refine g_iconst (w := (-1 : Int32)) hX (dc_X12_readsHeld 33 rfl) (by decide) ?_
    refine g_icmp_ne (tgt := 69) hX (dc_X12_readsHeld 34 rfl) (by decide) (fun h18 => ?_) (fun h18 => ?_)
    · refine g_aload_n hX (dc_X12_readsHeld 35 rfl) rfl 3 rfl ?_
      refine g_iload_n hX (dc_X12_readsHeld 36 rfl) rfl 0 rfl ?_
      refine gV_PI (As := [.int r15.1]) (st := []) hX (dc_X12_readsHeld 37 rfl) ml_X12_303 (con_X12_newHeldBy hO hΩ r15.1 r15.2) (stS hΩ 0 rfl) rfl rfl ⟨by decide, by decide⟩ ⟨rfl, rfl⟩ ⟨Nat.zero_le _, Nat.zero_le _⟩ (Nat.le_of_ble_eq_true rfl) (fun r19 _ => ?_)
      refine g_aload_n hX (dc_X12_readsHeld 38 rfl) rfl 3 rfl ?_
      refine g_getF (q := 24) hX (dc_X12_readsHeld 39 rfl) fl_X12_79 (by decide) rfl (stS hΩ 0 rfl) rfl ?_
      refine g_iload_n hX (dc_X12_readsHeld 40 rfl) rfl 0 rfl ?_
      refine g_chk (fun hc20 => ?_)
      refine g_iald hX (dc_X12_readsHeld 41 rfl) (stS hΩ 24 rfl) hc20 rfl ?_
      refine g_icmp_lt (tgt := 76) hX (dc_X12_readsHeld 42 rfl) (by decide) (fun h21 => ?_) (fun h21 => ?_)
      · refine g_aload_n hX (dc_X12_readsHeld 48 rfl) rfl 3 rfl ?_
        refine g_getF (q := 26) hX (dc_X12_readsHeld 49 rfl) fl_X12_85 (by decide) rfl (stS hΩ 0 rfl) rfl ?_
        refine g_iload_n hX (dc_X12_readsHeld 50 rfl) rfl 2 rfl ?_
        refine g_iload_n hX (dc_X12_readsHeld 51 rfl) rfl 0 rfl ?_
        refine g_chk (fun hc22 => ?_)
        refine g_iast hX (dc_X12_readsHeld 52 rfl) (stS hΩ 26 rfl) hc22 rfl ?_
        exact g_vret hX (dc_X12_readsHeld 53 rfl) rfl (Nat.le_refl _) (Nat.le_refl _)
      · exact g_sub [3, 1] rfl (c_X12_readsHeld_69 hX hO hΩ ((sI r14 0 30)) r15.2)
    · exact g_sub [3, 1] rfl (c_X12_readsHeld_69 hX hO hΩ ((sI r14 0 30)) r15.2)
  · exact g_vret hX (dc_X12_readsHeld 28 rfl) rfl (Nat.le_refl _) (Nat.le_refl _)
def f_X12_readsHeld  (σ : MS) : Option (MS) := b_X12_readsHeld_0   σ
theorem con_X12_readsHeld {Ω : OM} (hO : OKO Ω) (hΩ : oSH Ω = SHM)  (σ : MS)  : Con Ω yX12_readsHeld cX12_readsHeld 4 none rm_X12_readsHeld (emWV) [.ref 0] σ (f_X12_readsHeld  σ) :=
  con_of hO (by decide +kernel) (Nat.le_of_ble_eq_true rfl) rfl (fun X hX _ => c_X12_readsHeld_0 hX hO hΩ    σ )
def it_X12_readsAfter : List (Nat × Instr × Nat × Nat) := [(0, .aload_n 0, 1, 1), (1, .iconst 0, 1, 2), (2, .aload_n 0, 1, 3), (3, .getfield 61, 3, 6), (6, .iconst 4, 1, 7), (7, .iaload, 1, 8), (8, .iconst 1, 1, 9), (9, .isub, 1, 10), (10, .invokevirtual 299, 3, 13), (13, .istore_n 1, 1, 14), (14, .aload_n 0, 1, 15), (15, .invokevirtual 219, 3, 18), (18, .aload_n 0, 1, 19), (19, .getfield 199, 3, 22), (22, .istore_n 2, 1, 23), (23, .aload_n 0, 1, 24), (24, .iconst 0, 1, 25), (25, .aload_n 0, 1, 26), (26, .getfield 61, 3, 29), (29, .iconst 4, 1, 30), (30, .iaload, 1, 31), (31, .iconst 1, 1, 32), (32, .isub, 1, 33), (33, .invokevirtual 299, 3, 36), (36, .istore_n 3, 1, 37), (37, .aload_n 0, 1, 38), (38, .getfield 196, 3, 41), (41, .ifCond .ne 14, 3, 44), (44, .iload_n 1, 1, 45), (45, .iload_n 3, 1, 46), (46, .if_icmp .ne 9, 3, 49), (49, .aload_n 0, 1, 50), (50, .iconst 1, 1, 51), (51, .iload_n 2, 1, 52), (52, .invokevirtual 235, 3, 55), (55, .aload_n 0, 1, 56), (56, .getfield 196, 3, 59), (59, .ifCond .ne 15, 3, 62), (62, .aload_n 0, 1, 63), (63, .getfield 88, 3, 66), (66, .iload_n 1, 1, 67), (67, .dup2, 1, 68), (68, .iaload, 1, 69), (69, .iconst 1, 1, 70), (70, .iload_n 3, 1, 71), (71, .ishl, 1, 72), (72, .ior, 1, 73), (73, .iastore, 1, 74), (74, .return_, 1, 75)]
theorem id_X12_readsAfter : ∀ q ∈ it_X12_readsAfter, decode cX12_readsAfter q.1 = .ok (q.2.1, q.2.2.1) ∧ q.1 + q.2.2.1 = q.2.2.2 := by decide +kernel
theorem dc_X12_readsAfter {pc : Nat} {i : Instr} {n pc' : Nat} (j : Nat) (h : it_X12_readsAfter[j]? = some (pc, i, n, pc')) : Dc cX12_readsAfter pc i n pc' := dc_of id_X12_readsAfter j h
abbrev rm_X12_readsAfter : Room := { frames := 4, cells := 0, slots := 0, locals := 92 }
def b_X12_readsAfter_74     (σ : MS) : Option (MS) := some (σ)
set_option maxHeartbeats 4000000 in
set_option maxRecDepth 20000 in
theorem c_X12_readsAfter_74 {X : CX} {Ω : OM} (hX : CF X Ω RX12 cX12_readsAfter 4 none rm_X12_readsAfter) (hO : OKO Ω) (hΩ : oSH Ω = SHM)      (σ : MS)  : GE X Ω 4 0 0 (emWV) 0 0 74 [] [] σ (b_X12_readsAfter_74  σ) := by
  unfold b_X12_readsAfter_74
  exact g_vret hX (dc_X12_readsAfter 48 rfl) rfl (Nat.le_refl _) (Nat.le_refl _)
def b_X12_readsAfter_55    (y1 : Int32) (y3 : Int32) (σ : MS) : Option (MS) := (if (sI σ 0 31) = 0 then chk (inb y1 6) (chk (inb y1 6) ((b_X12_readsAfter_74 (wI σ 27 (ix y1) ((sI σ 27 (ix y1)) ||| ((1 : Int32) <<< (y3 &&& 31))))))) else (b_X12_readsAfter_74 σ))
set_option maxHeartbeats 4000000 in
set_option maxRecDepth 20000 in
theorem c_X12_readsAfter_55 {X : CX} {Ω : OM} (hX : CF X Ω RX12 cX12_readsAfter 4 none rm_X12_readsAfter) (hO : OKO Ω) (hΩ : oSH Ω = SHM)     (y1 : Int32) (y3 : Int32) (σ : MS)  : GE X Ω 4 0 0 (emWV) 0 0 55 [(0, .ref 0), (1, .int y1), (3, .int y3)] [] σ (b_X12_readsAfter_55  y1 y3 σ) := by
  unfold b_X12_readsAfter_55
  refine g_aload_n hX (dc_X12_readsAfter 35 rfl) rfl 0 rfl ?_
  refine g_getI hX (dc_X12_readsAfter 36 rfl) fl_X12_196 (by decide) rfl (stS hΩ 0 rfl) ?_
  refine g_if_ne (tgt := 74) hX (dc_X12_readsAfter 37 rfl) (by decide) (fun h10 => ?_) (fun h10 => ?_)
  · refine g_aload_n hX (dc_X12_readsAfter 38 rfl) rfl 0 rfl ?_
    refine g_getF (q := 27) hX (dc_X12_readsAfter 39 rfl) fl_X12_88 (by decide) rfl (stS hΩ 0 rfl) rfl ?_
    refine g_iload_n hX (dc_X12_readsAfter 40 rfl) rfl 1 rfl ?_
    refine g_dup2 hX (dc_X12_readsAfter 41 rfl) rfl rfl ?_
    refine g_chk (fun hc11 => ?_)
    refine g_iald hX (dc_X12_readsAfter 42 rfl) (stS hΩ 27 rfl) hc11 rfl ?_
    refine g_iconst (w := (1 : Int32)) hX (dc_X12_readsAfter 43 rfl) (by decide) ?_
    refine g_iload_n hX (dc_X12_readsAfter 44 rfl) rfl 2 rfl ?_
    refine g_ishl hX (dc_X12_readsAfter 45 rfl) ?_
    refine g_ior hX (dc_X12_readsAfter 46 rfl) ?_
    refine g_chk (fun hc12 => ?_)
    refine g_iast hX (dc_X12_readsAfter 47 rfl) (stS hΩ 27 rfl) hc12 rfl ?_
    exact g_sub [] rfl (c_X12_readsAfter_74 hX hO hΩ (wI σ 27 (ix y1) ((sI σ 27 (ix y1)) ||| ((1 : Int32) <<< (y3 &&& 31)))))
  · exact g_sub [] rfl (c_X12_readsAfter_74 hX hO hΩ σ)
def b_X12_readsAfter_0     (σ : MS) : Option (MS) := (f_X12_amount (0 : Int32) ((sI σ 18 4) - (1 : Int32)) σ).bind (fun r13 => (f_X12_blanks r13.2).bind (fun r14 => (f_X12_amount (0 : Int32) ((sI r14 18 4) - (1 : Int32)) r14).bind (fun r15 => (if (sI r15.2 0 31) = 0 then (if r13.1 = r15.1 then (f_X12_fails (1 : Int32) (sI r14 0 30) r15.2).bind (fun r18 => (b_X12_readsAfter_55 (r13.1) (r15.1) r18)) else (b_X12_readsAfter_55 (r13.1) (r15.1) r15.2)) else (b_X12_readsAfter_55 (r13.1) (r15.1) r15.2)))))
set_option maxHeartbeats 4000000 in
set_option maxRecDepth 20000 in
theorem c_X12_readsAfter_0 {X : CX} {Ω : OM} (hX : CF X Ω RX12 cX12_readsAfter 4 none rm_X12_readsAfter) (hO : OKO Ω) (hΩ : oSH Ω = SHM)      (σ : MS)  : GE X Ω 4 0 0 (emWV) 0 0 0 [(0, .ref 0)] [] σ (b_X12_readsAfter_0  σ) := by
  unfold b_X12_readsAfter_0
  refine g_aload_n hX (dc_X12_readsAfter 0 rfl) rfl 0 rfl ?_
  refine g_iconst (w := (0 : Int32)) hX (dc_X12_readsAfter 1 rfl) (by decide) ?_
  refine g_aload_n hX (dc_X12_readsAfter 2 rfl) rfl 0 rfl ?_
  refine g_getF (q := 18) hX (dc_X12_readsAfter 3 rfl) fl_X12_61 (by decide) rfl (stS hΩ 0 rfl) rfl ?_
  refine g_iconst (w := (4 : Int32)) hX (dc_X12_readsAfter 4 rfl) (by decide) ?_
  refine g_iald (j := 4) hX (dc_X12_readsAfter 5 rfl) (stS hΩ 18 rfl) (by decide) (by decide) ?_
  refine g_iconst (w := (1 : Int32)) hX (dc_X12_readsAfter 6 rfl) (by decide) ?_
  refine g_isub hX (dc_X12_readsAfter 7 rfl) ?_
  refine gV_WI (As := [.int (0 : Int32), .int ((sI σ 18 4) - (1 : Int32))]) (st := []) hX (dc_X12_readsAfter 8 rfl) ml_X12_299 (con_X12_amount hO hΩ (0 : Int32) ((sI σ 18 4) - (1 : Int32)) σ) (stS hΩ 0 rfl) rfl rfl ⟨by decide, by decide⟩ ⟨rfl, rfl⟩ ⟨Nat.zero_le _, Nat.zero_le _⟩ (Nat.le_of_ble_eq_true rfl) (fun r13 _ => ?_)
  refine g_istore_n (L' := [(1, .int r13.1), (0, .ref 0)]) hX (dc_X12_readsAfter 9 rfl) rfl (by decide) rfl ?_
  refine g_aload_n hX (dc_X12_readsAfter 10 rfl) rfl 1 rfl ?_
  refine gV_WV (As := []) (st := []) hX (dc_X12_readsAfter 11 rfl) ml_X12_219 (con_X12_blanks hO hΩ r13.2) (stS hΩ 0 rfl) rfl rfl ⟨by decide, by decide⟩ ⟨rfl, rfl⟩ ⟨Nat.zero_le _, Nat.zero_le _⟩ (Nat.le_of_ble_eq_true rfl) (fun r14 _ => ?_)
  refine g_aload_n hX (dc_X12_readsAfter 12 rfl) rfl 1 rfl ?_
  refine g_getI hX (dc_X12_readsAfter 13 rfl) fl_X12_199 (by decide) rfl (stS hΩ 0 rfl) ?_
  refine g_istore_n (L' := [(2, .int (sI r14 0 30)), (1, .int r13.1), (0, .ref 0)]) hX (dc_X12_readsAfter 14 rfl) rfl (by decide) rfl ?_
  refine g_aload_n hX (dc_X12_readsAfter 15 rfl) rfl 2 rfl ?_
  refine g_iconst (w := (0 : Int32)) hX (dc_X12_readsAfter 16 rfl) (by decide) ?_
  refine g_aload_n hX (dc_X12_readsAfter 17 rfl) rfl 2 rfl ?_
  refine g_getF (q := 18) hX (dc_X12_readsAfter 18 rfl) fl_X12_61 (by decide) rfl (stS hΩ 0 rfl) rfl ?_
  refine g_iconst (w := (4 : Int32)) hX (dc_X12_readsAfter 19 rfl) (by decide) ?_
  refine g_iald (j := 4) hX (dc_X12_readsAfter 20 rfl) (stS hΩ 18 rfl) (by decide) (by decide) ?_
  refine g_iconst (w := (1 : Int32)) hX (dc_X12_readsAfter 21 rfl) (by decide) ?_
  refine g_isub hX (dc_X12_readsAfter 22 rfl) ?_
  refine gV_WI (As := [.int (0 : Int32), .int ((sI r14 18 4) - (1 : Int32))]) (st := []) hX (dc_X12_readsAfter 23 rfl) ml_X12_299 (con_X12_amount hO hΩ (0 : Int32) ((sI r14 18 4) - (1 : Int32)) r14) (stS hΩ 0 rfl) rfl rfl ⟨by decide, by decide⟩ ⟨rfl, rfl⟩ ⟨Nat.zero_le _, Nat.zero_le _⟩ (Nat.le_of_ble_eq_true rfl) (fun r15 _ => ?_)
  refine g_istore_n (L' := [(3, .int r15.1), (2, .int (sI r14 0 30)), (1, .int r13.1), (0, .ref 0)]) hX (dc_X12_readsAfter 24 rfl) rfl (by decide) rfl ?_
  refine g_aload_n hX (dc_X12_readsAfter 25 rfl) rfl 3 rfl ?_
  refine g_getI hX (dc_X12_readsAfter 26 rfl) fl_X12_196 (by decide) rfl (stS hΩ 0 rfl) ?_
  refine g_if_ne (tgt := 55) hX (dc_X12_readsAfter 27 rfl) (by decide) (fun h16 => ?_) (fun h16 => ?_)
  · refine g_iload_n hX (dc_X12_readsAfter 28 rfl) rfl 2 rfl ?_
    refine g_iload_n hX (dc_X12_readsAfter 29 rfl) rfl 0 rfl ?_
    refine g_icmp_ne (tgt := 55) hX (dc_X12_readsAfter 30 rfl) (by decide) (fun h17 => ?_) (fun h17 => ?_)
    · refine g_aload_n hX (dc_X12_readsAfter 31 rfl) rfl 3 rfl ?_
      refine g_iconst (w := (1 : Int32)) hX (dc_X12_readsAfter 32 rfl) (by decide) ?_
      refine g_iload_n hX (dc_X12_readsAfter 33 rfl) rfl 1 rfl ?_
      refine gV_WV (As := [.int (1 : Int32), .int (sI r14 0 30)]) (st := []) hX (dc_X12_readsAfter 34 rfl) ml_X12_235 (con_X12_fails hO hΩ (1 : Int32) (sI r14 0 30) r15.2) (stS hΩ 0 rfl) rfl rfl ⟨by decide, by decide⟩ ⟨rfl, rfl⟩ ⟨Nat.zero_le _, Nat.zero_le _⟩ (Nat.le_of_ble_eq_true rfl) (fun r18 _ => ?_)
      exact g_sub [3, 2, 0] rfl (c_X12_readsAfter_55 hX hO hΩ (r13.1) (r15.1) r18)
    · exact g_sub [3, 2, 0] rfl (c_X12_readsAfter_55 hX hO hΩ (r13.1) (r15.1) r15.2)
  · exact g_sub [3, 2, 0] rfl (c_X12_readsAfter_55 hX hO hΩ (r13.1) (r15.1) r15.2)
def f_X12_readsAfter  (σ : MS) : Option (MS) := b_X12_readsAfter_0   σ
theorem con_X12_readsAfter {Ω : OM} (hO : OKO Ω) (hΩ : oSH Ω = SHM)  (σ : MS)  : Con Ω yX12_readsAfter cX12_readsAfter 4 none rm_X12_readsAfter (emWV) [.ref 0] σ (f_X12_readsAfter  σ) :=
  con_of hO (by decide +kernel) (Nat.le_of_ble_eq_true rfl) rfl (fun X hX _ => c_X12_readsAfter_0 hX hO hΩ    σ )
def it_X12_readsPerson : List (Nat × Instr × Nat × Nat) := [(0, .aload_n 0, 1, 1), (1, .getfield 61, 3, 4), (4, .iconst 3, 1, 5), (5, .iaload, 1, 6), (6, .istore_n 1, 1, 7), (7, .aload_n 0, 1, 8), (8, .getfield 70, 3, 11), (11, .iload_n 1, 1, 12), (12, .aload_n 0, 1, 13), (13, .iconst 0, 1, 14), (14, .sipush 999, 3, 17), (17, .invokevirtual 299, 3, 20), (20, .iastore, 1, 21), (21, .aload_n 0, 1, 22), (22, .getfield 73, 3, 25), (25, .iload_n 1, 1, 26), (26, .aload_n 0, 1, 27), (27, .iconst 0, 1, 28), (28, .bipush 23, 2, 30), (30, .invokevirtual 299, 3, 33), (33, .iastore, 1, 34), (34, .aload_n 0, 1, 35), (35, .getfield 76, 3, 38), (38, .iload_n 1, 1, 39), (39, .aload_n 0, 1, 40), (40, .iconst 0, 1, 41), (41, .bipush 24, 2, 43), (43, .invokevirtual 299, 3, 46), (46, .iastore, 1, 47), (47, .aload_n 0, 1, 48), (48, .getfield 79, 3, 51), (51, .iload_n 1, 1, 52), (52, .aload_n 0, 1, 53), (53, .iconst 1, 1, 54), (54, .iconst 3, 1, 55), (55, .invokevirtual 299, 3, 58), (58, .iastore, 1, 59), (59, .aload_n 0, 1, 60), (60, .getfield 61, 3, 63), (63, .iconst 3, 1, 64), (64, .dup2, 1, 65), (65, .iaload, 1, 66), (66, .iconst 1, 1, 67), (67, .iadd, 1, 68), (68, .iastore, 1, 69), (69, .return_, 1, 70)]
theorem id_X12_readsPerson : ∀ q ∈ it_X12_readsPerson, decode cX12_readsPerson q.1 = .ok (q.2.1, q.2.2.1) ∧ q.1 + q.2.2.1 = q.2.2.2 := by decide +kernel
theorem dc_X12_readsPerson {pc : Nat} {i : Instr} {n pc' : Nat} (j : Nat) (h : it_X12_readsPerson[j]? = some (pc, i, n, pc')) : Dc cX12_readsPerson pc i n pc' := dc_of id_X12_readsPerson j h
abbrev rm_X12_readsPerson : Room := { frames := 4, cells := 0, slots := 0, locals := 92 }
def b_X12_readsPerson_0     (σ : MS) : Option (MS) := (f_X12_amount (0 : Int32) (999 : Int32) σ).bind (fun r9 => chk (inb (sI σ 18 3) 4) ((f_X12_amount (0 : Int32) (23 : Int32) (wI r9.2 21 (ix (sI σ 18 3)) r9.1)).bind (fun r11 => chk (inb (sI σ 18 3) 4) ((f_X12_amount (0 : Int32) (24 : Int32) (wI r11.2 22 (ix (sI σ 18 3)) r11.1)).bind (fun r13 => chk (inb (sI σ 18 3) 4) ((f_X12_amount (1 : Int32) (3 : Int32) (wI r13.2 23 (ix (sI σ 18 3)) r13.1)).bind (fun r15 => chk (inb (sI σ 18 3) 4) (some ((wI (wI r15.2 24 (ix (sI σ 18 3)) r15.1) 18 3 ((sI (wI r15.2 24 (ix (sI σ 18 3)) r15.1) 18 3) + (1 : Int32))))))))))))
set_option maxHeartbeats 4000000 in
set_option maxRecDepth 20000 in
theorem c_X12_readsPerson_0 {X : CX} {Ω : OM} (hX : CF X Ω RX12 cX12_readsPerson 2 none rm_X12_readsPerson) (hO : OKO Ω) (hΩ : oSH Ω = SHM)      (σ : MS)  : GE X Ω 2 0 0 (emWV) 0 0 0 [(0, .ref 0)] [] σ (b_X12_readsPerson_0  σ) := by
  unfold b_X12_readsPerson_0
  refine g_aload_n hX (dc_X12_readsPerson 0 rfl) rfl 0 rfl ?_
  refine g_getF (q := 18) hX (dc_X12_readsPerson 1 rfl) fl_X12_61 (by decide) rfl (stS hΩ 0 rfl) rfl ?_
  refine g_iconst (w := (3 : Int32)) hX (dc_X12_readsPerson 2 rfl) (by decide) ?_
  refine g_iald (j := 3) hX (dc_X12_readsPerson 3 rfl) (stS hΩ 18 rfl) (by decide) (by decide) ?_
  refine g_istore_n (L' := [(1, .int (sI σ 18 3)), (0, .ref 0)]) hX (dc_X12_readsPerson 4 rfl) rfl (by decide) rfl ?_
  refine g_aload_n hX (dc_X12_readsPerson 5 rfl) rfl 1 rfl ?_
  refine g_getF (q := 21) hX (dc_X12_readsPerson 6 rfl) fl_X12_70 (by decide) rfl (stS hΩ 0 rfl) rfl ?_
  refine g_iload_n hX (dc_X12_readsPerson 7 rfl) rfl 0 rfl ?_
  refine g_aload_n hX (dc_X12_readsPerson 8 rfl) rfl 1 rfl ?_
  refine g_iconst (w := (0 : Int32)) hX (dc_X12_readsPerson 9 rfl) (by decide) ?_
  refine g_sipush (w := (999 : Int32)) hX (dc_X12_readsPerson 10 rfl) (by decide) ?_
  refine gV_WI (As := [.int (0 : Int32), .int (999 : Int32)]) (st := [.int (sI σ 18 3), .ref 21]) hX (dc_X12_readsPerson 11 rfl) ml_X12_299 (con_X12_amount hO hΩ (0 : Int32) (999 : Int32) σ) (stS hΩ 0 rfl) rfl rfl ⟨by decide, by decide⟩ ⟨rfl, rfl⟩ ⟨Nat.zero_le _, Nat.zero_le _⟩ (Nat.le_of_ble_eq_true rfl) (fun r9 _ => ?_)
  refine g_chk (fun hc10 => ?_)
  refine g_iast hX (dc_X12_readsPerson 12 rfl) (stS hΩ 21 rfl) hc10 rfl ?_
  refine g_aload_n hX (dc_X12_readsPerson 13 rfl) rfl 1 rfl ?_
  refine g_getF (q := 22) hX (dc_X12_readsPerson 14 rfl) fl_X12_73 (by decide) rfl (stS hΩ 0 rfl) rfl ?_
  refine g_iload_n hX (dc_X12_readsPerson 15 rfl) rfl 0 rfl ?_
  refine g_aload_n hX (dc_X12_readsPerson 16 rfl) rfl 1 rfl ?_
  refine g_iconst (w := (0 : Int32)) hX (dc_X12_readsPerson 17 rfl) (by decide) ?_
  refine g_bipush (w := (23 : Int32)) hX (dc_X12_readsPerson 18 rfl) (by decide) ?_
  refine gV_WI (As := [.int (0 : Int32), .int (23 : Int32)]) (st := [.int (sI σ 18 3), .ref 22]) hX (dc_X12_readsPerson 19 rfl) ml_X12_299 (con_X12_amount hO hΩ (0 : Int32) (23 : Int32) (wI r9.2 21 (ix (sI σ 18 3)) r9.1)) (stS hΩ 0 rfl) rfl rfl ⟨by decide, by decide⟩ ⟨rfl, rfl⟩ ⟨Nat.zero_le _, Nat.zero_le _⟩ (Nat.le_of_ble_eq_true rfl) (fun r11 _ => ?_)
  refine g_chk (fun hc12 => ?_)
  refine g_iast hX (dc_X12_readsPerson 20 rfl) (stS hΩ 22 rfl) hc12 rfl ?_
  refine g_aload_n hX (dc_X12_readsPerson 21 rfl) rfl 1 rfl ?_
  refine g_getF (q := 23) hX (dc_X12_readsPerson 22 rfl) fl_X12_76 (by decide) rfl (stS hΩ 0 rfl) rfl ?_
  refine g_iload_n hX (dc_X12_readsPerson 23 rfl) rfl 0 rfl ?_
  refine g_aload_n hX (dc_X12_readsPerson 24 rfl) rfl 1 rfl ?_
  refine g_iconst (w := (0 : Int32)) hX (dc_X12_readsPerson 25 rfl) (by decide) ?_
  refine g_bipush (w := (24 : Int32)) hX (dc_X12_readsPerson 26 rfl) (by decide) ?_
  refine gV_WI (As := [.int (0 : Int32), .int (24 : Int32)]) (st := [.int (sI σ 18 3), .ref 23]) hX (dc_X12_readsPerson 27 rfl) ml_X12_299 (con_X12_amount hO hΩ (0 : Int32) (24 : Int32) (wI r11.2 22 (ix (sI σ 18 3)) r11.1)) (stS hΩ 0 rfl) rfl rfl ⟨by decide, by decide⟩ ⟨rfl, rfl⟩ ⟨Nat.zero_le _, Nat.zero_le _⟩ (Nat.le_of_ble_eq_true rfl) (fun r13 _ => ?_)
  refine g_chk (fun hc14 => ?_)
  refine g_iast hX (dc_X12_readsPerson 28 rfl) (stS hΩ 23 rfl) hc14 rfl ?_
  refine g_aload_n hX (dc_X12_readsPerson 29 rfl) rfl 1 rfl ?_
  refine g_getF (q := 24) hX (dc_X12_readsPerson 30 rfl) fl_X12_79 (by decide) rfl (stS hΩ 0 rfl) rfl ?_
  refine g_iload_n hX (dc_X12_readsPerson 31 rfl) rfl 0 rfl ?_
  refine g_aload_n hX (dc_X12_readsPerson 32 rfl) rfl 1 rfl ?_
  refine g_iconst (w := (1 : Int32)) hX (dc_X12_readsPerson 33 rfl) (by decide) ?_
  refine g_iconst (w := (3 : Int32)) hX (dc_X12_readsPerson 34 rfl) (by decide) ?_
  refine gV_WI (As := [.int (1 : Int32), .int (3 : Int32)]) (st := [.int (sI σ 18 3), .ref 24]) hX (dc_X12_readsPerson 35 rfl) ml_X12_299 (con_X12_amount hO hΩ (1 : Int32) (3 : Int32) (wI r13.2 23 (ix (sI σ 18 3)) r13.1)) (stS hΩ 0 rfl) rfl rfl ⟨by decide, by decide⟩ ⟨rfl, rfl⟩ ⟨Nat.zero_le _, Nat.zero_le _⟩ (Nat.le_of_ble_eq_true rfl) (fun r15 _ => ?_)
  refine g_chk (fun hc16 => ?_)
  refine g_iast hX (dc_X12_readsPerson 36 rfl) (stS hΩ 24 rfl) hc16 rfl ?_
  refine g_aload_n hX (dc_X12_readsPerson 37 rfl) rfl 1 rfl ?_
  refine g_getF (q := 18) hX (dc_X12_readsPerson 38 rfl) fl_X12_61 (by decide) rfl (stS hΩ 0 rfl) rfl ?_
  refine g_iconst (w := (3 : Int32)) hX (dc_X12_readsPerson 39 rfl) (by decide) ?_
  refine g_dup2 hX (dc_X12_readsPerson 40 rfl) rfl rfl ?_
  refine g_iald (j := 3) hX (dc_X12_readsPerson 41 rfl) (stS hΩ 18 rfl) (by decide) (by decide) ?_
  refine g_iconst (w := (1 : Int32)) hX (dc_X12_readsPerson 42 rfl) (by decide) ?_
  refine g_iadd hX (dc_X12_readsPerson 43 rfl) ?_
  refine g_iast (j := 3) hX (dc_X12_readsPerson 44 rfl) (stS hΩ 18 rfl) (by decide) (by decide) ?_
  exact g_vret hX (dc_X12_readsPerson 45 rfl) rfl (Nat.le_refl _) (Nat.le_refl _)
def f_X12_readsPerson  (σ : MS) : Option (MS) := b_X12_readsPerson_0   σ
theorem con_X12_readsPerson {Ω : OM} (hO : OKO Ω) (hΩ : oSH Ω = SHM)  (σ : MS)  : Con Ω yX12_readsPerson cX12_readsPerson 2 none rm_X12_readsPerson (emWV) [.ref 0] σ (f_X12_readsPerson  σ) :=
  con_of hO (by decide +kernel) (Nat.le_of_ble_eq_true rfl) rfl (fun X hX _ => c_X12_readsPerson_0 hX hO hΩ    σ )
def it_X12_duchyPart : List (Nat × Instr × Nat × Nat) := [(0, .iload_n 1, 1, 1), (1, .tableswitch 178 0 4 #[35, 65, 111, 118, 171], 35, 36), (36, .aload_n 0, 1, 37), (37, .getfield 61, 3, 40), (40, .iconst 0, 1, 41), (41, .aload_n 0, 1, 42), (42, .iconst 0, 1, 43), (43, .bipush 99, 2, 45), (45, .invokevirtual 299, 3, 48), (48, .iastore, 1, 49), (49, .aload_n 0, 1, 50), (50, .getfield 61, 3, 53), (53, .iconst 1, 1, 54), (54, .aload_n 0, 1, 55), (55, .iconst 0, 1, 56), (56, .sipush 9999, 3, 59), (59, .invokevirtual 299, 3, 62), (62, .iastore, 1, 63), (63, .goto 120, 3, 66), (66, .aload_n 0, 1, 67), (67, .getfield 61, 3, 70), (70, .iconst 2, 1, 71), (71, .iaload, 1, 72), (72, .istore_n 2, 1, 73), (73, .aload_n 0, 1, 74), (74, .getfield 64, 3, 77), (77, .iload_n 2, 1, 78), (78, .aload_n 0, 1, 79), (79, .iconst 0, 1, 80), (80, .bipush 99, 2, 82), (82, .invokevirtual 299, 3, 85), (85, .iastore, 1, 86), (86, .aload_n 0, 1, 87), (87, .getfield 67, 3, 90), (90, .iload_n 2, 1, 91), (91, .aload_n 0, 1, 92), (92, .iconst 0, 1, 93), (93, .bipush 9, 2, 95), (95, .invokevirtual 299, 3, 98), (98, .iastore, 1, 99), (99, .aload_n 0, 1, 100), (100, .getfield 61, 3, 103), (103, .iconst 2, 1, 104), (104, .dup2, 1, 105), (105, .iaload, 1, 106), (106, .iconst 1, 1, 107), (107, .iadd, 1, 108), (108, .iastore, 1, 109), (109, .goto 74, 3, 112), (112, .aload_n 0, 1, 113), (113, .invokevirtual 306, 3, 116), (116, .goto 67, 3, 119), (119, .aload_n 0, 1, 120), (120, .getfield 61, 3, 123), (123, .iconst 4, 1, 124), (124, .iaload, 1, 125), (125, .istore_n 2, 1, 126), (126, .aload_n 0, 1, 127), (127, .getfield 82, 3, 130), (130, .iload_n 2, 1, 131), (131, .aload_n 0, 1, 132), (132, .iconst 0, 1, 133), (133, .aload_n 0, 1, 134), (134, .getfield 61, 3, 137), (137, .iconst 2, 1, 138), (138, .iaload, 1, 139), (139, .iconst 1, 1, 140), (140, .isub, 1, 141), (141, .invokevirtual 299, 3, 144), (144, .iastore, 1, 145), (145, .aload_n 0, 1, 146), (146, .getfield 85, 3, 149), (149, .iload_n 2, 1, 150), (150, .iconst (-1), 1, 151), (151, .iastore, 1, 152), (152, .aload_n 0, 1, 153), (153, .getfield 88, 3, 156), (156, .iload_n 2, 1, 157), (157, .iconst 0, 1, 158), (158, .iastore, 1, 159), (159, .aload_n 0, 1, 160), (160, .getfield 61, 3, 163), (163, .iconst 4, 1, 164), (164, .dup2, 1, 165), (165, .iaload, 1, 166), (166, .iconst 1, 1, 167), (167, .iadd, 1, 168), (168, .iastore, 1, 169), (169, .goto 14, 3, 172), (172, .aload_n 0, 1, 173), (173, .invokevirtual 309, 3, 176), (176, .goto 7, 3, 179), (179, .aload_n 0, 1, 180), (180, .invokevirtual 312, 3, 183), (183, .return_, 1, 184)]
theorem id_X12_duchyPart : ∀ q ∈ it_X12_duchyPart, decode cX12_duchyPart q.1 = .ok (q.2.1, q.2.2.1) ∧ q.1 + q.2.2.1 = q.2.2.2 := by decide +kernel
theorem dc_X12_duchyPart {pc : Nat} {i : Instr} {n pc' : Nat} (j : Nat) (h : it_X12_duchyPart[j]? = some (pc, i, n, pc')) : Dc cX12_duchyPart pc i n pc' := dc_of id_X12_duchyPart j h
abbrev rm_X12_duchyPart : Room := { frames := 5, cells := 0, slots := 0, locals := 115 }
def b_X12_duchyPart_183     (σ : MS) : Option (MS) := some (σ)
set_option maxHeartbeats 4000000 in
set_option maxRecDepth 20000 in
theorem c_X12_duchyPart_183 {X : CX} {Ω : OM} (hX : CF X Ω RX12 cX12_duchyPart 3 none rm_X12_duchyPart) (hO : OKO Ω) (hΩ : oSH Ω = SHM)      (σ : MS)  : GE X Ω 3 0 0 (emWV) 0 0 183 [] [] σ (b_X12_duchyPart_183  σ) := by
  unfold b_X12_duchyPart_183
  exact g_vret hX (dc_X12_duchyPart 94 rfl) rfl (Nat.le_refl _) (Nat.le_refl _)
def b_X12_duchyPart_169     (σ : MS) : Option (MS) := (b_X12_duchyPart_183 σ)
set_option maxHeartbeats 4000000 in
set_option maxRecDepth 20000 in
theorem c_X12_duchyPart_169 {X : CX} {Ω : OM} (hX : CF X Ω RX12 cX12_duchyPart 3 none rm_X12_duchyPart) (hO : OKO Ω) (hΩ : oSH Ω = SHM)      (σ : MS)  : GE X Ω 3 0 0 (emWV) 0 0 169 [] [] σ (b_X12_duchyPart_169  σ) := by
  unfold b_X12_duchyPart_169
  refine g_goto (tgt := 183) hX (dc_X12_duchyPart 88 rfl) (by decide) ?_
  exact g_sub [] rfl (c_X12_duchyPart_183 hX hO hΩ σ)
def b_X12_duchyPart_0   (x1 : Int32)  (σ : MS) : Option (MS) := (if x1 = (0 : Int32) then (f_X12_amount (0 : Int32) (99 : Int32) σ).bind (fun r24 => (f_X12_amount (0 : Int32) (9999 : Int32) (wI r24.2 18 0 r24.1)).bind (fun r25 => (b_X12_duchyPart_183 (wI r25.2 18 1 r25.1)))) else (if x1 = (1 : Int32) then (f_X12_amount (0 : Int32) (99 : Int32) σ).bind (fun r26 => chk (inb (sI σ 18 2) 5) ((f_X12_amount (0 : Int32) (9 : Int32) (wI r26.2 19 (ix (sI σ 18 2)) r26.1)).bind (fun r28 => chk (inb (sI σ 18 2) 5) ((b_X12_duchyPart_183 (wI (wI r28.2 20 (ix (sI σ 18 2)) r28.1) 18 2 ((sI (wI r28.2 20 (ix (sI σ 18 2)) r28.1) 18 2) + (1 : Int32)))))))) else (if x1 = (2 : Int32) then (f_X12_readsPerson σ).bind (fun r30 => (b_X12_duchyPart_183 r30)) else (if x1 = (3 : Int32) then (f_X12_amount (0 : Int32) ((sI σ 18 2) - (1 : Int32)) σ).bind (fun r31 => chk (inb (sI σ 18 4) 6) (chk (inb (sI σ 18 4) 6) (chk (inb (sI σ 18 4) 6) ((b_X12_duchyPart_169 (wI (wI (wI (wI r31.2 25 (ix (sI σ 18 4)) r31.1) 26 (ix (sI σ 18 4)) (-1 : Int32)) 27 (ix (sI σ 18 4)) (0 : Int32)) 18 4 ((sI (wI (wI (wI r31.2 25 (ix (sI σ 18 4)) r31.1) 26 (ix (sI σ 18 4)) (-1 : Int32)) 27 (ix (sI σ 18 4)) (0 : Int32)) 18 4) + (1 : Int32)))))))) else (if x1 = (4 : Int32) then (f_X12_readsHeld σ).bind (fun r35 => (b_X12_duchyPart_183 r35)) else (f_X12_readsAfter σ).bind (fun r36 => (b_X12_duchyPart_183 r36)))))))
set_option maxHeartbeats 4000000 in
set_option maxRecDepth 20000 in
theorem c_X12_duchyPart_0 {X : CX} {Ω : OM} (hX : CF X Ω RX12 cX12_duchyPart 3 none rm_X12_duchyPart) (hO : OKO Ω) (hΩ : oSH Ω = SHM)    (x1 : Int32)  (σ : MS)  : GE X Ω 3 0 0 (emWV) 0 0 0 [(0, .ref 0), (1, .int x1)] [] σ (b_X12_duchyPart_0  x1 σ) := by
  unfold b_X12_duchyPart_0
  refine g_iload_n hX (dc_X12_duchyPart 0 rfl) rfl 1 rfl ?_
  refine g_ite (fun h19 => ?_) (fun h19 => ?_)
  · refine g_tsIn (off := 35) (tgt := 36) hX (dc_X12_duchyPart 1 rfl) (by rw [h19]; decide) (by rw [h19]; decide) (by rw [h19]; rfl) (by decide) ?_
    refine g_aload_n hX (dc_X12_duchyPart 2 rfl) rfl 0 rfl ?_
    refine g_getF (q := 18) hX (dc_X12_duchyPart 3 rfl) fl_X12_61 (by decide) rfl (stS hΩ 0 rfl) rfl ?_
    refine g_iconst (w := (0 : Int32)) hX (dc_X12_duchyPart 4 rfl) (by decide) ?_
    refine g_aload_n hX (dc_X12_duchyPart 5 rfl) rfl 0 rfl ?_
    refine g_iconst (w := (0 : Int32)) hX (dc_X12_duchyPart 6 rfl) (by decide) ?_
    refine g_bipush (w := (99 : Int32)) hX (dc_X12_duchyPart 7 rfl) (by decide) ?_
    refine gV_WI (As := [.int (0 : Int32), .int (99 : Int32)]) (st := [.int (0 : Int32), .ref 18]) hX (dc_X12_duchyPart 8 rfl) ml_X12_299 (con_X12_amount hO hΩ (0 : Int32) (99 : Int32) σ) (stS hΩ 0 rfl) rfl rfl ⟨by decide, by decide⟩ ⟨rfl, rfl⟩ ⟨Nat.zero_le _, Nat.zero_le _⟩ (Nat.le_of_ble_eq_true rfl) (fun r24 _ => ?_)
    refine g_iast (j := 0) hX (dc_X12_duchyPart 9 rfl) (stS hΩ 18 rfl) (by decide) (by decide) ?_
    refine g_aload_n hX (dc_X12_duchyPart 10 rfl) rfl 0 rfl ?_
    refine g_getF (q := 18) hX (dc_X12_duchyPart 11 rfl) fl_X12_61 (by decide) rfl (stS hΩ 0 rfl) rfl ?_
    refine g_iconst (w := (1 : Int32)) hX (dc_X12_duchyPart 12 rfl) (by decide) ?_
    refine g_aload_n hX (dc_X12_duchyPart 13 rfl) rfl 0 rfl ?_
    refine g_iconst (w := (0 : Int32)) hX (dc_X12_duchyPart 14 rfl) (by decide) ?_
    refine g_sipush (w := (9999 : Int32)) hX (dc_X12_duchyPart 15 rfl) (by decide) ?_
    refine gV_WI (As := [.int (0 : Int32), .int (9999 : Int32)]) (st := [.int (1 : Int32), .ref 18]) hX (dc_X12_duchyPart 16 rfl) ml_X12_299 (con_X12_amount hO hΩ (0 : Int32) (9999 : Int32) (wI r24.2 18 0 r24.1)) (stS hΩ 0 rfl) rfl rfl ⟨by decide, by decide⟩ ⟨rfl, rfl⟩ ⟨Nat.zero_le _, Nat.zero_le _⟩ (Nat.le_of_ble_eq_true rfl) (fun r25 _ => ?_)
    refine g_iast (j := 1) hX (dc_X12_duchyPart 17 rfl) (stS hΩ 18 rfl) (by decide) (by decide) ?_
    refine g_goto (tgt := 183) hX (dc_X12_duchyPart 18 rfl) (by decide) ?_
    exact g_sub [] rfl (c_X12_duchyPart_183 hX hO hΩ (wI r25.2 18 1 r25.1))
  · refine g_ite (fun h20 => ?_) (fun h20 => ?_)
    · refine g_tsIn (off := 65) (tgt := 66) hX (dc_X12_duchyPart 1 rfl) (by rw [h20]; decide) (by rw [h20]; decide) (by rw [h20]; rfl) (by decide) ?_
      refine g_aload_n hX (dc_X12_duchyPart 19 rfl) rfl 0 rfl ?_
      refine g_getF (q := 18) hX (dc_X12_duchyPart 20 rfl) fl_X12_61 (by decide) rfl (stS hΩ 0 rfl) rfl ?_
      refine g_iconst (w := (2 : Int32)) hX (dc_X12_duchyPart 21 rfl) (by decide) ?_
      refine g_iald (j := 2) hX (dc_X12_duchyPart 22 rfl) (stS hΩ 18 rfl) (by decide) (by decide) ?_
      refine g_istore_n (L' := [(2, .int (sI σ 18 2)), (0, .ref 0), (1, .int x1)]) hX (dc_X12_duchyPart 23 rfl) rfl (by decide) rfl ?_
      refine g_aload_n hX (dc_X12_duchyPart 24 rfl) rfl 1 rfl ?_
      refine g_getF (q := 19) hX (dc_X12_duchyPart 25 rfl) fl_X12_64 (by decide) rfl (stS hΩ 0 rfl) rfl ?_
      refine g_iload_n hX (dc_X12_duchyPart 26 rfl) rfl 0 rfl ?_
      refine g_aload_n hX (dc_X12_duchyPart 27 rfl) rfl 1 rfl ?_
      refine g_iconst (w := (0 : Int32)) hX (dc_X12_duchyPart 28 rfl) (by decide) ?_
      refine g_bipush (w := (99 : Int32)) hX (dc_X12_duchyPart 29 rfl) (by decide) ?_
      refine gV_WI (As := [.int (0 : Int32), .int (99 : Int32)]) (st := [.int (sI σ 18 2), .ref 19]) hX (dc_X12_duchyPart 30 rfl) ml_X12_299 (con_X12_amount hO hΩ (0 : Int32) (99 : Int32) σ) (stS hΩ 0 rfl) rfl rfl ⟨by decide, by decide⟩ ⟨rfl, rfl⟩ ⟨Nat.zero_le _, Nat.zero_le _⟩ (Nat.le_of_ble_eq_true rfl) (fun r26 _ => ?_)
      refine g_chk (fun hc27 => ?_)
      refine g_iast hX (dc_X12_duchyPart 31 rfl) (stS hΩ 19 rfl) hc27 rfl ?_
      refine g_aload_n hX (dc_X12_duchyPart 32 rfl) rfl 1 rfl ?_
      refine g_getF (q := 20) hX (dc_X12_duchyPart 33 rfl) fl_X12_67 (by decide) rfl (stS hΩ 0 rfl) rfl ?_
      refine g_iload_n hX (dc_X12_duchyPart 34 rfl) rfl 0 rfl ?_
      refine g_aload_n hX (dc_X12_duchyPart 35 rfl) rfl 1 rfl ?_
      refine g_iconst (w := (0 : Int32)) hX (dc_X12_duchyPart 36 rfl) (by decide) ?_
      refine g_bipush (w := (9 : Int32)) hX (dc_X12_duchyPart 37 rfl) (by decide) ?_
      refine gV_WI (As := [.int (0 : Int32), .int (9 : Int32)]) (st := [.int (sI σ 18 2), .ref 20]) hX (dc_X12_duchyPart 38 rfl) ml_X12_299 (con_X12_amount hO hΩ (0 : Int32) (9 : Int32) (wI r26.2 19 (ix (sI σ 18 2)) r26.1)) (stS hΩ 0 rfl) rfl rfl ⟨by decide, by decide⟩ ⟨rfl, rfl⟩ ⟨Nat.zero_le _, Nat.zero_le _⟩ (Nat.le_of_ble_eq_true rfl) (fun r28 _ => ?_)
      refine g_chk (fun hc29 => ?_)
      refine g_iast hX (dc_X12_duchyPart 39 rfl) (stS hΩ 20 rfl) hc29 rfl ?_
      refine g_aload_n hX (dc_X12_duchyPart 40 rfl) rfl 1 rfl ?_
      refine g_getF (q := 18) hX (dc_X12_duchyPart 41 rfl) fl_X12_61 (by decide) rfl (stS hΩ 0 rfl) rfl ?_
      refine g_iconst (w := (2 : Int32)) hX (dc_X12_duchyPart 42 rfl) (by decide) ?_
      refine g_dup2 hX (dc_X12_duchyPart 43 rfl) rfl rfl ?_
      refine g_iald (j := 2) hX (dc_X12_duchyPart 44 rfl) (stS hΩ 18 rfl) (by decide) (by decide) ?_
      refine g_iconst (w := (1 : Int32)) hX (dc_X12_duchyPart 45 rfl) (by decide) ?_
      refine g_iadd hX (dc_X12_duchyPart 46 rfl) ?_
      refine g_iast (j := 2) hX (dc_X12_duchyPart 47 rfl) (stS hΩ 18 rfl) (by decide) (by decide) ?_
      refine g_goto (tgt := 183) hX (dc_X12_duchyPart 48 rfl) (by decide) ?_
      exact g_sub [] rfl (c_X12_duchyPart_183 hX hO hΩ (wI (wI r28.2 20 (ix (sI σ 18 2)) r28.1) 18 2 ((sI (wI r28.2 20 (ix (sI σ 18 2)) r28.1) 18 2) + (1 : Int32))))
    · refine g_ite (fun h21 => ?_) (fun h21 => ?_)
      · refine g_tsIn (off := 111) (tgt := 112) hX (dc_X12_duchyPart 1 rfl) (by rw [h21]; decide) (by rw [h21]; decide) (by rw [h21]; rfl) (by decide) ?_
        refine g_aload_n hX (dc_X12_duchyPart 49 rfl) rfl 0 rfl ?_
        refine gV_WV (As := []) (st := []) hX (dc_X12_duchyPart 50 rfl) ml_X12_306 (con_X12_readsPerson hO hΩ σ) (stS hΩ 0 rfl) rfl rfl ⟨by decide, by decide⟩ ⟨rfl, rfl⟩ ⟨Nat.zero_le _, Nat.zero_le _⟩ (Nat.le_of_ble_eq_true rfl) (fun r30 _ => ?_)
        refine g_goto (tgt := 183) hX (dc_X12_duchyPart 51 rfl) (by decide) ?_
        exact g_sub [] rfl (c_X12_duchyPart_183 hX hO hΩ r30)
      · refine g_ite (fun h22 => ?_) (fun h22 => ?_)
        · refine g_tsIn (off := 118) (tgt := 119) hX (dc_X12_duchyPart 1 rfl) (by rw [h22]; decide) (by rw [h22]; decide) (by rw [h22]; rfl) (by decide) ?_
          refine g_aload_n hX (dc_X12_duchyPart 52 rfl) rfl 0 rfl ?_
          refine g_getF (q := 18) hX (dc_X12_duchyPart 53 rfl) fl_X12_61 (by decide) rfl (stS hΩ 0 rfl) rfl ?_
          refine g_iconst (w := (4 : Int32)) hX (dc_X12_duchyPart 54 rfl) (by decide) ?_
          refine g_iald (j := 4) hX (dc_X12_duchyPart 55 rfl) (stS hΩ 18 rfl) (by decide) (by decide) ?_
          refine g_istore_n (L' := [(2, .int (sI σ 18 4)), (0, .ref 0), (1, .int x1)]) hX (dc_X12_duchyPart 56 rfl) rfl (by decide) rfl ?_
          refine g_aload_n hX (dc_X12_duchyPart 57 rfl) rfl 1 rfl ?_
          refine g_getF (q := 25) hX (dc_X12_duchyPart 58 rfl) fl_X12_82 (by decide) rfl (stS hΩ 0 rfl) rfl ?_
          refine g_iload_n hX (dc_X12_duchyPart 59 rfl) rfl 0 rfl ?_
          refine g_aload_n hX (dc_X12_duchyPart 60 rfl) rfl 1 rfl ?_
          refine g_iconst (w := (0 : Int32)) hX (dc_X12_duchyPart 61 rfl) (by decide) ?_
          refine g_aload_n hX (dc_X12_duchyPart 62 rfl) rfl 1 rfl ?_
          refine g_getF (q := 18) hX (dc_X12_duchyPart 63 rfl) fl_X12_61 (by decide) rfl (stS hΩ 0 rfl) rfl ?_
          refine g_iconst (w := (2 : Int32)) hX (dc_X12_duchyPart 64 rfl) (by decide) ?_
          refine g_iald (j := 2) hX (dc_X12_duchyPart 65 rfl) (stS hΩ 18 rfl) (by decide) (by decide) ?_
          refine g_iconst (w := (1 : Int32)) hX (dc_X12_duchyPart 66 rfl) (by decide) ?_
          refine g_isub hX (dc_X12_duchyPart 67 rfl) ?_
          refine gV_WI (As := [.int (0 : Int32), .int ((sI σ 18 2) - (1 : Int32))]) (st := [.int (sI σ 18 4), .ref 25]) hX (dc_X12_duchyPart 68 rfl) ml_X12_299 (con_X12_amount hO hΩ (0 : Int32) ((sI σ 18 2) - (1 : Int32)) σ) (stS hΩ 0 rfl) rfl rfl ⟨by decide, by decide⟩ ⟨rfl, rfl⟩ ⟨Nat.zero_le _, Nat.zero_le _⟩ (Nat.le_of_ble_eq_true rfl) (fun r31 _ => ?_)
          refine g_chk (fun hc32 => ?_)
          refine g_iast hX (dc_X12_duchyPart 69 rfl) (stS hΩ 25 rfl) hc32 rfl ?_
          refine g_aload_n hX (dc_X12_duchyPart 70 rfl) rfl 1 rfl ?_
          refine g_getF (q := 26) hX (dc_X12_duchyPart 71 rfl) fl_X12_85 (by decide) rfl (stS hΩ 0 rfl) rfl ?_
          refine g_iload_n hX (dc_X12_duchyPart 72 rfl) rfl 0 rfl ?_
          refine g_iconst (w := (-1 : Int32)) hX (dc_X12_duchyPart 73 rfl) (by decide) ?_
          refine g_chk (fun hc33 => ?_)
          refine g_iast hX (dc_X12_duchyPart 74 rfl) (stS hΩ 26 rfl) hc33 rfl ?_
          refine g_aload_n hX (dc_X12_duchyPart 75 rfl) rfl 1 rfl ?_
          refine g_getF (q := 27) hX (dc_X12_duchyPart 76 rfl) fl_X12_88 (by decide) rfl (stS hΩ 0 rfl) rfl ?_
          refine g_iload_n hX (dc_X12_duchyPart 77 rfl) rfl 0 rfl ?_
          refine g_iconst (w := (0 : Int32)) hX (dc_X12_duchyPart 78 rfl) (by decide) ?_
          refine g_chk (fun hc34 => ?_)
          refine g_iast hX (dc_X12_duchyPart 79 rfl) (stS hΩ 27 rfl) hc34 rfl ?_
          refine g_aload_n hX (dc_X12_duchyPart 80 rfl) rfl 1 rfl ?_
          refine g_getF (q := 18) hX (dc_X12_duchyPart 81 rfl) fl_X12_61 (by decide) rfl (stS hΩ 0 rfl) rfl ?_
          refine g_iconst (w := (4 : Int32)) hX (dc_X12_duchyPart 82 rfl) (by decide) ?_
          refine g_dup2 hX (dc_X12_duchyPart 83 rfl) rfl rfl ?_
          refine g_iald (j := 4) hX (dc_X12_duchyPart 84 rfl) (stS hΩ 18 rfl) (by decide) (by decide) ?_
          refine g_iconst (w := (1 : Int32)) hX (dc_X12_duchyPart 85 rfl) (by decide) ?_
          refine g_iadd hX (dc_X12_duchyPart 86 rfl) ?_
          refine g_iast (j := 4) hX (dc_X12_duchyPart 87 rfl) (stS hΩ 18 rfl) (by decide) (by decide) ?_
          exact g_sub [] rfl (c_X12_duchyPart_169 hX hO hΩ (wI (wI (wI (wI r31.2 25 (ix (sI σ 18 4)) r31.1) 26 (ix (sI σ 18 4)) (-1 : Int32)) 27 (ix (sI σ 18 4)) (0 : Int32)) 18 4 ((sI (wI (wI (wI r31.2 25 (ix (sI σ 18 4)) r31.1) 26 (ix (sI σ 18 4)) (-1 : Int32)) 27 (ix (sI σ 18 4)) (0 : Int32)) 18 4) + (1 : Int32))))
        · refine g_ite (fun h23 => ?_) (fun h23 => ?_)
          · refine g_tsIn (off := 171) (tgt := 172) hX (dc_X12_duchyPart 1 rfl) (by rw [h23]; decide) (by rw [h23]; decide) (by rw [h23]; rfl) (by decide) ?_
            refine g_aload_n hX (dc_X12_duchyPart 89 rfl) rfl 0 rfl ?_
            refine gV_WV (As := []) (st := []) hX (dc_X12_duchyPart 90 rfl) ml_X12_309 (con_X12_readsHeld hO hΩ σ) (stS hΩ 0 rfl) rfl rfl ⟨by decide, by decide⟩ ⟨rfl, rfl⟩ ⟨Nat.zero_le _, Nat.zero_le _⟩ (Nat.le_of_ble_eq_true rfl) (fun r35 _ => ?_)
            refine g_goto (tgt := 183) hX (dc_X12_duchyPart 91 rfl) (by decide) ?_
            exact g_sub [] rfl (c_X12_duchyPart_183 hX hO hΩ r35)
          · refine g_tsOut (tgt := 179) hX (dc_X12_duchyPart 1 rfl) (by have e0 := i32ne h19 (k := 0) (by decide); have e1 := i32ne h20 (k := 1) (by decide); have e2 := i32ne h21 (k := 2) (by decide); have e3 := i32ne h22 (k := 3) (by decide); have e4 := i32ne h23 (k := 4) (by decide); omega) (by decide) ?_
            refine g_aload_n hX (dc_X12_duchyPart 92 rfl) rfl 0 rfl ?_
            refine gV_WV (As := []) (st := []) hX (dc_X12_duchyPart 93 rfl) ml_X12_312 (con_X12_readsAfter hO hΩ σ) (stS hΩ 0 rfl) rfl rfl ⟨by decide, by decide⟩ ⟨rfl, rfl⟩ ⟨Nat.zero_le _, Nat.zero_le _⟩ (Nat.le_of_ble_eq_true rfl) (fun r36 _ => ?_)
            exact g_sub [] rfl (c_X12_duchyPart_183 hX hO hΩ r36)
def f_X12_duchyPart (x1 : Int32) (σ : MS) : Option (MS) := b_X12_duchyPart_0  x1 σ
theorem con_X12_duchyPart {Ω : OM} (hO : OKO Ω) (hΩ : oSH Ω = SHM) (x1 : Int32) (σ : MS)  : Con Ω yX12_duchyPart cX12_duchyPart 3 none rm_X12_duchyPart (emWV) [.ref 0, .int x1] σ (f_X12_duchyPart x1 σ) :=
  con_of hO (by decide +kernel) (Nat.le_of_ble_eq_true rfl) rfl (fun X hX _ => c_X12_duchyPart_0 hX hO hΩ   x1 σ )
def it_X12_isFull : List (Nat × Instr × Nat × Nat) := [(0, .iload_n 2, 1, 1), (1, .bipush 40, 2, 3), (3, .if_icmp .eq 24, 3, 6), (6, .iload_n 1, 1, 7), (7, .ifCond .ne 7, 3, 10), (10, .iconst 1, 1, 11), (11, .goto 4, 3, 14), (14, .iconst 0, 1, 15), (15, .iload_n 2, 1, 16), (16, .ifCond .ne 7, 3, 19), (19, .iconst 1, 1, 20), (20, .goto 4, 3, 23), (23, .iconst 0, 1, 24), (24, .if_icmp .eq 5, 3, 27), (27, .iconst 1, 1, 28), (28, .ireturn, 1, 29), (29, .iload_n 1, 1, 30), (30, .tableswitch 75 1 3 #[26, 42, 58], 26, 56), (56, .aload_n 0, 1, 57), (57, .getfield 61, 3, 60), (60, .iconst 2, 1, 61), (61, .iaload, 1, 62), (62, .iconst 5, 1, 63), (63, .if_icmp .ne 7, 3, 66), (66, .iconst 1, 1, 67), (67, .goto 4, 3, 70), (70, .iconst 0, 1, 71), (71, .ireturn, 1, 72), (72, .aload_n 0, 1, 73), (73, .getfield 61, 3, 76), (76, .iconst 3, 1, 77), (77, .iaload, 1, 78), (78, .iconst 4, 1, 79), (79, .if_icmp .ne 7, 3, 82), (82, .iconst 1, 1, 83), (83, .goto 4, 3, 86), (86, .iconst 0, 1, 87), (87, .ireturn, 1, 88), (88, .aload_n 0, 1, 89), (89, .getfield 61, 3, 92), (92, .iconst 4, 1, 93), (93, .iaload, 1, 94), (94, .bipush 6, 2, 96), (96, .if_icmp .ne 7, 3, 99), (99, .iconst 1, 1, 100), (100, .goto 4, 3, 103), (103, .iconst 0, 1, 104), (104, .ireturn, 1, 105), (105, .iconst 0, 1, 106), (106, .ireturn, 1, 107)]
theorem id_X12_isFull : ∀ q ∈ it_X12_isFull, decode cX12_isFull q.1 = .ok (q.2.1, q.2.2.1) ∧ q.1 + q.2.2.1 = q.2.2.2 := by decide +kernel
theorem dc_X12_isFull {pc : Nat} {i : Instr} {n pc' : Nat} (j : Nat) (h : it_X12_isFull[j]? = some (pc, i, n, pc')) : Dc cX12_isFull pc i n pc' := dc_of id_X12_isFull j h
abbrev rm_X12_isFull : Room := { frames := 0, cells := 0, slots := 0, locals := 0 }
def b_X12_isFull_27     (σ : MS) : Option (Int32) := some (1 : Int32)
set_option maxHeartbeats 4000000 in
set_option maxRecDepth 20000 in
theorem c_X12_isFull_27 {X : CX} {Ω : OM} (hX : CF X Ω RX12 cX12_isFull 3 (some .boolean) rm_X12_isFull) (hO : OKO Ω) (hΩ : oSH Ω = SHM)   (σ : MS)      : GE X Ω 3 0 0 (emPI σ) 0 0 27 [] [] σ (b_X12_isFull_27  σ) := by
  unfold b_X12_isFull_27
  refine g_iconst (w := (1 : Int32)) hX (dc_X12_isFull 14 rfl) (by decide) ?_
  exact g_iret hX (dc_X12_isFull 15 rfl) rfl rfl (Nat.le_refl _) (Nat.le_refl _)
def b_X12_isFull_104    (s0 : Int32) (σ : MS) : Option (Int32) := chk (s0 = 0 ∨ s0 = 1) (some s0)
set_option maxHeartbeats 4000000 in
set_option maxRecDepth 20000 in
theorem c_X12_isFull_104 {X : CX} {Ω : OM} (hX : CF X Ω RX12 cX12_isFull 3 (some .boolean) rm_X12_isFull) (hO : OKO Ω) (hΩ : oSH Ω = SHM)   (σ : MS)   (s0 : Int32)   : GE X Ω 3 0 0 (emPI σ) 0 0 104 [] [.int s0] σ (b_X12_isFull_104  s0 σ) := by
  unfold b_X12_isFull_104
  refine g_chk (fun hc14 => ?_)
  exact g_iret hX (dc_X12_isFull 47 rfl) (nz_bool hc14).1 rfl (Nat.le_refl _) (Nat.le_refl _)
def b_X12_isFull_87    (s0 : Int32) (σ : MS) : Option (Int32) := chk (s0 = 0 ∨ s0 = 1) (some s0)
set_option maxHeartbeats 4000000 in
set_option maxRecDepth 20000 in
theorem c_X12_isFull_87 {X : CX} {Ω : OM} (hX : CF X Ω RX12 cX12_isFull 3 (some .boolean) rm_X12_isFull) (hO : OKO Ω) (hΩ : oSH Ω = SHM)   (σ : MS)   (s0 : Int32)   : GE X Ω 3 0 0 (emPI σ) 0 0 87 [] [.int s0] σ (b_X12_isFull_87  s0 σ) := by
  unfold b_X12_isFull_87
  refine g_chk (fun hc15 => ?_)
  exact g_iret hX (dc_X12_isFull 37 rfl) (nz_bool hc15).1 rfl (Nat.le_refl _) (Nat.le_refl _)
def b_X12_isFull_71    (s0 : Int32) (σ : MS) : Option (Int32) := chk (s0 = 0 ∨ s0 = 1) (some s0)
set_option maxHeartbeats 4000000 in
set_option maxRecDepth 20000 in
theorem c_X12_isFull_71 {X : CX} {Ω : OM} (hX : CF X Ω RX12 cX12_isFull 3 (some .boolean) rm_X12_isFull) (hO : OKO Ω) (hΩ : oSH Ω = SHM)   (σ : MS)   (s0 : Int32)   : GE X Ω 3 0 0 (emPI σ) 0 0 71 [] [.int s0] σ (b_X12_isFull_71  s0 σ) := by
  unfold b_X12_isFull_71
  refine g_chk (fun hc16 => ?_)
  exact g_iret hX (dc_X12_isFull 27 rfl) (nz_bool hc16).1 rfl (Nat.le_refl _) (Nat.le_refl _)
def b_X12_isFull_24    (y1 : Int32) (s0 : Int32) (s1 : Int32) (σ : MS) : Option (Int32) := (if s1 = s0 then (if y1 = (1 : Int32) then (if (sI σ 18 2) = (5 : Int32) then (b_X12_isFull_71 ((1 : Int32)) σ) else (b_X12_isFull_71 ((0 : Int32)) σ)) else (if y1 = (2 : Int32) then (if (sI σ 18 3) = (4 : Int32) then (b_X12_isFull_87 ((1 : Int32)) σ) else (b_X12_isFull_87 ((0 : Int32)) σ)) else (if y1 = (3 : Int32) then (if (sI σ 18 4) = (6 : Int32) then (b_X12_isFull_104 ((1 : Int32)) σ) else (b_X12_isFull_104 ((0 : Int32)) σ)) else some (0 : Int32)))) else (b_X12_isFull_27 σ))
set_option maxHeartbeats 4000000 in
set_option maxRecDepth 20000 in
theorem c_X12_isFull_24 {X : CX} {Ω : OM} (hX : CF X Ω RX12 cX12_isFull 3 (some .boolean) rm_X12_isFull) (hO : OKO Ω) (hΩ : oSH Ω = SHM)   (σ : MS)   (y1 : Int32) (s0 : Int32) (s1 : Int32)   : GE X Ω 3 0 0 (emPI σ) 0 0 24 [(0, .ref 0), (1, .int y1)] [.int s0, .int s1] σ (b_X12_isFull_24  y1 s0 s1 σ) := by
  unfold b_X12_isFull_24
  refine g_icmp_eq (tgt := 29) hX (dc_X12_isFull 13 rfl) (by decide) (fun h17 => ?_) (fun h17 => ?_)
  · refine g_iload_n hX (dc_X12_isFull 16 rfl) rfl 1 rfl ?_
    refine g_ite (fun h18 => ?_) (fun h18 => ?_)
    · refine g_tsIn (off := 26) (tgt := 56) hX (dc_X12_isFull 17 rfl) (by rw [h18]; decide) (by rw [h18]; decide) (by rw [h18]; rfl) (by decide) ?_
      refine g_aload_n hX (dc_X12_isFull 18 rfl) rfl 0 rfl ?_
      refine g_getF (q := 18) hX (dc_X12_isFull 19 rfl) fl_X12_61 (by decide) rfl (stS hΩ 0 rfl) rfl ?_
      refine g_iconst (w := (2 : Int32)) hX (dc_X12_isFull 20 rfl) (by decide) ?_
      refine g_iald (j := 2) hX (dc_X12_isFull 21 rfl) (stS hΩ 18 rfl) (by decide) (by decide) ?_
      refine g_iconst (w := (5 : Int32)) hX (dc_X12_isFull 22 rfl) (by decide) ?_
      refine g_icmp_ne (tgt := 70) hX (dc_X12_isFull 23 rfl) (by decide) (fun h21 => ?_) (fun h21 => ?_)
      · refine g_iconst (w := (1 : Int32)) hX (dc_X12_isFull 24 rfl) (by decide) ?_
        refine g_goto (tgt := 71) hX (dc_X12_isFull 25 rfl) (by decide) ?_
        exact g_sub [] rfl (c_X12_isFull_71 hX hO hΩ σ ((1 : Int32)))
      · refine g_iconst (w := (0 : Int32)) hX (dc_X12_isFull 26 rfl) (by decide) ?_
        exact g_sub [] rfl (c_X12_isFull_71 hX hO hΩ σ ((0 : Int32)))
    · refine g_ite (fun h19 => ?_) (fun h19 => ?_)
      · refine g_tsIn (off := 42) (tgt := 72) hX (dc_X12_isFull 17 rfl) (by rw [h19]; decide) (by rw [h19]; decide) (by rw [h19]; rfl) (by decide) ?_
        refine g_aload_n hX (dc_X12_isFull 28 rfl) rfl 0 rfl ?_
        refine g_getF (q := 18) hX (dc_X12_isFull 29 rfl) fl_X12_61 (by decide) rfl (stS hΩ 0 rfl) rfl ?_
        refine g_iconst (w := (3 : Int32)) hX (dc_X12_isFull 30 rfl) (by decide) ?_
        refine g_iald (j := 3) hX (dc_X12_isFull 31 rfl) (stS hΩ 18 rfl) (by decide) (by decide) ?_
        refine g_iconst (w := (4 : Int32)) hX (dc_X12_isFull 32 rfl) (by decide) ?_
        refine g_icmp_ne (tgt := 86) hX (dc_X12_isFull 33 rfl) (by decide) (fun h22 => ?_) (fun h22 => ?_)
        · refine g_iconst (w := (1 : Int32)) hX (dc_X12_isFull 34 rfl) (by decide) ?_
          refine g_goto (tgt := 87) hX (dc_X12_isFull 35 rfl) (by decide) ?_
          exact g_sub [] rfl (c_X12_isFull_87 hX hO hΩ σ ((1 : Int32)))
        · refine g_iconst (w := (0 : Int32)) hX (dc_X12_isFull 36 rfl) (by decide) ?_
          exact g_sub [] rfl (c_X12_isFull_87 hX hO hΩ σ ((0 : Int32)))
      · refine g_ite (fun h20 => ?_) (fun h20 => ?_)
        · refine g_tsIn (off := 58) (tgt := 88) hX (dc_X12_isFull 17 rfl) (by rw [h20]; decide) (by rw [h20]; decide) (by rw [h20]; rfl) (by decide) ?_
          refine g_aload_n hX (dc_X12_isFull 38 rfl) rfl 0 rfl ?_
          refine g_getF (q := 18) hX (dc_X12_isFull 39 rfl) fl_X12_61 (by decide) rfl (stS hΩ 0 rfl) rfl ?_
          refine g_iconst (w := (4 : Int32)) hX (dc_X12_isFull 40 rfl) (by decide) ?_
          refine g_iald (j := 4) hX (dc_X12_isFull 41 rfl) (stS hΩ 18 rfl) (by decide) (by decide) ?_
          refine g_bipush (w := (6 : Int32)) hX (dc_X12_isFull 42 rfl) (by decide) ?_
          refine g_icmp_ne (tgt := 103) hX (dc_X12_isFull 43 rfl) (by decide) (fun h23 => ?_) (fun h23 => ?_)
          · refine g_iconst (w := (1 : Int32)) hX (dc_X12_isFull 44 rfl) (by decide) ?_
            refine g_goto (tgt := 104) hX (dc_X12_isFull 45 rfl) (by decide) ?_
            exact g_sub [] rfl (c_X12_isFull_104 hX hO hΩ σ ((1 : Int32)))
          · refine g_iconst (w := (0 : Int32)) hX (dc_X12_isFull 46 rfl) (by decide) ?_
            exact g_sub [] rfl (c_X12_isFull_104 hX hO hΩ σ ((0 : Int32)))
        · refine g_tsOut (tgt := 105) hX (dc_X12_isFull 17 rfl) (by have e0 := i32ne h18 (k := 1) (by decide); have e1 := i32ne h19 (k := 2) (by decide); have e2 := i32ne h20 (k := 3) (by decide); omega) (by decide) ?_
          refine g_iconst (w := (0 : Int32)) hX (dc_X12_isFull 48 rfl) (by decide) ?_
          exact g_iret hX (dc_X12_isFull 49 rfl) rfl rfl (Nat.le_refl _) (Nat.le_refl _)
  · exact g_sub [] rfl (c_X12_isFull_27 hX hO hΩ σ)
def b_X12_isFull_15    (y1 : Int32) (y2 : Int32) (s0 : Int32) (σ : MS) : Option (Int32) := (if y2 = 0 then (b_X12_isFull_24 (y1) ((1 : Int32)) (s0) σ) else (b_X12_isFull_24 (y1) ((0 : Int32)) (s0) σ))
set_option maxHeartbeats 4000000 in
set_option maxRecDepth 20000 in
theorem c_X12_isFull_15 {X : CX} {Ω : OM} (hX : CF X Ω RX12 cX12_isFull 3 (some .boolean) rm_X12_isFull) (hO : OKO Ω) (hΩ : oSH Ω = SHM)   (σ : MS)   (y1 : Int32) (y2 : Int32) (s0 : Int32)   : GE X Ω 3 0 0 (emPI σ) 0 0 15 [(0, .ref 0), (1, .int y1), (2, .int y2)] [.int s0] σ (b_X12_isFull_15  y1 y2 s0 σ) := by
  unfold b_X12_isFull_15
  refine g_iload_n hX (dc_X12_isFull 8 rfl) rfl 2 rfl ?_
  refine g_if_ne (tgt := 23) hX (dc_X12_isFull 9 rfl) (by decide) (fun h24 => ?_) (fun h24 => ?_)
  · refine g_iconst (w := (1 : Int32)) hX (dc_X12_isFull 10 rfl) (by decide) ?_
    refine g_goto (tgt := 24) hX (dc_X12_isFull 11 rfl) (by decide) ?_
    exact g_sub [0, 1] rfl (c_X12_isFull_24 hX hO hΩ σ (y1) ((1 : Int32)) (s0))
  · refine g_iconst (w := (0 : Int32)) hX (dc_X12_isFull 12 rfl) (by decide) ?_
    exact g_sub [0, 1] rfl (c_X12_isFull_24 hX hO hΩ σ (y1) ((0 : Int32)) (s0))
def b_X12_isFull_0   (x1 : Int32) (x2 : Int32)  (σ : MS) : Option (Int32) := (if x2 = (40 : Int32) then (b_X12_isFull_27 σ) else (if x1 = 0 then (b_X12_isFull_15 (x1) (x2) ((1 : Int32)) σ) else (b_X12_isFull_15 (x1) (x2) ((0 : Int32)) σ)))
set_option maxHeartbeats 4000000 in
set_option maxRecDepth 20000 in
theorem c_X12_isFull_0 {X : CX} {Ω : OM} (hX : CF X Ω RX12 cX12_isFull 3 (some .boolean) rm_X12_isFull) (hO : OKO Ω) (hΩ : oSH Ω = SHM)   (σ : MS)  (x1 : Int32) (x2 : Int32)    : GE X Ω 3 0 0 (emPI σ) 0 0 0 [(0, .ref 0), (1, .int x1), (2, .int x2)] [] σ (b_X12_isFull_0  x1 x2 σ) := by
  unfold b_X12_isFull_0
  refine g_iload_n hX (dc_X12_isFull 0 rfl) rfl 2 rfl ?_
  refine g_bipush (w := (40 : Int32)) hX (dc_X12_isFull 1 rfl) (by decide) ?_
  refine g_icmp_eq (tgt := 27) hX (dc_X12_isFull 2 rfl) (by decide) (fun h25 => ?_) (fun h25 => ?_)
  · exact g_sub [] rfl (c_X12_isFull_27 hX hO hΩ σ)
  · refine g_iload_n hX (dc_X12_isFull 3 rfl) rfl 1 rfl ?_
    refine g_if_ne (tgt := 14) hX (dc_X12_isFull 4 rfl) (by decide) (fun h26 => ?_) (fun h26 => ?_)
    · refine g_iconst (w := (1 : Int32)) hX (dc_X12_isFull 5 rfl) (by decide) ?_
      refine g_goto (tgt := 15) hX (dc_X12_isFull 6 rfl) (by decide) ?_
      exact g_sub [0, 1, 2] rfl (c_X12_isFull_15 hX hO hΩ σ (x1) (x2) ((1 : Int32)))
    · refine g_iconst (w := (0 : Int32)) hX (dc_X12_isFull 7 rfl) (by decide) ?_
      exact g_sub [0, 1, 2] rfl (c_X12_isFull_15 hX hO hΩ σ (x1) (x2) ((0 : Int32)))
def f_X12_isFull (x1 : Int32) (x2 : Int32) (σ : MS) : Option (Int32) := b_X12_isFull_0  x1 x2 σ
theorem con_X12_isFull {Ω : OM} (hO : OKO Ω) (hΩ : oSH Ω = SHM) (x1 : Int32) (x2 : Int32) (σ : MS)  : Con Ω yX12_isFull cX12_isFull 3 (some .boolean) rm_X12_isFull (emPI σ) [.ref 0, .int x1, .int x2] σ (f_X12_isFull x1 x2 σ) :=
  con_of hO (by decide +kernel) (Nat.le_of_ble_eq_true rfl) rfl (fun X hX _ => c_X12_isFull_0 hX hO hΩ   σ x1 x2)
def it_X12_duchyClause : List (Nat × Instr × Nat × Nat) := [(0, .aload_n 0, 1, 1), (1, .invokevirtual 219, 3, 4), (4, .aload_n 0, 1, 5), (5, .getfield 199, 3, 8), (8, .istore_n 2, 1, 9), (9, .iconst 0, 1, 10), (10, .istore_n 3, 1, 11), (11, .iload_n 3, 1, 12), (12, .bipush 6, 2, 14), (14, .if_icmp .ge 20, 3, 17), (17, .aload_n 0, 1, 18), (18, .iload_n 3, 1, 19), (19, .invokestatic 315, 3, 22), (22, .invokevirtual 222, 3, 25), (25, .ifCond .ne 9, 3, 28), (28, .iinc 3 1, 3, 31), (31, .goto (-20), 3, 34), (34, .iload_n 3, 1, 35), (35, .bipush 6, 2, 37), (37, .if_icmp .ne 10, 3, 40), (40, .aload_n 0, 1, 41), (41, .iconst 0, 1, 42), (42, .iload_n 2, 1, 43), (43, .invokevirtual 235, 3, 46), (46, .return_, 1, 47), (47, .aload_n 0, 1, 48), (48, .iload_n 3, 1, 49), (49, .iload_n 1, 1, 50), (50, .invokevirtual 318, 3, 53), (53, .ifCond .eq 10, 3, 56), (56, .aload_n 0, 1, 57), (57, .iconst 4, 1, 58), (58, .iload_n 2, 1, 59), (59, .invokevirtual 235, 3, 62), (62, .return_, 1, 63), (63, .aload_n 0, 1, 64), (64, .dup, 1, 65), (65, .getfield 199, 3, 68), (68, .iload_n 3, 1, 69), (69, .invokestatic 315, 3, 72), (72, .invokevirtual 210, 3, 75), (75, .iadd, 1, 76), (76, .putfield 199, 3, 79), (79, .aload_n 0, 1, 80), (80, .iload_n 3, 1, 81), (81, .invokevirtual 322, 3, 84), (84, .return_, 1, 85)]
theorem id_X12_duchyClause : ∀ q ∈ it_X12_duchyClause, decode cX12_duchyClause q.1 = .ok (q.2.1, q.2.2.1) ∧ q.1 + q.2.2.1 = q.2.2.2 := by decide +kernel
theorem dc_X12_duchyClause {pc : Nat} {i : Instr} {n pc' : Nat} (j : Nat) (h : it_X12_duchyClause[j]? = some (pc, i, n, pc')) : Dc cX12_duchyClause pc i n pc' := dc_of id_X12_duchyClause j h
abbrev rm_X12_duchyClause : Room := { frames := 6, cells := 0, slots := 0, locals := 137 }
def b_X12_duchyClause_34    (y1 : Int32) (y2 : Int32) (y3 : Int32) (σ : MS) : Option (MS) := (if y3 = (6 : Int32) then (f_X12_fails (0 : Int32) y2 σ).bind (fun r17 => some (r17)) else (f_X12_isFull y3 y1 σ).bind (fun r18 => (if r18 = 0 then (f_X12_duchyWord y3).bind (fun r20 => chk (r20 < 23) ((f_J0_length_8abf5 r20).bind (fun r22 => (f_X12_duchyPart y3 (wI σ 0 30 ((sI σ 0 30) + r22))).bind (fun r23 => some (r23))))) else (f_X12_fails (4 : Int32) y2 σ).bind (fun r24 => some (r24)))))
set_option maxHeartbeats 4000000 in
set_option maxRecDepth 20000 in
theorem c_X12_duchyClause_34 {X : CX} {Ω : OM} (hX : CF X Ω RX12 cX12_duchyClause 4 none rm_X12_duchyClause) (hO : OKO Ω) (hΩ : oSH Ω = SHM)     (y1 : Int32) (y2 : Int32) (y3 : Int32) (σ : MS)  : GE X Ω 4 0 0 (emWV) 0 0 34 [(0, .ref 0), (1, .int y1), (2, .int y2), (3, .int y3)] [] σ (b_X12_duchyClause_34  y1 y2 y3 σ) := by
  unfold b_X12_duchyClause_34
  refine g_iload_n hX (dc_X12_duchyClause 17 rfl) rfl 3 rfl ?_
  refine g_bipush (w := (6 : Int32)) hX (dc_X12_duchyClause 18 rfl) (by decide) ?_
  refine g_icmp_ne (tgt := 47) hX (dc_X12_duchyClause 19 rfl) (by decide) (fun h16 => ?_) (fun h16 => ?_)
  · refine g_aload_n hX (dc_X12_duchyClause 20 rfl) rfl 0 rfl ?_
    refine g_iconst (w := (0 : Int32)) hX (dc_X12_duchyClause 21 rfl) (by decide) ?_
    refine g_iload_n hX (dc_X12_duchyClause 22 rfl) rfl 2 rfl ?_
    refine gV_WV (As := [.int (0 : Int32), .int y2]) (st := []) hX (dc_X12_duchyClause 23 rfl) ml_X12_235 (con_X12_fails hO hΩ (0 : Int32) y2 σ) (stS hΩ 0 rfl) rfl rfl ⟨by decide, by decide⟩ ⟨rfl, rfl⟩ ⟨Nat.zero_le _, Nat.zero_le _⟩ (Nat.le_of_ble_eq_true rfl) (fun r17 _ => ?_)
    exact g_vret hX (dc_X12_duchyClause 24 rfl) rfl (Nat.le_refl _) (Nat.le_refl _)
  · refine g_aload_n hX (dc_X12_duchyClause 25 rfl) rfl 0 rfl ?_
    refine g_iload_n hX (dc_X12_duchyClause 26 rfl) rfl 3 rfl ?_
    refine g_iload_n hX (dc_X12_duchyClause 27 rfl) rfl 1 rfl ?_
    refine gV_PI (As := [.int y3, .int y1]) (st := []) hX (dc_X12_duchyClause 28 rfl) ml_X12_318 (con_X12_isFull hO hΩ y3 y1 σ) (stS hΩ 0 rfl) rfl rfl ⟨by decide, by decide⟩ ⟨rfl, rfl⟩ ⟨Nat.zero_le _, Nat.zero_le _⟩ (Nat.le_of_ble_eq_true rfl) (fun r18 _ => ?_)
    refine g_if_eq (tgt := 63) hX (dc_X12_duchyClause 29 rfl) (by decide) (fun h19 => ?_) (fun h19 => ?_)
    · refine g_aload_n hX (dc_X12_duchyClause 35 rfl) rfl 0 rfl ?_
      refine g_dup hX (dc_X12_duchyClause 36 rfl) rfl ?_
      refine g_getI hX (dc_X12_duchyClause 37 rfl) fl_X12_199 (by decide) rfl (stS hΩ 0 rfl) ?_
      refine g_iload_n hX (dc_X12_duchyClause 38 rfl) rfl 3 rfl ?_
      refine gS_PS (As := [.int y3]) (st := [.int (sI σ 0 30), .ref 0]) hX (dc_X12_duchyClause 39 rfl) ml_X12_315 (con_X12_duchyWord hO hΩ y3 σ) rfl rfl ⟨by decide, by decide⟩ ⟨rfl, rfl⟩ ⟨Nat.zero_le _, Nat.zero_le _⟩ (Nat.le_of_ble_eq_true rfl) (fun r20 _ => ?_)
      refine g_chk (fun hk21 => ?_)
      refine g_callT (As := []) (st := [.int (sI σ 0 30), .ref 0]) hX (dc_X12_duchyClause 40 rfl) ml_X12_210 ⟨wi_J0_length_8abf5, ws_J0_length_8abf5⟩ hk21 (con_J0_length_8abf5 hO r20 σ hk21) rfl rfl ⟨by decide, by decide⟩ ⟨rfl, rfl⟩ ⟨Nat.zero_le _, Nat.zero_le _⟩ (Nat.le_of_ble_eq_true rfl) (fun r22 _ => ?_)
      refine g_iadd hX (dc_X12_duchyClause 41 rfl) ?_
      refine g_putI (raw := false) hX (dc_X12_duchyClause 42 rfl) fl_X12_199 (by decide) ⟨rfl, rfl⟩ ⟨rfl, rfl⟩ (stS hΩ 0 rfl) ?_
      refine g_aload_n hX (dc_X12_duchyClause 43 rfl) rfl 0 rfl ?_
      refine g_iload_n hX (dc_X12_duchyClause 44 rfl) rfl 3 rfl ?_
      refine gV_WV (As := [.int y3]) (st := []) hX (dc_X12_duchyClause 45 rfl) ml_X12_322 (con_X12_duchyPart hO hΩ y3 (wI σ 0 30 ((sI σ 0 30) + r22))) (stS hΩ 0 rfl) rfl rfl ⟨by decide, by decide⟩ ⟨rfl, rfl⟩ ⟨Nat.zero_le _, Nat.zero_le _⟩ (Nat.le_of_ble_eq_true rfl) (fun r23 _ => ?_)
      exact g_vret hX (dc_X12_duchyClause 46 rfl) rfl (Nat.le_refl _) (Nat.le_refl _)
    · refine g_aload_n hX (dc_X12_duchyClause 30 rfl) rfl 0 rfl ?_
      refine g_iconst (w := (4 : Int32)) hX (dc_X12_duchyClause 31 rfl) (by decide) ?_
      refine g_iload_n hX (dc_X12_duchyClause 32 rfl) rfl 2 rfl ?_
      refine gV_WV (As := [.int (4 : Int32), .int y2]) (st := []) hX (dc_X12_duchyClause 33 rfl) ml_X12_235 (con_X12_fails hO hΩ (4 : Int32) y2 σ) (stS hΩ 0 rfl) rfl rfl ⟨by decide, by decide⟩ ⟨rfl, rfl⟩ ⟨Nat.zero_le _, Nat.zero_le _⟩ (Nat.le_of_ble_eq_true rfl) (fun r24 _ => ?_)
      exact g_vret hX (dc_X12_duchyClause 34 rfl) rfl (Nat.le_refl _) (Nat.le_refl _)
def b_X12_duchyClause_11   : Nat → Int32 → Int32 → Int32 → MS → Option (MS)
  | 0, _, _, _, _ => none
  | n + 1, y1, y2, y3, σ => (if (6 : Int32) ≤ y3 then (b_X12_duchyClause_34 (y1) (y2) (y3) σ) else (f_X12_duchyWord y3).bind (fun r26 => chk (r26 < 23) ((f_X12_stood r26 σ).bind (fun r28 => (if r28 = 0 then ((b_X12_duchyClause_11  n) (y1) (y2) ((y3 + (1 : Int32))) σ) else (b_X12_duchyClause_34 (y1) (y2) (y3) σ))))))
set_option maxHeartbeats 4000000 in
set_option maxRecDepth 20000 in
theorem c_X12_duchyClause_11 {X : CX} {Ω : OM} (hX : CF X Ω RX12 cX12_duchyClause 4 none rm_X12_duchyClause) (hO : OKO Ω) (hΩ : oSH Ω = SHM)    : ∀ (n : Nat) (y1 : Int32) (y2 : Int32) (y3 : Int32) (σ : MS) , GE X Ω 4 0 0 (emWV) 0 0 11 [(0, .ref 0), (1, .int y1), (2, .int y2), (3, .int y3)] [] σ (b_X12_duchyClause_11  n y1 y2 y3 σ)
  | 0, _, _, _, _ => g_none
  | n + 1, y1, y2, y3, σ => by
    have hk11 := c_X12_duchyClause_11 hX hO hΩ  n
    unfold b_X12_duchyClause_11
    refine g_iload_n hX (dc_X12_duchyClause 7 rfl) rfl 3 rfl ?_
    refine g_bipush (w := (6 : Int32)) hX (dc_X12_duchyClause 8 rfl) (by decide) ?_
    refine g_icmp_ge (tgt := 34) hX (dc_X12_duchyClause 9 rfl) (by decide) (fun h25 => ?_) (fun h25 => ?_)
    · exact g_sub [0, 1, 2, 3] rfl (c_X12_duchyClause_34 hX hO hΩ (y1) (y2) (y3) σ)
    · refine g_aload_n hX (dc_X12_duchyClause 10 rfl) rfl 0 rfl ?_
      refine g_iload_n hX (dc_X12_duchyClause 11 rfl) rfl 3 rfl ?_
      refine gS_PS (As := [.int y3]) (st := [.ref 0]) hX (dc_X12_duchyClause 12 rfl) ml_X12_315 (con_X12_duchyWord hO hΩ y3 σ) rfl rfl ⟨by decide, by decide⟩ ⟨rfl, rfl⟩ ⟨Nat.zero_le _, Nat.zero_le _⟩ (Nat.le_of_ble_eq_true rfl) (fun r26 _ => ?_)
      refine g_chk (fun hk27 => ?_)
      refine gV_PI (As := [.ref (1000000 + r26)]) (st := []) hX (dc_X12_duchyClause 13 rfl) ml_X12_222 (con_X12_stood hO hΩ r26 σ hk27) (stS hΩ 0 rfl) rfl rfl ⟨by decide, by decide⟩ ⟨rfl, rfl⟩ ⟨Nat.zero_le _, Nat.zero_le _⟩ (Nat.le_of_ble_eq_true rfl) (fun r28 _ => ?_)
      refine g_if_ne (tgt := 34) hX (dc_X12_duchyClause 14 rfl) (by decide) (fun h29 => ?_) (fun h29 => ?_)
      · refine g_iinc (w := (y3 + (1 : Int32))) (L' := [(3, .int (y3 + (1 : Int32))), (0, .ref 0), (1, .int y1), (2, .int y2)]) hX (dc_X12_duchyClause 15 rfl) 3 rfl rfl (by decide) rfl ?_
        refine g_goto (tgt := 11) hX (dc_X12_duchyClause 16 rfl) (by decide) ?_
        exact g_sub [1, 2, 3, 0] rfl (hk11 (y1) (y2) ((y3 + (1 : Int32))) σ )
      · exact g_sub [0, 1, 2, 3] rfl (c_X12_duchyClause_34 hX hO hΩ (y1) (y2) (y3) σ)
def b_X12_duchyClause_0   (x1 : Int32)  (σ : MS) : Option (MS) := (f_X12_blanks σ).bind (fun r30 => (b_X12_duchyClause_11 FU (x1) ((sI r30 0 30)) ((0 : Int32)) r30))
set_option maxHeartbeats 4000000 in
set_option maxRecDepth 20000 in
theorem c_X12_duchyClause_0 {X : CX} {Ω : OM} (hX : CF X Ω RX12 cX12_duchyClause 4 none rm_X12_duchyClause) (hO : OKO Ω) (hΩ : oSH Ω = SHM)    (x1 : Int32)  (σ : MS)  : GE X Ω 4 0 0 (emWV) 0 0 0 [(0, .ref 0), (1, .int x1)] [] σ (b_X12_duchyClause_0  x1 σ) := by
  unfold b_X12_duchyClause_0
  refine g_aload_n hX (dc_X12_duchyClause 0 rfl) rfl 0 rfl ?_
  refine gV_WV (As := []) (st := []) hX (dc_X12_duchyClause 1 rfl) ml_X12_219 (con_X12_blanks hO hΩ σ) (stS hΩ 0 rfl) rfl rfl ⟨by decide, by decide⟩ ⟨rfl, rfl⟩ ⟨Nat.zero_le _, Nat.zero_le _⟩ (Nat.le_of_ble_eq_true rfl) (fun r30 _ => ?_)
  refine g_aload_n hX (dc_X12_duchyClause 2 rfl) rfl 0 rfl ?_
  refine g_getI hX (dc_X12_duchyClause 3 rfl) fl_X12_199 (by decide) rfl (stS hΩ 0 rfl) ?_
  refine g_istore_n (L' := [(2, .int (sI r30 0 30)), (0, .ref 0), (1, .int x1)]) hX (dc_X12_duchyClause 4 rfl) rfl (by decide) rfl ?_
  refine g_iconst (w := (0 : Int32)) hX (dc_X12_duchyClause 5 rfl) (by decide) ?_
  refine g_istore_n (L' := [(3, .int (0 : Int32)), (2, .int (sI r30 0 30)), (0, .ref 0), (1, .int x1)]) hX (dc_X12_duchyClause 6 rfl) rfl (by decide) rfl ?_
  exact g_sub [2, 3, 1, 0] rfl (c_X12_duchyClause_11 hX hO hΩ FU (x1) ((sI r30 0 30)) ((0 : Int32)) r30)
def f_X12_duchyClause (x1 : Int32) (σ : MS) : Option (MS) := b_X12_duchyClause_0  x1 σ
theorem con_X12_duchyClause {Ω : OM} (hO : OKO Ω) (hΩ : oSH Ω = SHM) (x1 : Int32) (σ : MS)  : Con Ω yX12_duchyClause cX12_duchyClause 4 none rm_X12_duchyClause (emWV) [.ref 0, .int x1] σ (f_X12_duchyClause x1 σ) :=
  con_of hO (by decide +kernel) (Nat.le_of_ble_eq_true rfl) rfl (fun X hX _ => c_X12_duchyClause_0 hX hO hΩ   x1 σ )
def it_X12_copies : List (Nat × Instr × Nat × Nat) := [(0, .iconst 0, 1, 1), (1, .istore_n 2, 1, 2), (2, .iload_n 2, 1, 3), (3, .aload_n 0, 1, 4), (4, .arraylength, 1, 5), (5, .if_icmp .ge 15, 3, 8), (8, .aload_n 1, 1, 9), (9, .iload_n 2, 1, 10), (10, .aload_n 0, 1, 11), (11, .iload_n 2, 1, 12), (12, .iaload, 1, 13), (13, .iastore, 1, 14), (14, .iinc 2 1, 3, 17), (17, .goto (-15), 3, 20), (20, .return_, 1, 21)]
theorem id_X12_copies : ∀ q ∈ it_X12_copies, decode cX12_copies q.1 = .ok (q.2.1, q.2.2.1) ∧ q.1 + q.2.2.1 = q.2.2.2 := by decide +kernel
theorem dc_X12_copies {pc : Nat} {i : Instr} {n pc' : Nat} (j : Nat) (h : it_X12_copies[j]? = some (pc, i, n, pc')) : Dc cX12_copies pc i n pc' := dc_of id_X12_copies j h
abbrev rm_X12_copies : Room := { frames := 0, cells := 0, slots := 0, locals := 0 }
def b_X12_copies_2 (a0 : Nat) (n0 : Nat) (a1 : Nat) (n1 : Nat)  : Nat → Int32 → MS → Option (MS)
  | 0, _, _ => none
  | n + 1, y2, σ => (if (Int32.ofNat n0) ≤ y2 then some (σ) else chk (inb y2 n0) (chk (inb y2 n1) (((b_X12_copies_2 a0 n0 a1 n1 n) ((y2 + (1 : Int32))) (wI σ a1 (ix y2) (sI σ a0 (ix y2)))))))
set_option maxHeartbeats 4000000 in
set_option maxRecDepth 20000 in
theorem c_X12_copies_2 {X : CX} {Ω : OM} (hX : CF X Ω RX12 cX12_copies 3 none rm_X12_copies) (hO : OKO Ω) (hΩ : oSH Ω = SHM) (a0 : Nat) (n0 : Nat) (a1 : Nat) (n1 : Nat) (ha0 : (oSH Ω)[a0]? = some (0, n0)) (ha1 : (oSH Ω)[a1]? = some (0, n1))  : ∀ (n : Nat) (y2 : Int32) (σ : MS) , GE X Ω 3 0 0 (emWV) 0 0 2 [(0, .ref a0), (1, .ref a1), (2, .int y2)] [] σ (b_X12_copies_2 a0 n0 a1 n1 n y2 σ)
  | 0, _, _ => g_none
  | n + 1, y2, σ => by
    have hk2 := c_X12_copies_2 hX hO hΩ a0 n0 a1 n1 ha0 ha1 n
    unfold b_X12_copies_2
    refine g_iload_n hX (dc_X12_copies 2 rfl) rfl 2 rfl ?_
    refine g_aload_n hX (dc_X12_copies 3 rfl) rfl 0 rfl ?_
    refine g_alen (w := (Int32.ofNat n0)) hX (dc_X12_copies 4 rfl) (Or.inl ha0) (by decide) rfl ?_
    refine g_icmp_ge (tgt := 20) hX (dc_X12_copies 5 rfl) (by decide) (fun h4 => ?_) (fun h4 => ?_)
    · exact g_vret hX (dc_X12_copies 14 rfl) rfl (Nat.le_refl _) (Nat.le_refl _)
    · refine g_aload_n hX (dc_X12_copies 6 rfl) rfl 1 rfl ?_
      refine g_iload_n hX (dc_X12_copies 7 rfl) rfl 2 rfl ?_
      refine g_aload_n hX (dc_X12_copies 8 rfl) rfl 0 rfl ?_
      refine g_iload_n hX (dc_X12_copies 9 rfl) rfl 2 rfl ?_
      refine g_chk (fun hc5 => ?_)
      refine g_iald hX (dc_X12_copies 10 rfl) (Or.inl ha0) hc5 rfl ?_
      refine g_chk (fun hc6 => ?_)
      refine g_iast hX (dc_X12_copies 11 rfl) (Or.inl ha1) hc6 rfl ?_
      refine g_iinc (w := (y2 + (1 : Int32))) (L' := [(2, .int (y2 + (1 : Int32))), (0, .ref a0), (1, .ref a1)]) hX (dc_X12_copies 12 rfl) 2 rfl rfl (by decide) rfl ?_
      refine g_goto (tgt := 2) hX (dc_X12_copies 13 rfl) (by decide) ?_
      exact g_sub [1, 2, 0] rfl (hk2 ((y2 + (1 : Int32))) (wI σ a1 (ix y2) (sI σ a0 (ix y2))) )
def b_X12_copies_0 (a0 : Nat) (n0 : Nat) (a1 : Nat) (n1 : Nat)    (σ : MS) : Option (MS) := (b_X12_copies_2 a0 n0 a1 n1 FU ((0 : Int32)) σ)
set_option maxHeartbeats 4000000 in
set_option maxRecDepth 20000 in
theorem c_X12_copies_0 {X : CX} {Ω : OM} (hX : CF X Ω RX12 cX12_copies 3 none rm_X12_copies) (hO : OKO Ω) (hΩ : oSH Ω = SHM) (a0 : Nat) (n0 : Nat) (a1 : Nat) (n1 : Nat) (ha0 : (oSH Ω)[a0]? = some (0, n0)) (ha1 : (oSH Ω)[a1]? = some (0, n1))    (σ : MS)  : GE X Ω 3 0 0 (emWV) 0 0 0 [(0, .ref a0), (1, .ref a1)] [] σ (b_X12_copies_0 a0 n0 a1 n1 σ) := by
  unfold b_X12_copies_0
  refine g_iconst (w := (0 : Int32)) hX (dc_X12_copies 0 rfl) (by decide) ?_
  refine g_istore_n (L' := [(2, .int (0 : Int32)), (0, .ref a0), (1, .ref a1)]) hX (dc_X12_copies 1 rfl) rfl (by decide) rfl ?_
  exact g_sub [1, 2, 0] rfl (c_X12_copies_2 hX hO hΩ a0 n0 a1 n1 ha0 ha1 FU ((0 : Int32)) σ)
def f_X12_copies (a0 : Nat) (n0 : Nat) (a1 : Nat) (n1 : Nat) (σ : MS) : Option (MS) := b_X12_copies_0 a0 n0 a1 n1  σ
theorem con_X12_copies {Ω : OM} (hO : OKO Ω) (hΩ : oSH Ω = SHM) (a0 : Nat) (n0 : Nat) (a1 : Nat) (n1 : Nat) (σ : MS) (ha0 : (oSH Ω)[a0]? = some (0, n0)) (ha1 : (oSH Ω)[a1]? = some (0, n1)) : Con Ω yX12_copies cX12_copies 3 none rm_X12_copies (emWV) [.ref a0, .ref a1] σ (f_X12_copies a0 n0 a1 n1 σ) :=
  con_of hO (by decide +kernel) (Nat.le_of_ble_eq_true rfl) rfl (fun X hX _ => c_X12_copies_0 hX hO hΩ a0 n0 a1 n1 ha0 ha1  σ )
def it_X12_goesOn : List (Nat × Instr × Nat × Nat) := [(0, .aload_n 0, 1, 1), (1, .invokevirtual 219, 3, 4), (4, .aload_n 0, 1, 5), (5, .getfield 196, 3, 8), (8, .ifCond .ne 32, 3, 11), (11, .aload_n 0, 1, 12), (12, .getfield 199, 3, 15), (15, .aload_n 0, 1, 16), (16, .getfield 169, 3, 19), (19, .if_icmp .ge 21, 3, 22), (22, .aload_n 0, 1, 23), (23, .invokevirtual 202, 3, 26), (26, .bipush 59, 2, 28), (28, .if_icmp .eq 12, 3, 31), (31, .aload_n 0, 1, 32), (32, .iconst 0, 1, 33), (33, .aload_n 0, 1, 34), (34, .getfield 199, 3, 37), (37, .invokevirtual 235, 3, 40), (40, .aload_n 0, 1, 41), (41, .getfield 196, 3, 44), (44, .ifCond .ne 18, 3, 47), (47, .aload_n 0, 1, 48), (48, .getfield 199, 3, 51), (51, .aload_n 0, 1, 52), (52, .getfield 169, 3, 55), (55, .if_icmp .ge 7, 3, 58), (58, .iconst 1, 1, 59), (59, .goto 4, 3, 62), (62, .iconst 0, 1, 63), (63, .istore_n 1, 1, 64), (64, .aload_n 0, 1, 65), (65, .dup, 1, 66), (66, .getfield 199, 3, 69), (69, .iconst 1, 1, 70), (70, .iadd, 1, 71), (71, .putfield 199, 3, 74), (74, .iload_n 1, 1, 75), (75, .ireturn, 1, 76)]
theorem id_X12_goesOn : ∀ q ∈ it_X12_goesOn, decode cX12_goesOn q.1 = .ok (q.2.1, q.2.2.1) ∧ q.1 + q.2.2.1 = q.2.2.2 := by decide +kernel
theorem dc_X12_goesOn {pc : Nat} {i : Instr} {n pc' : Nat} (j : Nat) (h : it_X12_goesOn[j]? = some (pc, i, n, pc')) : Dc cX12_goesOn pc i n pc' := dc_of id_X12_goesOn j h
abbrev rm_X12_goesOn : Room := { frames := 2, cells := 0, slots := 0, locals := 40 }
def b_X12_goesOn_63    (s0 : Int32) (σ : MS) : Option (Int32 × MS) := chk (s0 = 0 ∨ s0 = 1) (some (s0, (wI σ 0 30 ((sI σ 0 30) + (1 : Int32)))))
set_option maxHeartbeats 4000000 in
set_option maxRecDepth 20000 in
theorem c_X12_goesOn_63 {X : CX} {Ω : OM} (hX : CF X Ω RX12 cX12_goesOn 2 (some .boolean) rm_X12_goesOn) (hO : OKO Ω) (hΩ : oSH Ω = SHM)     (s0 : Int32) (σ : MS)  : GE X Ω 2 0 0 (emWI) 0 0 63 [(0, .ref 0)] [.int s0] σ (b_X12_goesOn_63  s0 σ) := by
  unfold b_X12_goesOn_63
  refine g_istore_n (L' := [(1, .int s0), (0, .ref 0)]) hX (dc_X12_goesOn 30 rfl) rfl (by decide) rfl ?_
  refine g_aload_n hX (dc_X12_goesOn 31 rfl) rfl 1 rfl ?_
  refine g_dup hX (dc_X12_goesOn 32 rfl) rfl ?_
  refine g_getI hX (dc_X12_goesOn 33 rfl) fl_X12_199 (by decide) rfl (stS hΩ 0 rfl) ?_
  refine g_iconst (w := (1 : Int32)) hX (dc_X12_goesOn 34 rfl) (by decide) ?_
  refine g_iadd hX (dc_X12_goesOn 35 rfl) ?_
  refine g_putI (raw := false) hX (dc_X12_goesOn 36 rfl) fl_X12_199 (by decide) ⟨rfl, rfl⟩ ⟨rfl, rfl⟩ (stS hΩ 0 rfl) ?_
  refine g_iload_n hX (dc_X12_goesOn 37 rfl) rfl 0 rfl ?_
  refine g_chk (fun hc10 => ?_)
  exact g_iret hX (dc_X12_goesOn 38 rfl) (nz_bool hc10).1 rfl (Nat.le_refl _) (Nat.le_refl _)
def b_X12_goesOn_62     (σ : MS) : Option (Int32 × MS) := (b_X12_goesOn_63 ((0 : Int32)) σ)
set_option maxHeartbeats 4000000 in
set_option maxRecDepth 20000 in
theorem c_X12_goesOn_62 {X : CX} {Ω : OM} (hX : CF X Ω RX12 cX12_goesOn 2 (some .boolean) rm_X12_goesOn) (hO : OKO Ω) (hΩ : oSH Ω = SHM)      (σ : MS)  : GE X Ω 2 0 0 (emWI) 0 0 62 [(0, .ref 0)] [] σ (b_X12_goesOn_62  σ) := by
  unfold b_X12_goesOn_62
  refine g_iconst (w := (0 : Int32)) hX (dc_X12_goesOn 29 rfl) (by decide) ?_
  exact g_sub [0] rfl (c_X12_goesOn_63 hX hO hΩ ((0 : Int32)) σ)
def b_X12_goesOn_40     (σ : MS) : Option (Int32 × MS) := (if (sI σ 0 31) = 0 then (if (sI σ 0 29) ≤ (sI σ 0 30) then (b_X12_goesOn_62 σ) else (b_X12_goesOn_63 ((1 : Int32)) σ)) else (b_X12_goesOn_62 σ))
set_option maxHeartbeats 4000000 in
set_option maxRecDepth 20000 in
theorem c_X12_goesOn_40 {X : CX} {Ω : OM} (hX : CF X Ω RX12 cX12_goesOn 2 (some .boolean) rm_X12_goesOn) (hO : OKO Ω) (hΩ : oSH Ω = SHM)      (σ : MS)  : GE X Ω 2 0 0 (emWI) 0 0 40 [(0, .ref 0)] [] σ (b_X12_goesOn_40  σ) := by
  unfold b_X12_goesOn_40
  refine g_aload_n hX (dc_X12_goesOn 19 rfl) rfl 0 rfl ?_
  refine g_getI hX (dc_X12_goesOn 20 rfl) fl_X12_196 (by decide) rfl (stS hΩ 0 rfl) ?_
  refine g_if_ne (tgt := 62) hX (dc_X12_goesOn 21 rfl) (by decide) (fun h11 => ?_) (fun h11 => ?_)
  · refine g_aload_n hX (dc_X12_goesOn 22 rfl) rfl 0 rfl ?_
    refine g_getI hX (dc_X12_goesOn 23 rfl) fl_X12_199 (by decide) rfl (stS hΩ 0 rfl) ?_
    refine g_aload_n hX (dc_X12_goesOn 24 rfl) rfl 0 rfl ?_
    refine g_getI hX (dc_X12_goesOn 25 rfl) fl_X12_169 (by decide) rfl (stS hΩ 0 rfl) ?_
    refine g_icmp_ge (tgt := 62) hX (dc_X12_goesOn 26 rfl) (by decide) (fun h12 => ?_) (fun h12 => ?_)
    · exact g_sub [0] rfl (c_X12_goesOn_62 hX hO hΩ σ)
    · refine g_iconst (w := (1 : Int32)) hX (dc_X12_goesOn 27 rfl) (by decide) ?_
      refine g_goto (tgt := 63) hX (dc_X12_goesOn 28 rfl) (by decide) ?_
      exact g_sub [0] rfl (c_X12_goesOn_63 hX hO hΩ ((1 : Int32)) σ)
  · exact g_sub [0] rfl (c_X12_goesOn_62 hX hO hΩ σ)
def b_X12_goesOn_0     (σ : MS) : Option (Int32 × MS) := (f_X12_blanks σ).bind (fun r13 => (if (sI r13 0 31) = 0 then (if (sI r13 0 29) ≤ (sI r13 0 30) then (b_X12_goesOn_40 r13) else (f_X12_sign r13).bind (fun r16 => (if r16 = (59 : Int32) then (b_X12_goesOn_40 r13) else (f_X12_fails (0 : Int32) (sI r13 0 30) r13).bind (fun r18 => (b_X12_goesOn_40 r18))))) else (b_X12_goesOn_40 r13)))
set_option maxHeartbeats 4000000 in
set_option maxRecDepth 20000 in
theorem c_X12_goesOn_0 {X : CX} {Ω : OM} (hX : CF X Ω RX12 cX12_goesOn 2 (some .boolean) rm_X12_goesOn) (hO : OKO Ω) (hΩ : oSH Ω = SHM)      (σ : MS)  : GE X Ω 2 0 0 (emWI) 0 0 0 [(0, .ref 0)] [] σ (b_X12_goesOn_0  σ) := by
  unfold b_X12_goesOn_0
  refine g_aload_n hX (dc_X12_goesOn 0 rfl) rfl 0 rfl ?_
  refine gV_WV (As := []) (st := []) hX (dc_X12_goesOn 1 rfl) ml_X12_219 (con_X12_blanks hO hΩ σ) (stS hΩ 0 rfl) rfl rfl ⟨by decide, by decide⟩ ⟨rfl, rfl⟩ ⟨Nat.zero_le _, Nat.zero_le _⟩ (Nat.le_of_ble_eq_true rfl) (fun r13 _ => ?_)
  refine g_aload_n hX (dc_X12_goesOn 2 rfl) rfl 0 rfl ?_
  refine g_getI hX (dc_X12_goesOn 3 rfl) fl_X12_196 (by decide) rfl (stS hΩ 0 rfl) ?_
  refine g_if_ne (tgt := 40) hX (dc_X12_goesOn 4 rfl) (by decide) (fun h14 => ?_) (fun h14 => ?_)
  · refine g_aload_n hX (dc_X12_goesOn 5 rfl) rfl 0 rfl ?_
    refine g_getI hX (dc_X12_goesOn 6 rfl) fl_X12_199 (by decide) rfl (stS hΩ 0 rfl) ?_
    refine g_aload_n hX (dc_X12_goesOn 7 rfl) rfl 0 rfl ?_
    refine g_getI hX (dc_X12_goesOn 8 rfl) fl_X12_169 (by decide) rfl (stS hΩ 0 rfl) ?_
    refine g_icmp_ge (tgt := 40) hX (dc_X12_goesOn 9 rfl) (by decide) (fun h15 => ?_) (fun h15 => ?_)
    · exact g_sub [0] rfl (c_X12_goesOn_40 hX hO hΩ r13)
    · refine g_aload_n hX (dc_X12_goesOn 10 rfl) rfl 0 rfl ?_
      refine gV_PI (As := []) (st := []) hX (dc_X12_goesOn 11 rfl) ml_X12_202 (con_X12_sign hO hΩ r13) (stS hΩ 0 rfl) rfl rfl ⟨by decide, by decide⟩ ⟨rfl, rfl⟩ ⟨Nat.zero_le _, Nat.zero_le _⟩ (Nat.le_of_ble_eq_true rfl) (fun r16 _ => ?_)
      refine g_bipush (w := (59 : Int32)) hX (dc_X12_goesOn 12 rfl) (by decide) ?_
      refine g_icmp_eq (tgt := 40) hX (dc_X12_goesOn 13 rfl) (by decide) (fun h17 => ?_) (fun h17 => ?_)
      · exact g_sub [0] rfl (c_X12_goesOn_40 hX hO hΩ r13)
      · refine g_aload_n hX (dc_X12_goesOn 14 rfl) rfl 0 rfl ?_
        refine g_iconst (w := (0 : Int32)) hX (dc_X12_goesOn 15 rfl) (by decide) ?_
        refine g_aload_n hX (dc_X12_goesOn 16 rfl) rfl 0 rfl ?_
        refine g_getI hX (dc_X12_goesOn 17 rfl) fl_X12_199 (by decide) rfl (stS hΩ 0 rfl) ?_
        refine gV_WV (As := [.int (0 : Int32), .int (sI r13 0 30)]) (st := []) hX (dc_X12_goesOn 18 rfl) ml_X12_235 (con_X12_fails hO hΩ (0 : Int32) (sI r13 0 30) r13) (stS hΩ 0 rfl) rfl rfl ⟨by decide, by decide⟩ ⟨rfl, rfl⟩ ⟨Nat.zero_le _, Nat.zero_le _⟩ (Nat.le_of_ble_eq_true rfl) (fun r18 _ => ?_)
        exact g_sub [0] rfl (c_X12_goesOn_40 hX hO hΩ r18)
  · exact g_sub [0] rfl (c_X12_goesOn_40 hX hO hΩ r13)
def f_X12_goesOn  (σ : MS) : Option (Int32 × MS) := b_X12_goesOn_0   σ
theorem con_X12_goesOn {Ω : OM} (hO : OKO Ω) (hΩ : oSH Ω = SHM)  (σ : MS)  : Con Ω yX12_goesOn cX12_goesOn 2 (some .boolean) rm_X12_goesOn (emWI) [.ref 0] σ (f_X12_goesOn  σ) :=
  con_of hO (by decide +kernel) (Nat.le_of_ble_eq_true rfl) rfl (fun X hX _ => c_X12_goesOn_0 hX hO hΩ    σ )
def it_X12_starts : List (Nat × Instr × Nat × Nat) := [(0, .aload_n 0, 1, 1), (1, .iconst 0, 1, 2), (2, .putfield 199, 3, 5), (5, .aload_n 0, 1, 6), (6, .iconst 0, 1, 7), (7, .putfield 196, 3, 10), (10, .aload_n 0, 1, 11), (11, .iconst 0, 1, 12), (12, .putfield 229, 3, 15), (15, .aload_n 0, 1, 16), (16, .iconst 0, 1, 17), (17, .putfield 270, 3, 20), (20, .aload_n 0, 1, 21), (21, .iconst 0, 1, 22), (22, .putfield 232, 3, 25), (25, .return_, 1, 26)]
theorem id_X12_starts : ∀ q ∈ it_X12_starts, decode cX12_starts q.1 = .ok (q.2.1, q.2.2.1) ∧ q.1 + q.2.2.1 = q.2.2.2 := by decide +kernel
theorem dc_X12_starts {pc : Nat} {i : Instr} {n pc' : Nat} (j : Nat) (h : it_X12_starts[j]? = some (pc, i, n, pc')) : Dc cX12_starts pc i n pc' := dc_of id_X12_starts j h
abbrev rm_X12_starts : Room := { frames := 0, cells := 0, slots := 0, locals := 0 }
def b_X12_starts_0     (σ : MS) : Option (MS) := some ((wI (wI (wI (wI (wI σ 0 30 (0 : Int32)) 0 31 (0 : Int32)) 0 34 (0 : Int32)) 0 35 (0 : Int32)) 0 36 (0 : Int32)))
set_option maxHeartbeats 4000000 in
set_option maxRecDepth 20000 in
theorem c_X12_starts_0 {X : CX} {Ω : OM} (hX : CF X Ω RX12 cX12_starts 1 none rm_X12_starts) (hO : OKO Ω) (hΩ : oSH Ω = SHM)      (σ : MS)  : GE X Ω 1 0 0 (emWV) 0 0 0 [(0, .ref 0)] [] σ (b_X12_starts_0  σ) := by
  unfold b_X12_starts_0
  refine g_aload_n hX (dc_X12_starts 0 rfl) rfl 0 rfl ?_
  refine g_iconst (w := (0 : Int32)) hX (dc_X12_starts 1 rfl) (by decide) ?_
  refine g_putI (raw := false) hX (dc_X12_starts 2 rfl) fl_X12_199 (by decide) ⟨rfl, rfl⟩ ⟨rfl, rfl⟩ (stS hΩ 0 rfl) ?_
  refine g_aload_n hX (dc_X12_starts 3 rfl) rfl 0 rfl ?_
  refine g_iconst (w := (0 : Int32)) hX (dc_X12_starts 4 rfl) (by decide) ?_
  refine g_putI (raw := false) hX (dc_X12_starts 5 rfl) fl_X12_196 (by decide) ⟨rfl, rfl⟩ ⟨rfl, rfl⟩ (stS hΩ 0 rfl) ?_
  refine g_aload_n hX (dc_X12_starts 6 rfl) rfl 0 rfl ?_
  refine g_iconst (w := (0 : Int32)) hX (dc_X12_starts 7 rfl) (by decide) ?_
  refine g_putI (raw := false) hX (dc_X12_starts 8 rfl) fl_X12_229 (by decide) ⟨rfl, rfl⟩ ⟨rfl, rfl⟩ (stS hΩ 0 rfl) ?_
  refine g_aload_n hX (dc_X12_starts 9 rfl) rfl 0 rfl ?_
  refine g_iconst (w := (0 : Int32)) hX (dc_X12_starts 10 rfl) (by decide) ?_
  refine g_putI (raw := false) hX (dc_X12_starts 11 rfl) fl_X12_270 (by decide) ⟨rfl, rfl⟩ ⟨rfl, rfl⟩ (stS hΩ 0 rfl) ?_
  refine g_aload_n hX (dc_X12_starts 12 rfl) rfl 0 rfl ?_
  refine g_iconst (w := (0 : Int32)) hX (dc_X12_starts 13 rfl) (by decide) ?_
  refine g_putI (raw := false) hX (dc_X12_starts 14 rfl) fl_X12_232 (by decide) ⟨rfl, rfl⟩ ⟨rfl, rfl⟩ (stS hΩ 0 rfl) ?_
  exact g_vret hX (dc_X12_starts 15 rfl) rfl (Nat.le_refl _) (Nat.le_refl _)
def f_X12_starts  (σ : MS) : Option (MS) := b_X12_starts_0   σ
theorem con_X12_starts {Ω : OM} (hO : OKO Ω) (hΩ : oSH Ω = SHM)  (σ : MS)  : Con Ω yX12_starts cX12_starts 1 none rm_X12_starts (emWV) [.ref 0] σ (f_X12_starts  σ) :=
  con_of hO (by decide +kernel) (Nat.le_of_ble_eq_true rfl) rfl (fun X hX _ => c_X12_starts_0 hX hO hΩ    σ )
def it_X12_readsAll : List (Nat × Instr × Nat × Nat) := [(0, .aload_n 0, 1, 1), (1, .invokevirtual 325, 3, 4), (4, .iconst 0, 1, 5), (5, .istore_n 1, 1, 6), (6, .iload_n 1, 1, 7), (7, .iconst 5, 1, 8), (8, .if_icmp .ge 16, 3, 11), (11, .aload_n 0, 1, 12), (12, .getfield 61, 3, 15), (15, .iload_n 1, 1, 16), (16, .iconst 0, 1, 17), (17, .iastore, 1, 18), (18, .iinc 1 1, 3, 21), (21, .goto (-15), 3, 24), (24, .iconst 0, 1, 25), (25, .istore_n 1, 1, 26), (26, .iconst 1, 1, 27), (27, .istore_n 2, 1, 28), (28, .iload_n 2, 1, 29), (29, .ifCond .eq 19, 3, 32), (32, .aload_n 0, 1, 33), (33, .iload_n 1, 1, 34), (34, .invokevirtual 328, 3, 37), (37, .iinc 1 1, 3, 40), (40, .aload_n 0, 1, 41), (41, .invokevirtual 331, 3, 44), (44, .istore_n 2, 1, 45), (45, .goto (-17), 3, 48), (48, .aload_n 0, 1, 49), (49, .iconst 0, 1, 50), (50, .putfield 169, 3, 53), (53, .return_, 1, 54)]
theorem id_X12_readsAll : ∀ q ∈ it_X12_readsAll, decode cX12_readsAll q.1 = .ok (q.2.1, q.2.2.1) ∧ q.1 + q.2.2.1 = q.2.2.2 := by decide +kernel
theorem dc_X12_readsAll {pc : Nat} {i : Instr} {n pc' : Nat} (j : Nat) (h : it_X12_readsAll[j]? = some (pc, i, n, pc')) : Dc cX12_readsAll pc i n pc' := dc_of id_X12_readsAll j h
abbrev rm_X12_readsAll : Room := { frames := 7, cells := 0, slots := 0, locals := 160 }
def b_X12_readsAll_28   : Nat → Int32 → Int32 → MS → Option (MS)
  | 0, _, _, _ => none
  | n + 1, y1, y2, σ => (if y2 = 0 then some ((wI σ 0 29 (0 : Int32))) else (f_X12_duchyClause y1 σ).bind (fun r8 => (f_X12_goesOn r8).bind (fun r9 => ((b_X12_readsAll_28  n) ((y1 + (1 : Int32))) (r9.1) r9.2))))
set_option maxHeartbeats 4000000 in
set_option maxRecDepth 20000 in
theorem c_X12_readsAll_28 {X : CX} {Ω : OM} (hX : CF X Ω RX12 cX12_readsAll 3 none rm_X12_readsAll) (hO : OKO Ω) (hΩ : oSH Ω = SHM)    : ∀ (n : Nat) (y1 : Int32) (y2 : Int32) (σ : MS) , GE X Ω 3 0 0 (emWV) 0 0 28 [(0, .ref 0), (1, .int y1), (2, .int y2)] [] σ (b_X12_readsAll_28  n y1 y2 σ)
  | 0, _, _, _ => g_none
  | n + 1, y1, y2, σ => by
    have hk28 := c_X12_readsAll_28 hX hO hΩ  n
    unfold b_X12_readsAll_28
    refine g_iload_n hX (dc_X12_readsAll 18 rfl) rfl 2 rfl ?_
    refine g_if_eq (tgt := 48) hX (dc_X12_readsAll 19 rfl) (by decide) (fun h7 => ?_) (fun h7 => ?_)
    · refine g_aload_n hX (dc_X12_readsAll 28 rfl) rfl 0 rfl ?_
      refine g_iconst (w := (0 : Int32)) hX (dc_X12_readsAll 29 rfl) (by decide) ?_
      refine g_putI (raw := false) hX (dc_X12_readsAll 30 rfl) fl_X12_169 (by decide) ⟨rfl, rfl⟩ ⟨rfl, rfl⟩ (stS hΩ 0 rfl) ?_
      exact g_vret hX (dc_X12_readsAll 31 rfl) rfl (Nat.le_refl _) (Nat.le_refl _)
    · refine g_aload_n hX (dc_X12_readsAll 20 rfl) rfl 0 rfl ?_
      refine g_iload_n hX (dc_X12_readsAll 21 rfl) rfl 1 rfl ?_
      refine gV_WV (As := [.int y1]) (st := []) hX (dc_X12_readsAll 22 rfl) ml_X12_328 (con_X12_duchyClause hO hΩ y1 σ) (stS hΩ 0 rfl) rfl rfl ⟨by decide, by decide⟩ ⟨rfl, rfl⟩ ⟨Nat.zero_le _, Nat.zero_le _⟩ (Nat.le_of_ble_eq_true rfl) (fun r8 _ => ?_)
      refine g_iinc (w := (y1 + (1 : Int32))) (L' := [(1, .int (y1 + (1 : Int32))), (0, .ref 0), (2, .int y2)]) hX (dc_X12_readsAll 23 rfl) 1 rfl rfl (by decide) rfl ?_
      refine g_aload_n hX (dc_X12_readsAll 24 rfl) rfl 1 rfl ?_
      refine gV_WI (As := []) (st := []) hX (dc_X12_readsAll 25 rfl) ml_X12_331 (con_X12_goesOn hO hΩ r8) (stS hΩ 0 rfl) rfl rfl ⟨by decide, by decide⟩ ⟨rfl, rfl⟩ ⟨Nat.zero_le _, Nat.zero_le _⟩ (Nat.le_of_ble_eq_true rfl) (fun r9 _ => ?_)
      refine g_istore_n (L' := [(2, .int r9.1), (1, .int (y1 + (1 : Int32))), (0, .ref 0)]) hX (dc_X12_readsAll 26 rfl) rfl (by decide) rfl ?_
      refine g_goto (tgt := 28) hX (dc_X12_readsAll 27 rfl) (by decide) ?_
      exact g_sub [2, 1, 0] rfl (hk28 ((y1 + (1 : Int32))) (r9.1) r9.2 )
def b_X12_readsAll_6   : Nat → Int32 → MS → Option (MS)
  | 0, _, _ => none
  | n + 1, y1, σ => (if (5 : Int32) ≤ y1 then (b_X12_readsAll_28 FU ((0 : Int32)) ((1 : Int32)) σ) else chk (inb y1 5) (((b_X12_readsAll_6  n) ((y1 + (1 : Int32))) (wI σ 18 (ix y1) (0 : Int32)))))
set_option maxHeartbeats 4000000 in
set_option maxRecDepth 20000 in
theorem c_X12_readsAll_6 {X : CX} {Ω : OM} (hX : CF X Ω RX12 cX12_readsAll 3 none rm_X12_readsAll) (hO : OKO Ω) (hΩ : oSH Ω = SHM)    : ∀ (n : Nat) (y1 : Int32) (σ : MS) , GE X Ω 3 0 0 (emWV) 0 0 6 [(0, .ref 0), (1, .int y1)] [] σ (b_X12_readsAll_6  n y1 σ)
  | 0, _, _ => g_none
  | n + 1, y1, σ => by
    have hk6 := c_X12_readsAll_6 hX hO hΩ  n
    unfold b_X12_readsAll_6
    refine g_iload_n hX (dc_X12_readsAll 4 rfl) rfl 1 rfl ?_
    refine g_iconst (w := (5 : Int32)) hX (dc_X12_readsAll 5 rfl) (by decide) ?_
    refine g_icmp_ge (tgt := 24) hX (dc_X12_readsAll 6 rfl) (by decide) (fun h10 => ?_) (fun h10 => ?_)
    · refine g_iconst (w := (0 : Int32)) hX (dc_X12_readsAll 14 rfl) (by decide) ?_
      refine g_istore_n (L' := [(1, .int (0 : Int32)), (0, .ref 0)]) hX (dc_X12_readsAll 15 rfl) rfl (by decide) rfl ?_
      refine g_iconst (w := (1 : Int32)) hX (dc_X12_readsAll 16 rfl) (by decide) ?_
      refine g_istore_n (L' := [(2, .int (1 : Int32)), (1, .int (0 : Int32)), (0, .ref 0)]) hX (dc_X12_readsAll 17 rfl) rfl (by decide) rfl ?_
      exact g_sub [2, 1, 0] rfl (c_X12_readsAll_28 hX hO hΩ FU ((0 : Int32)) ((1 : Int32)) σ)
    · refine g_aload_n hX (dc_X12_readsAll 7 rfl) rfl 0 rfl ?_
      refine g_getF (q := 18) hX (dc_X12_readsAll 8 rfl) fl_X12_61 (by decide) rfl (stS hΩ 0 rfl) rfl ?_
      refine g_iload_n hX (dc_X12_readsAll 9 rfl) rfl 1 rfl ?_
      refine g_iconst (w := (0 : Int32)) hX (dc_X12_readsAll 10 rfl) (by decide) ?_
      refine g_chk (fun hc11 => ?_)
      refine g_iast hX (dc_X12_readsAll 11 rfl) (stS hΩ 18 rfl) hc11 rfl ?_
      refine g_iinc (w := (y1 + (1 : Int32))) (L' := [(1, .int (y1 + (1 : Int32))), (0, .ref 0)]) hX (dc_X12_readsAll 12 rfl) 1 rfl rfl (by decide) rfl ?_
      refine g_goto (tgt := 6) hX (dc_X12_readsAll 13 rfl) (by decide) ?_
      exact g_sub [1, 0] rfl (hk6 ((y1 + (1 : Int32))) (wI σ 18 (ix y1) (0 : Int32)) )
def b_X12_readsAll_0     (σ : MS) : Option (MS) := (f_X12_starts σ).bind (fun r12 => (b_X12_readsAll_6 FU ((0 : Int32)) r12))
set_option maxHeartbeats 4000000 in
set_option maxRecDepth 20000 in
theorem c_X12_readsAll_0 {X : CX} {Ω : OM} (hX : CF X Ω RX12 cX12_readsAll 3 none rm_X12_readsAll) (hO : OKO Ω) (hΩ : oSH Ω = SHM)      (σ : MS)  : GE X Ω 3 0 0 (emWV) 0 0 0 [(0, .ref 0)] [] σ (b_X12_readsAll_0  σ) := by
  unfold b_X12_readsAll_0
  refine g_aload_n hX (dc_X12_readsAll 0 rfl) rfl 0 rfl ?_
  refine gV_WV (As := []) (st := []) hX (dc_X12_readsAll 1 rfl) ml_X12_325 (con_X12_starts hO hΩ σ) (stS hΩ 0 rfl) rfl rfl ⟨by decide, by decide⟩ ⟨rfl, rfl⟩ ⟨Nat.zero_le _, Nat.zero_le _⟩ (Nat.le_of_ble_eq_true rfl) (fun r12 _ => ?_)
  refine g_iconst (w := (0 : Int32)) hX (dc_X12_readsAll 2 rfl) (by decide) ?_
  refine g_istore_n (L' := [(1, .int (0 : Int32)), (0, .ref 0)]) hX (dc_X12_readsAll 3 rfl) rfl (by decide) rfl ?_
  exact g_sub [1, 0] rfl (c_X12_readsAll_6 hX hO hΩ FU ((0 : Int32)) r12)
def f_X12_readsAll  (σ : MS) : Option (MS) := b_X12_readsAll_0   σ
theorem con_X12_readsAll {Ω : OM} (hO : OKO Ω) (hΩ : oSH Ω = SHM)  (σ : MS)  : Con Ω yX12_readsAll cX12_readsAll 3 none rm_X12_readsAll (emWV) [.ref 0] σ (f_X12_readsAll  σ) :=
  con_of hO (by decide +kernel) (Nat.le_of_ble_eq_true rfl) rfl (fun X hX _ => c_X12_readsAll_0 hX hO hΩ    σ )
def it_X12_begins : List (Nat × Instr × Nat × Nat) := [(0, .aload_n 0, 1, 1), (1, .getfield 52, 3, 4), (4, .aload_n 0, 1, 5), (5, .getfield 19, 3, 8), (8, .invokestatic 334, 3, 11), (11, .aload_n 0, 1, 12), (12, .getfield 55, 3, 15), (15, .aload_n 0, 1, 16), (16, .getfield 34, 3, 19), (19, .invokestatic 334, 3, 22), (22, .aload_n 0, 1, 23), (23, .getfield 9, 3, 26), (26, .iconst 1, 1, 27), (27, .aload_n 0, 1, 28), (28, .getfield 58, 3, 31), (31, .iconst 0, 1, 32), (32, .iaload, 1, 33), (33, .iastore, 1, 34), (34, .aload_n 0, 1, 35), (35, .getfield 9, 3, 38), (38, .iconst 5, 1, 39), (39, .iconst 0, 1, 40), (40, .iastore, 1, 41), (41, .aload_n 0, 1, 42), (42, .getfield 9, 3, 45), (45, .bipush 6, 2, 47), (47, .iconst 0, 1, 48), (48, .iastore, 1, 49), (49, .iconst 0, 1, 50), (50, .istore_n 1, 1, 51), (51, .iload_n 1, 1, 52), (52, .bipush 6, 2, 54), (54, .if_icmp .ge 16, 3, 57), (57, .aload_n 0, 1, 58), (58, .getfield 37, 3, 61), (61, .iload_n 1, 1, 62), (62, .iconst 0, 1, 63), (63, .iastore, 1, 64), (64, .iinc 1 1, 3, 67), (67, .goto (-16), 3, 70), (70, .return_, 1, 71)]
theorem id_X12_begins : ∀ q ∈ it_X12_begins, decode cX12_begins q.1 = .ok (q.2.1, q.2.2.1) ∧ q.1 + q.2.2.1 = q.2.2.2 := by decide +kernel
theorem dc_X12_begins {pc : Nat} {i : Instr} {n pc' : Nat} (j : Nat) (h : it_X12_begins[j]? = some (pc, i, n, pc')) : Dc cX12_begins pc i n pc' := dc_of id_X12_begins j h
abbrev rm_X12_begins : Room := { frames := 1, cells := 0, slots := 0, locals := 22 }
def b_X12_begins_51   : Nat → Int32 → MS → Option (MS)
  | 0, _, _ => none
  | n + 1, y1, σ => (if (6 : Int32) ≤ y1 then some (σ) else chk (inb y1 6) (((b_X12_begins_51  n) ((y1 + (1 : Int32))) (wI σ 10 (ix y1) (0 : Int32)))))
set_option maxHeartbeats 4000000 in
set_option maxRecDepth 20000 in
theorem c_X12_begins_51 {X : CX} {Ω : OM} (hX : CF X Ω RX12 cX12_begins 2 none rm_X12_begins) (hO : OKO Ω) (hΩ : oSH Ω = SHM)    : ∀ (n : Nat) (y1 : Int32) (σ : MS) , GE X Ω 2 0 0 (emWV) 0 0 51 [(0, .ref 0), (1, .int y1)] [] σ (b_X12_begins_51  n y1 σ)
  | 0, _, _ => g_none
  | n + 1, y1, σ => by
    have hk51 := c_X12_begins_51 hX hO hΩ  n
    unfold b_X12_begins_51
    refine g_iload_n hX (dc_X12_begins 30 rfl) rfl 1 rfl ?_
    refine g_bipush (w := (6 : Int32)) hX (dc_X12_begins 31 rfl) (by decide) ?_
    refine g_icmp_ge (tgt := 70) hX (dc_X12_begins 32 rfl) (by decide) (fun h5 => ?_) (fun h5 => ?_)
    · exact g_vret hX (dc_X12_begins 40 rfl) rfl (Nat.le_refl _) (Nat.le_refl _)
    · refine g_aload_n hX (dc_X12_begins 33 rfl) rfl 0 rfl ?_
      refine g_getF (q := 10) hX (dc_X12_begins 34 rfl) fl_X12_37 (by decide) rfl (stS hΩ 0 rfl) rfl ?_
      refine g_iload_n hX (dc_X12_begins 35 rfl) rfl 1 rfl ?_
      refine g_iconst (w := (0 : Int32)) hX (dc_X12_begins 36 rfl) (by decide) ?_
      refine g_chk (fun hc6 => ?_)
      refine g_iast hX (dc_X12_begins 37 rfl) (stS hΩ 10 rfl) hc6 rfl ?_
      refine g_iinc (w := (y1 + (1 : Int32))) (L' := [(1, .int (y1 + (1 : Int32))), (0, .ref 0)]) hX (dc_X12_begins 38 rfl) 1 rfl rfl (by decide) rfl ?_
      refine g_goto (tgt := 51) hX (dc_X12_begins 39 rfl) (by decide) ?_
      exact g_sub [1, 0] rfl (hk51 ((y1 + (1 : Int32))) (wI σ 10 (ix y1) (0 : Int32)) )
def b_X12_begins_0     (σ : MS) : Option (MS) := (f_X12_copies 15 4 4 4 σ).bind (fun r7 => (f_X12_copies 16 6 9 6 r7).bind (fun r8 => (b_X12_begins_51 FU ((0 : Int32)) (wI (wI (wI r8 1 1 (sI r8 17 0)) 1 5 (0 : Int32)) 1 6 (0 : Int32)))))
set_option maxHeartbeats 4000000 in
set_option maxRecDepth 20000 in
theorem c_X12_begins_0 {X : CX} {Ω : OM} (hX : CF X Ω RX12 cX12_begins 2 none rm_X12_begins) (hO : OKO Ω) (hΩ : oSH Ω = SHM)      (σ : MS)  : GE X Ω 2 0 0 (emWV) 0 0 0 [(0, .ref 0)] [] σ (b_X12_begins_0  σ) := by
  unfold b_X12_begins_0
  refine g_aload_n hX (dc_X12_begins 0 rfl) rfl 0 rfl ?_
  refine g_getF (q := 15) hX (dc_X12_begins 1 rfl) fl_X12_52 (by decide) rfl (stS hΩ 0 rfl) rfl ?_
  refine g_aload_n hX (dc_X12_begins 2 rfl) rfl 0 rfl ?_
  refine g_getF (q := 4) hX (dc_X12_begins 3 rfl) fl_X12_19 (by decide) rfl (stS hΩ 0 rfl) rfl ?_
  refine gS_WV (As := [.ref 15, .ref 4]) (st := []) hX (dc_X12_begins 4 rfl) ml_X12_334 (con_X12_copies hO hΩ 15 4 4 4 σ (by rw [hΩ]; rfl) (by rw [hΩ]; rfl)) rfl rfl ⟨by decide, by decide⟩ ⟨rfl, rfl⟩ ⟨Nat.zero_le _, Nat.zero_le _⟩ (Nat.le_of_ble_eq_true rfl) (fun r7 _ => ?_)
  refine g_aload_n hX (dc_X12_begins 5 rfl) rfl 0 rfl ?_
  refine g_getF (q := 16) hX (dc_X12_begins 6 rfl) fl_X12_55 (by decide) rfl (stS hΩ 0 rfl) rfl ?_
  refine g_aload_n hX (dc_X12_begins 7 rfl) rfl 0 rfl ?_
  refine g_getF (q := 9) hX (dc_X12_begins 8 rfl) fl_X12_34 (by decide) rfl (stS hΩ 0 rfl) rfl ?_
  refine gS_WV (As := [.ref 16, .ref 9]) (st := []) hX (dc_X12_begins 9 rfl) ml_X12_334 (con_X12_copies hO hΩ 16 6 9 6 r7 (by rw [hΩ]; rfl) (by rw [hΩ]; rfl)) rfl rfl ⟨by decide, by decide⟩ ⟨rfl, rfl⟩ ⟨Nat.zero_le _, Nat.zero_le _⟩ (Nat.le_of_ble_eq_true rfl) (fun r8 _ => ?_)
  refine g_aload_n hX (dc_X12_begins 10 rfl) rfl 0 rfl ?_
  refine g_getF (q := 1) hX (dc_X12_begins 11 rfl) fl_X12_9 (by decide) rfl (stS hΩ 0 rfl) rfl ?_
  refine g_iconst (w := (1 : Int32)) hX (dc_X12_begins 12 rfl) (by decide) ?_
  refine g_aload_n hX (dc_X12_begins 13 rfl) rfl 0 rfl ?_
  refine g_getF (q := 17) hX (dc_X12_begins 14 rfl) fl_X12_58 (by decide) rfl (stS hΩ 0 rfl) rfl ?_
  refine g_iconst (w := (0 : Int32)) hX (dc_X12_begins 15 rfl) (by decide) ?_
  refine g_iald (j := 0) hX (dc_X12_begins 16 rfl) (stS hΩ 17 rfl) (by decide) (by decide) ?_
  refine g_iast (j := 1) hX (dc_X12_begins 17 rfl) (stS hΩ 1 rfl) (by decide) (by decide) ?_
  refine g_aload_n hX (dc_X12_begins 18 rfl) rfl 0 rfl ?_
  refine g_getF (q := 1) hX (dc_X12_begins 19 rfl) fl_X12_9 (by decide) rfl (stS hΩ 0 rfl) rfl ?_
  refine g_iconst (w := (5 : Int32)) hX (dc_X12_begins 20 rfl) (by decide) ?_
  refine g_iconst (w := (0 : Int32)) hX (dc_X12_begins 21 rfl) (by decide) ?_
  refine g_iast (j := 5) hX (dc_X12_begins 22 rfl) (stS hΩ 1 rfl) (by decide) (by decide) ?_
  refine g_aload_n hX (dc_X12_begins 23 rfl) rfl 0 rfl ?_
  refine g_getF (q := 1) hX (dc_X12_begins 24 rfl) fl_X12_9 (by decide) rfl (stS hΩ 0 rfl) rfl ?_
  refine g_bipush (w := (6 : Int32)) hX (dc_X12_begins 25 rfl) (by decide) ?_
  refine g_iconst (w := (0 : Int32)) hX (dc_X12_begins 26 rfl) (by decide) ?_
  refine g_iast (j := 6) hX (dc_X12_begins 27 rfl) (stS hΩ 1 rfl) (by decide) (by decide) ?_
  refine g_iconst (w := (0 : Int32)) hX (dc_X12_begins 28 rfl) (by decide) ?_
  refine g_istore_n (L' := [(1, .int (0 : Int32)), (0, .ref 0)]) hX (dc_X12_begins 29 rfl) rfl (by decide) rfl ?_
  exact g_sub [1, 0] rfl (c_X12_begins_51 hX hO hΩ FU ((0 : Int32)) (wI (wI (wI r8 1 1 (sI r8 17 0)) 1 5 (0 : Int32)) 1 6 (0 : Int32)))
def f_X12_begins  (σ : MS) : Option (MS) := b_X12_begins_0   σ
theorem con_X12_begins {Ω : OM} (hO : OKO Ω) (hΩ : oSH Ω = SHM)  (σ : MS)  : Con Ω yX12_begins cX12_begins 2 none rm_X12_begins (emWV) [.ref 0] σ (f_X12_begins  σ) :=
  con_of hO (by decide +kernel) (Nat.le_of_ble_eq_true rfl) rfl (fun X hX _ => c_X12_begins_0 hX hO hΩ    σ )
def it_X12_duchy : List (Nat × Instr × Nat × Nat) := [(0, .aload_n 0, 1, 1), (1, .invokevirtual 338, 3, 4), (4, .aload_n 0, 1, 5), (5, .getfield 196, 3, 8), (8, .ifCond .le 11, 3, 11), (11, .bipush (-2), 2, 13), (13, .aload_n 0, 1, 14), (14, .getfield 196, 3, 17), (17, .isub, 1, 18), (18, .ireturn, 1, 19), (19, .iconst 0, 1, 20), (20, .istore_n 1, 1, 21), (21, .iload_n 1, 1, 22), (22, .bipush 8, 2, 24), (24, .if_icmp .ge 30, 3, 27), (27, .aload_n 0, 1, 28), (28, .getfield 9, 3, 31), (31, .iload_n 1, 1, 32), (32, .iload_n 1, 1, 33), (33, .iconst 5, 1, 34), (34, .if_icmp .ge 12, 3, 37), (37, .aload_n 0, 1, 38), (38, .getfield 61, 3, 41), (41, .iload_n 1, 1, 42), (42, .iaload, 1, 43), (43, .goto 4, 3, 46), (46, .iconst 0, 1, 47), (47, .iastore, 1, 48), (48, .iinc 1 1, 3, 51), (51, .goto (-30), 3, 54), (54, .aload_n 0, 1, 55), (55, .getfield 64, 3, 58), (58, .aload_n 0, 1, 59), (59, .getfield 13, 3, 62), (62, .invokestatic 334, 3, 65), (65, .aload_n 0, 1, 66), (66, .getfield 67, 3, 69), (69, .aload_n 0, 1, 70), (70, .getfield 16, 3, 73), (73, .invokestatic 334, 3, 76), (76, .aload_n 0, 1, 77), (77, .getfield 70, 3, 80), (80, .aload_n 0, 1, 81), (81, .getfield 52, 3, 84), (84, .invokestatic 334, 3, 87), (87, .aload_n 0, 1, 88), (88, .getfield 73, 3, 91), (91, .aload_n 0, 1, 92), (92, .getfield 22, 3, 95), (95, .invokestatic 334, 3, 98), (98, .aload_n 0, 1, 99), (99, .getfield 76, 3, 102), (102, .aload_n 0, 1, 103), (103, .getfield 25, 3, 106), (106, .invokestatic 334, 3, 109), (109, .aload_n 0, 1, 110), (110, .getfield 79, 3, 113), (113, .aload_n 0, 1, 114), (114, .getfield 28, 3, 117), (117, .invokestatic 334, 3, 120), (120, .aload_n 0, 1, 121), (121, .getfield 82, 3, 124), (124, .aload_n 0, 1, 125), (125, .getfield 31, 3, 128), (128, .invokestatic 334, 3, 131), (131, .aload_n 0, 1, 132), (132, .getfield 85, 3, 135), (135, .aload_n 0, 1, 136), (136, .getfield 55, 3, 139), (139, .invokestatic 334, 3, 142), (142, .aload_n 0, 1, 143), (143, .getfield 88, 3, 146), (146, .aload_n 0, 1, 147), (147, .getfield 40, 3, 150), (150, .invokestatic 334, 3, 153), (153, .aload_n 0, 1, 154), (154, .getfield 58, 3, 157), (157, .iconst 0, 1, 158), (158, .aload_n 0, 1, 159), (159, .getfield 61, 3, 162), (162, .iconst 1, 1, 163), (163, .iaload, 1, 164), (164, .iastore, 1, 165), (165, .aload_n 0, 1, 166), (166, .iconst 1, 1, 167), (167, .putfield 341, 3, 170), (170, .aload_n 0, 1, 171), (171, .invokevirtual 345, 3, 174), (174, .aload_n 0, 1, 175), (175, .iconst 0, 1, 176), (176, .putfield 348, 3, 179), (179, .aload_n 0, 1, 180), (180, .getfield 9, 3, 183), (183, .iconst 4, 1, 184), (184, .iaload, 1, 185), (185, .ireturn, 1, 186)]
theorem id_X12_duchy : ∀ q ∈ it_X12_duchy, decode cX12_duchy q.1 = .ok (q.2.1, q.2.2.1) ∧ q.1 + q.2.2.1 = q.2.2.2 := by decide +kernel
theorem dc_X12_duchy {pc : Nat} {i : Instr} {n pc' : Nat} (j : Nat) (h : it_X12_duchy[j]? = some (pc, i, n, pc')) : Dc cX12_duchy pc i n pc' := dc_of id_X12_duchy j h
abbrev rm_X12_duchy : Room := { frames := 8, cells := 0, slots := 0, locals := 182 }
def b_X12_duchy_47  (k21 : Int32 → MS → Option (Int32 × MS))  (y1 : Int32) (s0 : Int32) (s1 : Int32) (σ : MS) : Option (Int32 × MS) := chk (inb s1 10) ((k21 ((y1 + (1 : Int32))) (wI σ 1 (ix s1) s0)))
set_option maxHeartbeats 4000000 in
set_option maxRecDepth 20000 in
theorem c_X12_duchy_47 {X : CX} {Ω : OM} (hX : CF X Ω RX12 cX12_duchy 2 (some .int) rm_X12_duchy) (hO : OKO Ω) (hΩ : oSH Ω = SHM)   (k21 : Int32 → MS → Option (Int32 × MS)) (hk21 : ∀ (y1 : Int32) (σ : MS) , GE X Ω 2 0 0 (emWI) 0 0 21 [(0, .ref 0), (1, .int y1)] [] σ (k21 y1 σ))  (y1 : Int32) (s0 : Int32) (s1 : Int32) (σ : MS)  : GE X Ω 2 0 0 (emWI) 0 0 47 [(0, .ref 0), (1, .int y1)] [.int s0, .int s1, .ref 1] σ (b_X12_duchy_47  k21 y1 s0 s1 σ) := by
  unfold b_X12_duchy_47
  refine g_chk (fun hc17 => ?_)
  refine g_iast hX (dc_X12_duchy 27 rfl) (stS hΩ 1 rfl) hc17 rfl ?_
  refine g_iinc (w := (y1 + (1 : Int32))) (L' := [(1, .int (y1 + (1 : Int32))), (0, .ref 0)]) hX (dc_X12_duchy 28 rfl) 1 rfl rfl (by decide) rfl ?_
  refine g_goto (tgt := 21) hX (dc_X12_duchy 29 rfl) (by decide) ?_
  exact g_sub [1, 0] rfl (hk21 ((y1 + (1 : Int32))) (wI σ 1 (ix s1) s0) )
def b_X12_duchy_21   : Nat → Int32 → MS → Option (Int32 × MS)
  | 0, _, _ => none
  | n + 1, y1, σ => (if (8 : Int32) ≤ y1 then (f_X12_copies 19 5 2 5 σ).bind (fun r19 => (f_X12_copies 20 5 3 5 r19).bind (fun r20 => (f_X12_copies 21 4 15 4 r20).bind (fun r21 => (f_X12_copies 22 4 5 4 r21).bind (fun r22 => (f_X12_copies 23 4 6 4 r22).bind (fun r23 => (f_X12_copies 24 4 7 4 r23).bind (fun r24 => (f_X12_copies 25 6 8 6 r24).bind (fun r25 => (f_X12_copies 26 6 16 6 r25).bind (fun r26 => (f_X12_copies 27 6 11 6 r26).bind (fun r27 => (f_X12_begins (wI (wI r27 17 0 (sI r27 18 1)) 0 28 (1 : Int32))).bind (fun r28 => some ((sI (wI r28 0 51 (0 : Int32)) 1 4), (wI r28 0 51 (0 : Int32))))))))))))) else (if (5 : Int32) ≤ y1 then (b_X12_duchy_47 (b_X12_duchy_21  n) (y1) ((0 : Int32)) (y1) σ) else chk (inb y1 5) ((b_X12_duchy_47 (b_X12_duchy_21  n) (y1) ((sI σ 18 (ix y1))) (y1) σ))))
set_option maxHeartbeats 4000000 in
set_option maxRecDepth 20000 in
theorem c_X12_duchy_21 {X : CX} {Ω : OM} (hX : CF X Ω RX12 cX12_duchy 2 (some .int) rm_X12_duchy) (hO : OKO Ω) (hΩ : oSH Ω = SHM)    : ∀ (n : Nat) (y1 : Int32) (σ : MS) , GE X Ω 2 0 0 (emWI) 0 0 21 [(0, .ref 0), (1, .int y1)] [] σ (b_X12_duchy_21  n y1 σ)
  | 0, _, _ => g_none
  | n + 1, y1, σ => by
    have hk21 := c_X12_duchy_21 hX hO hΩ  n
    unfold b_X12_duchy_21
    refine g_iload_n hX (dc_X12_duchy 12 rfl) rfl 1 rfl ?_
    refine g_bipush (w := (8 : Int32)) hX (dc_X12_duchy 13 rfl) (by decide) ?_
    refine g_icmp_ge (tgt := 54) hX (dc_X12_duchy 14 rfl) (by decide) (fun h18 => ?_) (fun h18 => ?_)
    · refine g_aload_n hX (dc_X12_duchy 30 rfl) rfl 0 rfl ?_
      refine g_getF (q := 19) hX (dc_X12_duchy 31 rfl) fl_X12_64 (by decide) rfl (stS hΩ 0 rfl) rfl ?_
      refine g_aload_n hX (dc_X12_duchy 32 rfl) rfl 0 rfl ?_
      refine g_getF (q := 2) hX (dc_X12_duchy 33 rfl) fl_X12_13 (by decide) rfl (stS hΩ 0 rfl) rfl ?_
      refine gS_WV (As := [.ref 19, .ref 2]) (st := []) hX (dc_X12_duchy 34 rfl) ml_X12_334 (con_X12_copies hO hΩ 19 5 2 5 σ (by rw [hΩ]; rfl) (by rw [hΩ]; rfl)) rfl rfl ⟨by decide, by decide⟩ ⟨rfl, rfl⟩ ⟨Nat.zero_le _, Nat.zero_le _⟩ (Nat.le_of_ble_eq_true rfl) (fun r19 _ => ?_)
      refine g_aload_n hX (dc_X12_duchy 35 rfl) rfl 0 rfl ?_
      refine g_getF (q := 20) hX (dc_X12_duchy 36 rfl) fl_X12_67 (by decide) rfl (stS hΩ 0 rfl) rfl ?_
      refine g_aload_n hX (dc_X12_duchy 37 rfl) rfl 0 rfl ?_
      refine g_getF (q := 3) hX (dc_X12_duchy 38 rfl) fl_X12_16 (by decide) rfl (stS hΩ 0 rfl) rfl ?_
      refine gS_WV (As := [.ref 20, .ref 3]) (st := []) hX (dc_X12_duchy 39 rfl) ml_X12_334 (con_X12_copies hO hΩ 20 5 3 5 r19 (by rw [hΩ]; rfl) (by rw [hΩ]; rfl)) rfl rfl ⟨by decide, by decide⟩ ⟨rfl, rfl⟩ ⟨Nat.zero_le _, Nat.zero_le _⟩ (Nat.le_of_ble_eq_true rfl) (fun r20 _ => ?_)
      refine g_aload_n hX (dc_X12_duchy 40 rfl) rfl 0 rfl ?_
      refine g_getF (q := 21) hX (dc_X12_duchy 41 rfl) fl_X12_70 (by decide) rfl (stS hΩ 0 rfl) rfl ?_
      refine g_aload_n hX (dc_X12_duchy 42 rfl) rfl 0 rfl ?_
      refine g_getF (q := 15) hX (dc_X12_duchy 43 rfl) fl_X12_52 (by decide) rfl (stS hΩ 0 rfl) rfl ?_
      refine gS_WV (As := [.ref 21, .ref 15]) (st := []) hX (dc_X12_duchy 44 rfl) ml_X12_334 (con_X12_copies hO hΩ 21 4 15 4 r20 (by rw [hΩ]; rfl) (by rw [hΩ]; rfl)) rfl rfl ⟨by decide, by decide⟩ ⟨rfl, rfl⟩ ⟨Nat.zero_le _, Nat.zero_le _⟩ (Nat.le_of_ble_eq_true rfl) (fun r21 _ => ?_)
      refine g_aload_n hX (dc_X12_duchy 45 rfl) rfl 0 rfl ?_
      refine g_getF (q := 22) hX (dc_X12_duchy 46 rfl) fl_X12_73 (by decide) rfl (stS hΩ 0 rfl) rfl ?_
      refine g_aload_n hX (dc_X12_duchy 47 rfl) rfl 0 rfl ?_
      refine g_getF (q := 5) hX (dc_X12_duchy 48 rfl) fl_X12_22 (by decide) rfl (stS hΩ 0 rfl) rfl ?_
      refine gS_WV (As := [.ref 22, .ref 5]) (st := []) hX (dc_X12_duchy 49 rfl) ml_X12_334 (con_X12_copies hO hΩ 22 4 5 4 r21 (by rw [hΩ]; rfl) (by rw [hΩ]; rfl)) rfl rfl ⟨by decide, by decide⟩ ⟨rfl, rfl⟩ ⟨Nat.zero_le _, Nat.zero_le _⟩ (Nat.le_of_ble_eq_true rfl) (fun r22 _ => ?_)
      refine g_aload_n hX (dc_X12_duchy 50 rfl) rfl 0 rfl ?_
      refine g_getF (q := 23) hX (dc_X12_duchy 51 rfl) fl_X12_76 (by decide) rfl (stS hΩ 0 rfl) rfl ?_
      refine g_aload_n hX (dc_X12_duchy 52 rfl) rfl 0 rfl ?_
      refine g_getF (q := 6) hX (dc_X12_duchy 53 rfl) fl_X12_25 (by decide) rfl (stS hΩ 0 rfl) rfl ?_
      refine gS_WV (As := [.ref 23, .ref 6]) (st := []) hX (dc_X12_duchy 54 rfl) ml_X12_334 (con_X12_copies hO hΩ 23 4 6 4 r22 (by rw [hΩ]; rfl) (by rw [hΩ]; rfl)) rfl rfl ⟨by decide, by decide⟩ ⟨rfl, rfl⟩ ⟨Nat.zero_le _, Nat.zero_le _⟩ (Nat.le_of_ble_eq_true rfl) (fun r23 _ => ?_)
      refine g_aload_n hX (dc_X12_duchy 55 rfl) rfl 0 rfl ?_
      refine g_getF (q := 24) hX (dc_X12_duchy 56 rfl) fl_X12_79 (by decide) rfl (stS hΩ 0 rfl) rfl ?_
      refine g_aload_n hX (dc_X12_duchy 57 rfl) rfl 0 rfl ?_
      refine g_getF (q := 7) hX (dc_X12_duchy 58 rfl) fl_X12_28 (by decide) rfl (stS hΩ 0 rfl) rfl ?_
      refine gS_WV (As := [.ref 24, .ref 7]) (st := []) hX (dc_X12_duchy 59 rfl) ml_X12_334 (con_X12_copies hO hΩ 24 4 7 4 r23 (by rw [hΩ]; rfl) (by rw [hΩ]; rfl)) rfl rfl ⟨by decide, by decide⟩ ⟨rfl, rfl⟩ ⟨Nat.zero_le _, Nat.zero_le _⟩ (Nat.le_of_ble_eq_true rfl) (fun r24 _ => ?_)
      refine g_aload_n hX (dc_X12_duchy 60 rfl) rfl 0 rfl ?_
      refine g_getF (q := 25) hX (dc_X12_duchy 61 rfl) fl_X12_82 (by decide) rfl (stS hΩ 0 rfl) rfl ?_
      refine g_aload_n hX (dc_X12_duchy 62 rfl) rfl 0 rfl ?_
      refine g_getF (q := 8) hX (dc_X12_duchy 63 rfl) fl_X12_31 (by decide) rfl (stS hΩ 0 rfl) rfl ?_
      refine gS_WV (As := [.ref 25, .ref 8]) (st := []) hX (dc_X12_duchy 64 rfl) ml_X12_334 (con_X12_copies hO hΩ 25 6 8 6 r24 (by rw [hΩ]; rfl) (by rw [hΩ]; rfl)) rfl rfl ⟨by decide, by decide⟩ ⟨rfl, rfl⟩ ⟨Nat.zero_le _, Nat.zero_le _⟩ (Nat.le_of_ble_eq_true rfl) (fun r25 _ => ?_)
      refine g_aload_n hX (dc_X12_duchy 65 rfl) rfl 0 rfl ?_
      refine g_getF (q := 26) hX (dc_X12_duchy 66 rfl) fl_X12_85 (by decide) rfl (stS hΩ 0 rfl) rfl ?_
      refine g_aload_n hX (dc_X12_duchy 67 rfl) rfl 0 rfl ?_
      refine g_getF (q := 16) hX (dc_X12_duchy 68 rfl) fl_X12_55 (by decide) rfl (stS hΩ 0 rfl) rfl ?_
      refine gS_WV (As := [.ref 26, .ref 16]) (st := []) hX (dc_X12_duchy 69 rfl) ml_X12_334 (con_X12_copies hO hΩ 26 6 16 6 r25 (by rw [hΩ]; rfl) (by rw [hΩ]; rfl)) rfl rfl ⟨by decide, by decide⟩ ⟨rfl, rfl⟩ ⟨Nat.zero_le _, Nat.zero_le _⟩ (Nat.le_of_ble_eq_true rfl) (fun r26 _ => ?_)
      refine g_aload_n hX (dc_X12_duchy 70 rfl) rfl 0 rfl ?_
      refine g_getF (q := 27) hX (dc_X12_duchy 71 rfl) fl_X12_88 (by decide) rfl (stS hΩ 0 rfl) rfl ?_
      refine g_aload_n hX (dc_X12_duchy 72 rfl) rfl 0 rfl ?_
      refine g_getF (q := 11) hX (dc_X12_duchy 73 rfl) fl_X12_40 (by decide) rfl (stS hΩ 0 rfl) rfl ?_
      refine gS_WV (As := [.ref 27, .ref 11]) (st := []) hX (dc_X12_duchy 74 rfl) ml_X12_334 (con_X12_copies hO hΩ 27 6 11 6 r26 (by rw [hΩ]; rfl) (by rw [hΩ]; rfl)) rfl rfl ⟨by decide, by decide⟩ ⟨rfl, rfl⟩ ⟨Nat.zero_le _, Nat.zero_le _⟩ (Nat.le_of_ble_eq_true rfl) (fun r27 _ => ?_)
      refine g_aload_n hX (dc_X12_duchy 75 rfl) rfl 0 rfl ?_
      refine g_getF (q := 17) hX (dc_X12_duchy 76 rfl) fl_X12_58 (by decide) rfl (stS hΩ 0 rfl) rfl ?_
      refine g_iconst (w := (0 : Int32)) hX (dc_X12_duchy 77 rfl) (by decide) ?_
      refine g_aload_n hX (dc_X12_duchy 78 rfl) rfl 0 rfl ?_
      refine g_getF (q := 18) hX (dc_X12_duchy 79 rfl) fl_X12_61 (by decide) rfl (stS hΩ 0 rfl) rfl ?_
      refine g_iconst (w := (1 : Int32)) hX (dc_X12_duchy 80 rfl) (by decide) ?_
      refine g_iald (j := 1) hX (dc_X12_duchy 81 rfl) (stS hΩ 18 rfl) (by decide) (by decide) ?_
      refine g_iast (j := 0) hX (dc_X12_duchy 82 rfl) (stS hΩ 17 rfl) (by decide) (by decide) ?_
      refine g_aload_n hX (dc_X12_duchy 83 rfl) rfl 0 rfl ?_
      refine g_iconst (w := (1 : Int32)) hX (dc_X12_duchy 84 rfl) (by decide) ?_
      refine g_putI (raw := false) hX (dc_X12_duchy 85 rfl) fl_X12_341 (by decide) ⟨rfl, rfl⟩ ⟨rfl, rfl⟩ (stS hΩ 0 rfl) ?_
      refine g_aload_n hX (dc_X12_duchy 86 rfl) rfl 0 rfl ?_
      refine gV_WV (As := []) (st := []) hX (dc_X12_duchy 87 rfl) ml_X12_345 (con_X12_begins hO hΩ (wI (wI r27 17 0 (sI r27 18 1)) 0 28 (1 : Int32))) (stS hΩ 0 rfl) rfl rfl ⟨by decide, by decide⟩ ⟨rfl, rfl⟩ ⟨Nat.zero_le _, Nat.zero_le _⟩ (Nat.le_of_ble_eq_true rfl) (fun r28 _ => ?_)
      refine g_aload_n hX (dc_X12_duchy 88 rfl) rfl 0 rfl ?_
      refine g_iconst (w := (0 : Int32)) hX (dc_X12_duchy 89 rfl) (by decide) ?_
      refine g_putI (raw := false) hX (dc_X12_duchy 90 rfl) fl_X12_348 (by decide) ⟨rfl, rfl⟩ ⟨rfl, rfl⟩ (stS hΩ 0 rfl) ?_
      refine g_aload_n hX (dc_X12_duchy 91 rfl) rfl 0 rfl ?_
      refine g_getF (q := 1) hX (dc_X12_duchy 92 rfl) fl_X12_9 (by decide) rfl (stS hΩ 0 rfl) rfl ?_
      refine g_iconst (w := (4 : Int32)) hX (dc_X12_duchy 93 rfl) (by decide) ?_
      refine g_iald (j := 4) hX (dc_X12_duchy 94 rfl) (stS hΩ 1 rfl) (by decide) (by decide) ?_
      exact g_iret hX (dc_X12_duchy 95 rfl) rfl rfl (Nat.le_refl _) (Nat.le_refl _)
    · refine g_aload_n hX (dc_X12_duchy 15 rfl) rfl 0 rfl ?_
      refine g_getF (q := 1) hX (dc_X12_duchy 16 rfl) fl_X12_9 (by decide) rfl (stS hΩ 0 rfl) rfl ?_
      refine g_iload_n hX (dc_X12_duchy 17 rfl) rfl 1 rfl ?_
      refine g_iload_n hX (dc_X12_duchy 18 rfl) rfl 1 rfl ?_
      refine g_iconst (w := (5 : Int32)) hX (dc_X12_duchy 19 rfl) (by decide) ?_
      refine g_icmp_ge (tgt := 46) hX (dc_X12_duchy 20 rfl) (by decide) (fun h29 => ?_) (fun h29 => ?_)
      · refine g_iconst (w := (0 : Int32)) hX (dc_X12_duchy 26 rfl) (by decide) ?_
        exact g_sub [0, 1] rfl (c_X12_duchy_47 hX hO hΩ _ hk21 (y1) ((0 : Int32)) (y1) σ)
      · refine g_aload_n hX (dc_X12_duchy 21 rfl) rfl 0 rfl ?_
        refine g_getF (q := 18) hX (dc_X12_duchy 22 rfl) fl_X12_61 (by decide) rfl (stS hΩ 0 rfl) rfl ?_
        refine g_iload_n hX (dc_X12_duchy 23 rfl) rfl 1 rfl ?_
        refine g_chk (fun hc30 => ?_)
        refine g_iald hX (dc_X12_duchy 24 rfl) (stS hΩ 18 rfl) hc30 rfl ?_
        refine g_goto (tgt := 47) hX (dc_X12_duchy 25 rfl) (by decide) ?_
        exact g_sub [0, 1] rfl (c_X12_duchy_47 hX hO hΩ _ hk21 (y1) ((sI σ 18 (ix y1))) (y1) σ)
def b_X12_duchy_0     (σ : MS) : Option (Int32 × MS) := (f_X12_readsAll σ).bind (fun r31 => (if (sI r31 0 31) ≤ 0 then (b_X12_duchy_21 FU ((0 : Int32)) r31) else some (((-2 : Int32) - (sI r31 0 31)), r31)))
set_option maxHeartbeats 4000000 in
set_option maxRecDepth 20000 in
theorem c_X12_duchy_0 {X : CX} {Ω : OM} (hX : CF X Ω RX12 cX12_duchy 2 (some .int) rm_X12_duchy) (hO : OKO Ω) (hΩ : oSH Ω = SHM)      (σ : MS)  : GE X Ω 2 0 0 (emWI) 0 0 0 [(0, .ref 0)] [] σ (b_X12_duchy_0  σ) := by
  unfold b_X12_duchy_0
  refine g_aload_n hX (dc_X12_duchy 0 rfl) rfl 0 rfl ?_
  refine gV_WV (As := []) (st := []) hX (dc_X12_duchy 1 rfl) ml_X12_338 (con_X12_readsAll hO hΩ σ) (stS hΩ 0 rfl) rfl rfl ⟨by decide, by decide⟩ ⟨rfl, rfl⟩ ⟨Nat.zero_le _, Nat.zero_le _⟩ (Nat.le_of_ble_eq_true rfl) (fun r31 _ => ?_)
  refine g_aload_n hX (dc_X12_duchy 2 rfl) rfl 0 rfl ?_
  refine g_getI hX (dc_X12_duchy 3 rfl) fl_X12_196 (by decide) rfl (stS hΩ 0 rfl) ?_
  refine g_if_le (tgt := 19) hX (dc_X12_duchy 4 rfl) (by decide) (fun h32 => ?_) (fun h32 => ?_)
  · refine g_iconst (w := (0 : Int32)) hX (dc_X12_duchy 10 rfl) (by decide) ?_
    refine g_istore_n (L' := [(1, .int (0 : Int32)), (0, .ref 0)]) hX (dc_X12_duchy 11 rfl) rfl (by decide) rfl ?_
    exact g_sub [1, 0] rfl (c_X12_duchy_21 hX hO hΩ FU ((0 : Int32)) r31)
  · refine g_bipush (w := (-2 : Int32)) hX (dc_X12_duchy 5 rfl) (by decide) ?_
    refine g_aload_n hX (dc_X12_duchy 6 rfl) rfl 0 rfl ?_
    refine g_getI hX (dc_X12_duchy 7 rfl) fl_X12_196 (by decide) rfl (stS hΩ 0 rfl) ?_
    refine g_isub hX (dc_X12_duchy 8 rfl) ?_
    exact g_iret hX (dc_X12_duchy 9 rfl) rfl rfl (Nat.le_refl _) (Nat.le_refl _)
def f_X12_duchy  (σ : MS) : Option (Int32 × MS) := b_X12_duchy_0   σ
theorem con_X12_duchy {Ω : OM} (hO : OKO Ω) (hΩ : oSH Ω = SHM)  (σ : MS)  : Con Ω yX12_duchy cX12_duchy 2 (some .int) rm_X12_duchy (emWI) [.ref 0] σ (f_X12_duchy  σ) :=
  con_of hO (by decide +kernel) (Nat.le_of_ble_eq_true rfl) rfl (fun X hX _ => c_X12_duchy_0 hX hO hΩ    σ )
def it_X12_ruleClause : List (Nat × Instr × Nat × Nat) := [(0, .aload_n 0, 1, 1), (1, .invokevirtual 219, 3, 4), (4, .aload_n 0, 1, 5), (5, .getfield 199, 3, 8), (8, .istore_n 2, 1, 9), (9, .aload_n 0, 1, 10), (10, .ldc_w 351, 3, 13), (13, .invokevirtual 222, 3, 16), (16, .ifCond .ne 10, 3, 19), (19, .aload_n 0, 1, 20), (20, .iconst 0, 1, 21), (21, .iload_n 2, 1, 22), (22, .invokevirtual 235, 3, 25), (25, .return_, 1, 26), (26, .iload_n 1, 1, 27), (27, .bipush 12, 2, 29), (29, .if_icmp .ne 10, 3, 32), (32, .aload_n 0, 1, 33), (33, .iconst 4, 1, 34), (34, .iload_n 2, 1, 35), (35, .invokevirtual 235, 3, 38), (38, .return_, 1, 39), (39, .aload_n 0, 1, 40), (40, .dup, 1, 41), (41, .getfield 199, 3, 44), (44, .iconst 4, 1, 45), (45, .iadd, 1, 46), (46, .putfield 199, 3, 49), (49, .bipush 12, 2, 51), (51, .aload_n 0, 1, 52), (52, .getfield 226, 3, 55), (55, .imul, 1, 56), (56, .iload_n 1, 1, 57), (57, .iadd, 1, 58), (58, .istore_n 3, 1, 59), (59, .aload_n 0, 1, 60), (60, .getfield 108, 3, 63), (63, .iload_n 3, 1, 64), (64, .aload_n 0, 1, 65), (65, .getfield 229, 3, 68), (68, .iastore, 1, 69), (69, .aload_n 0, 1, 70), (70, .invokevirtual 264, 3, 73), (73, .aload_n 0, 1, 74), (74, .getfield 111, 3, 77), (77, .iload_n 3, 1, 78), (78, .aload_n 0, 1, 79), (79, .getfield 229, 3, 82), (82, .iastore, 1, 83), (83, .aload_n 0, 1, 84), (84, .getfield 196, 3, 87), (87, .ifCond .ne 17, 3, 90), (90, .aload_n 0, 1, 91), (91, .ldc_w 353, 3, 94), (94, .invokevirtual 355, 3, 97), (97, .ifCond .eq 7, 3, 100), (100, .aload_n 0, 1, 101), (101, .invokevirtual 358, 3, 104), (104, .aload_n 0, 1, 105), (105, .getfield 114, 3, 108), (108, .iload_n 3, 1, 109), (109, .aload_n 0, 1, 110), (110, .getfield 229, 3, 113), (113, .iastore, 1, 114), (114, .return_, 1, 115)]
theorem id_X12_ruleClause : ∀ q ∈ it_X12_ruleClause, decode cX12_ruleClause q.1 = .ok (q.2.1, q.2.2.1) ∧ q.1 + q.2.2.1 = q.2.2.2 := by decide +kernel
theorem dc_X12_ruleClause {pc : Nat} {i : Instr} {n pc' : Nat} (j : Nat) (h : it_X12_ruleClause[j]? = some (pc, i, n, pc')) : Dc cX12_ruleClause pc i n pc' := dc_of id_X12_ruleClause j h
abbrev rm_X12_ruleClause : Room := { frames := 11, cells := 0, slots := 0, locals := 239 }
def b_X12_ruleClause_104    (y3 : Int32) (σ : MS) : Option (MS) := chk (inb y3 72) (some ((wI σ 34 (ix y3) (sI σ 0 34))))
set_option maxHeartbeats 4000000 in
set_option maxRecDepth 20000 in
theorem c_X12_ruleClause_104 {X : CX} {Ω : OM} (hX : CF X Ω RX12 cX12_ruleClause 4 none rm_X12_ruleClause) (hO : OKO Ω) (hΩ : oSH Ω = SHM)     (y3 : Int32) (σ : MS)  : GE X Ω 4 0 0 (emWV) 0 0 104 [(0, .ref 0), (3, .int y3)] [] σ (b_X12_ruleClause_104  y3 σ) := by
  unfold b_X12_ruleClause_104
  refine g_aload_n hX (dc_X12_ruleClause 58 rfl) rfl 0 rfl ?_
  refine g_getF (q := 34) hX (dc_X12_ruleClause 59 rfl) fl_X12_114 (by decide) rfl (stS hΩ 0 rfl) rfl ?_
  refine g_iload_n hX (dc_X12_ruleClause 60 rfl) rfl 1 rfl ?_
  refine g_aload_n hX (dc_X12_ruleClause 61 rfl) rfl 0 rfl ?_
  refine g_getI hX (dc_X12_ruleClause 62 rfl) fl_X12_229 (by decide) rfl (stS hΩ 0 rfl) ?_
  refine g_chk (fun hc15 => ?_)
  refine g_iast hX (dc_X12_ruleClause 63 rfl) (stS hΩ 34 rfl) hc15 rfl ?_
  exact g_vret hX (dc_X12_ruleClause 64 rfl) rfl (Nat.le_refl _) (Nat.le_refl _)
def b_X12_ruleClause_69    (y3 : Int32) (σ : MS) : Option (MS) := (f_X12_sum σ).bind (fun r16 => chk (inb y3 72) ((if (sI (wI r16 33 (ix y3) (sI r16 0 34)) 0 31) = 0 then (f_X12_takes 19 (wI r16 33 (ix y3) (sI r16 0 34))).bind (fun r19 => (if r19.1 = 0 then (b_X12_ruleClause_104 (y3) r19.2) else (f_X12_test r19.2).bind (fun r21 => (b_X12_ruleClause_104 (y3) r21)))) else (b_X12_ruleClause_104 (y3) (wI r16 33 (ix y3) (sI r16 0 34))))))
set_option maxHeartbeats 4000000 in
set_option maxRecDepth 20000 in
theorem c_X12_ruleClause_69 {X : CX} {Ω : OM} (hX : CF X Ω RX12 cX12_ruleClause 4 none rm_X12_ruleClause) (hO : OKO Ω) (hΩ : oSH Ω = SHM)     (y3 : Int32) (σ : MS)  : GE X Ω 4 0 0 (emWV) 0 0 69 [(0, .ref 0), (3, .int y3)] [] σ (b_X12_ruleClause_69  y3 σ) := by
  unfold b_X12_ruleClause_69
  refine g_aload_n hX (dc_X12_ruleClause 41 rfl) rfl 0 rfl ?_
  refine gV_WV (As := []) (st := []) hX (dc_X12_ruleClause 42 rfl) ml_X12_264 (con_X12_sum hO hΩ σ) (stS hΩ 0 rfl) rfl rfl ⟨by decide, by decide⟩ ⟨rfl, rfl⟩ ⟨Nat.zero_le _, Nat.zero_le _⟩ (Nat.le_of_ble_eq_true rfl) (fun r16 _ => ?_)
  refine g_aload_n hX (dc_X12_ruleClause 43 rfl) rfl 0 rfl ?_
  refine g_getF (q := 33) hX (dc_X12_ruleClause 44 rfl) fl_X12_111 (by decide) rfl (stS hΩ 0 rfl) rfl ?_
  refine g_iload_n hX (dc_X12_ruleClause 45 rfl) rfl 1 rfl ?_
  refine g_aload_n hX (dc_X12_ruleClause 46 rfl) rfl 0 rfl ?_
  refine g_getI hX (dc_X12_ruleClause 47 rfl) fl_X12_229 (by decide) rfl (stS hΩ 0 rfl) ?_
  refine g_chk (fun hc17 => ?_)
  refine g_iast hX (dc_X12_ruleClause 48 rfl) (stS hΩ 33 rfl) hc17 rfl ?_
  refine g_aload_n hX (dc_X12_ruleClause 49 rfl) rfl 0 rfl ?_
  refine g_getI hX (dc_X12_ruleClause 50 rfl) fl_X12_196 (by decide) rfl (stS hΩ 0 rfl) ?_
  refine g_if_ne (tgt := 104) hX (dc_X12_ruleClause 51 rfl) (by decide) (fun h18 => ?_) (fun h18 => ?_)
  · refine g_aload_n hX (dc_X12_ruleClause 52 rfl) rfl 0 rfl ?_
    refine g_ldcwS (i := 19) hX (dc_X12_ruleClause 53 rfl) (by decide) rfl ?_
    refine gV_WI (As := [.ref (1000000 + 19)]) (st := []) hX (dc_X12_ruleClause 54 rfl) ml_X12_355 (con_X12_takes hO hΩ 19 (wI r16 33 (ix y3) (sI r16 0 34)) (by decide)) (stS hΩ 0 rfl) rfl rfl ⟨by decide, by decide⟩ ⟨rfl, rfl⟩ ⟨Nat.zero_le _, Nat.zero_le _⟩ (Nat.le_of_ble_eq_true rfl) (fun r19 _ => ?_)
    refine g_if_eq (tgt := 104) hX (dc_X12_ruleClause 55 rfl) (by decide) (fun h20 => ?_) (fun h20 => ?_)
    · exact g_sub [0, 1] rfl (c_X12_ruleClause_104 hX hO hΩ (y3) r19.2)
    · refine g_aload_n hX (dc_X12_ruleClause 56 rfl) rfl 0 rfl ?_
      refine gV_WV (As := []) (st := []) hX (dc_X12_ruleClause 57 rfl) ml_X12_358 (con_X12_test hO hΩ r19.2) (stS hΩ 0 rfl) rfl rfl ⟨by decide, by decide⟩ ⟨rfl, rfl⟩ ⟨Nat.zero_le _, Nat.zero_le _⟩ (Nat.le_of_ble_eq_true rfl) (fun r21 _ => ?_)
      exact g_sub [0, 1] rfl (c_X12_ruleClause_104 hX hO hΩ (y3) r21)
  · exact g_sub [0, 1] rfl (c_X12_ruleClause_104 hX hO hΩ (y3) (wI r16 33 (ix y3) (sI r16 0 34)))
def b_X12_ruleClause_0   (x1 : Int32)  (σ : MS) : Option (MS) := (f_X12_blanks σ).bind (fun r22 => (f_X12_stood 9 r22).bind (fun r23 => (if r23 = 0 then (f_X12_fails (0 : Int32) (sI r22 0 30) r22).bind (fun r25 => some (r25)) else (if x1 = (12 : Int32) then (f_X12_fails (4 : Int32) (sI r22 0 30) r22).bind (fun r27 => some (r27)) else chk (inb (((12 : Int32) * (sI (wI r22 0 30 ((sI r22 0 30) + (4 : Int32))) 0 32)) + x1) 72) ((b_X12_ruleClause_69 ((((12 : Int32) * (sI (wI r22 0 30 ((sI r22 0 30) + (4 : Int32))) 0 32)) + x1)) (wI (wI r22 0 30 ((sI r22 0 30) + (4 : Int32))) 32 (ix (((12 : Int32) * (sI (wI r22 0 30 ((sI r22 0 30) + (4 : Int32))) 0 32)) + x1)) (sI (wI r22 0 30 ((sI r22 0 30) + (4 : Int32))) 0 34))))))))
set_option maxHeartbeats 4000000 in
set_option maxRecDepth 20000 in
theorem c_X12_ruleClause_0 {X : CX} {Ω : OM} (hX : CF X Ω RX12 cX12_ruleClause 4 none rm_X12_ruleClause) (hO : OKO Ω) (hΩ : oSH Ω = SHM)    (x1 : Int32)  (σ : MS)  : GE X Ω 4 0 0 (emWV) 0 0 0 [(0, .ref 0), (1, .int x1)] [] σ (b_X12_ruleClause_0  x1 σ) := by
  unfold b_X12_ruleClause_0
  refine g_aload_n hX (dc_X12_ruleClause 0 rfl) rfl 0 rfl ?_
  refine gV_WV (As := []) (st := []) hX (dc_X12_ruleClause 1 rfl) ml_X12_219 (con_X12_blanks hO hΩ σ) (stS hΩ 0 rfl) rfl rfl ⟨by decide, by decide⟩ ⟨rfl, rfl⟩ ⟨Nat.zero_le _, Nat.zero_le _⟩ (Nat.le_of_ble_eq_true rfl) (fun r22 _ => ?_)
  refine g_aload_n hX (dc_X12_ruleClause 2 rfl) rfl 0 rfl ?_
  refine g_getI hX (dc_X12_ruleClause 3 rfl) fl_X12_199 (by decide) rfl (stS hΩ 0 rfl) ?_
  refine g_istore_n (L' := [(2, .int (sI r22 0 30)), (0, .ref 0), (1, .int x1)]) hX (dc_X12_ruleClause 4 rfl) rfl (by decide) rfl ?_
  refine g_aload_n hX (dc_X12_ruleClause 5 rfl) rfl 1 rfl ?_
  refine g_ldcwS (i := 9) hX (dc_X12_ruleClause 6 rfl) (by decide) rfl ?_
  refine gV_PI (As := [.ref (1000000 + 9)]) (st := []) hX (dc_X12_ruleClause 7 rfl) ml_X12_222 (con_X12_stood hO hΩ 9 r22 (by decide)) (stS hΩ 0 rfl) rfl rfl ⟨by decide, by decide⟩ ⟨rfl, rfl⟩ ⟨Nat.zero_le _, Nat.zero_le _⟩ (Nat.le_of_ble_eq_true rfl) (fun r23 _ => ?_)
  refine g_if_ne (tgt := 26) hX (dc_X12_ruleClause 8 rfl) (by decide) (fun h24 => ?_) (fun h24 => ?_)
  · refine g_aload_n hX (dc_X12_ruleClause 9 rfl) rfl 1 rfl ?_
    refine g_iconst (w := (0 : Int32)) hX (dc_X12_ruleClause 10 rfl) (by decide) ?_
    refine g_iload_n hX (dc_X12_ruleClause 11 rfl) rfl 0 rfl ?_
    refine gV_WV (As := [.int (0 : Int32), .int (sI r22 0 30)]) (st := []) hX (dc_X12_ruleClause 12 rfl) ml_X12_235 (con_X12_fails hO hΩ (0 : Int32) (sI r22 0 30) r22) (stS hΩ 0 rfl) rfl rfl ⟨by decide, by decide⟩ ⟨rfl, rfl⟩ ⟨Nat.zero_le _, Nat.zero_le _⟩ (Nat.le_of_ble_eq_true rfl) (fun r25 _ => ?_)
    exact g_vret hX (dc_X12_ruleClause 13 rfl) rfl (Nat.le_refl _) (Nat.le_refl _)
  · refine g_iload_n hX (dc_X12_ruleClause 14 rfl) rfl 2 rfl ?_
    refine g_bipush (w := (12 : Int32)) hX (dc_X12_ruleClause 15 rfl) (by decide) ?_
    refine g_icmp_ne (tgt := 39) hX (dc_X12_ruleClause 16 rfl) (by decide) (fun h26 => ?_) (fun h26 => ?_)
    · refine g_aload_n hX (dc_X12_ruleClause 17 rfl) rfl 1 rfl ?_
      refine g_iconst (w := (4 : Int32)) hX (dc_X12_ruleClause 18 rfl) (by decide) ?_
      refine g_iload_n hX (dc_X12_ruleClause 19 rfl) rfl 0 rfl ?_
      refine gV_WV (As := [.int (4 : Int32), .int (sI r22 0 30)]) (st := []) hX (dc_X12_ruleClause 20 rfl) ml_X12_235 (con_X12_fails hO hΩ (4 : Int32) (sI r22 0 30) r22) (stS hΩ 0 rfl) rfl rfl ⟨by decide, by decide⟩ ⟨rfl, rfl⟩ ⟨Nat.zero_le _, Nat.zero_le _⟩ (Nat.le_of_ble_eq_true rfl) (fun r27 _ => ?_)
      exact g_vret hX (dc_X12_ruleClause 21 rfl) rfl (Nat.le_refl _) (Nat.le_refl _)
    · refine g_aload_n hX (dc_X12_ruleClause 22 rfl) rfl 1 rfl ?_
      refine g_dup hX (dc_X12_ruleClause 23 rfl) rfl ?_
      refine g_getI hX (dc_X12_ruleClause 24 rfl) fl_X12_199 (by decide) rfl (stS hΩ 0 rfl) ?_
      refine g_iconst (w := (4 : Int32)) hX (dc_X12_ruleClause 25 rfl) (by decide) ?_
      refine g_iadd hX (dc_X12_ruleClause 26 rfl) ?_
      refine g_putI (raw := false) hX (dc_X12_ruleClause 27 rfl) fl_X12_199 (by decide) ⟨rfl, rfl⟩ ⟨rfl, rfl⟩ (stS hΩ 0 rfl) ?_
      refine g_bipush (w := (12 : Int32)) hX (dc_X12_ruleClause 28 rfl) (by decide) ?_
      refine g_aload_n hX (dc_X12_ruleClause 29 rfl) rfl 1 rfl ?_
      refine g_getI hX (dc_X12_ruleClause 30 rfl) fl_X12_226 (by decide) rfl (stS hΩ 0 rfl) ?_
      refine g_imul hX (dc_X12_ruleClause 31 rfl) ?_
      refine g_iload_n hX (dc_X12_ruleClause 32 rfl) rfl 2 rfl ?_
      refine g_iadd hX (dc_X12_ruleClause 33 rfl) ?_
      refine g_istore_n (L' := [(3, .int (((12 : Int32) * (sI (wI r22 0 30 ((sI r22 0 30) + (4 : Int32))) 0 32)) + x1)), (2, .int (sI r22 0 30)), (0, .ref 0), (1, .int x1)]) hX (dc_X12_ruleClause 34 rfl) rfl (by decide) rfl ?_
      refine g_aload_n hX (dc_X12_ruleClause 35 rfl) rfl 2 rfl ?_
      refine g_getF (q := 32) hX (dc_X12_ruleClause 36 rfl) fl_X12_108 (by decide) rfl (stS hΩ 0 rfl) rfl ?_
      refine g_iload_n hX (dc_X12_ruleClause 37 rfl) rfl 0 rfl ?_
      refine g_aload_n hX (dc_X12_ruleClause 38 rfl) rfl 2 rfl ?_
      refine g_getI hX (dc_X12_ruleClause 39 rfl) fl_X12_229 (by decide) rfl (stS hΩ 0 rfl) ?_
      refine g_chk (fun hc28 => ?_)
      refine g_iast hX (dc_X12_ruleClause 40 rfl) (stS hΩ 32 rfl) hc28 rfl ?_
      exact g_sub [2, 0] rfl (c_X12_ruleClause_69 hX hO hΩ ((((12 : Int32) * (sI (wI r22 0 30 ((sI r22 0 30) + (4 : Int32))) 0 32)) + x1)) (wI (wI r22 0 30 ((sI r22 0 30) + (4 : Int32))) 32 (ix (((12 : Int32) * (sI (wI r22 0 30 ((sI r22 0 30) + (4 : Int32))) 0 32)) + x1)) (sI (wI r22 0 30 ((sI r22 0 30) + (4 : Int32))) 0 34)))
def f_X12_ruleClause (x1 : Int32) (σ : MS) : Option (MS) := b_X12_ruleClause_0  x1 σ
theorem con_X12_ruleClause {Ω : OM} (hO : OKO Ω) (hΩ : oSH Ω = SHM) (x1 : Int32) (σ : MS)  : Con Ω yX12_ruleClause cX12_ruleClause 4 none rm_X12_ruleClause (emWV) [.ref 0, .int x1] σ (f_X12_ruleClause x1 σ) :=
  con_of hO (by decide +kernel) (Nat.le_of_ble_eq_true rfl) rfl (fun X hX _ => c_X12_ruleClause_0 hX hO hΩ   x1 σ )
def it_X12_rule : List (Nat × Instr × Nat × Nat) := [(0, .aload_n 0, 1, 1), (1, .getfield 361, 3, 4), (4, .bipush 6, 2, 6), (6, .if_icmp .ne 5, 3, 9), (9, .iconst (-1), 1, 10), (10, .ireturn, 1, 11), (11, .aload_n 0, 1, 12), (12, .aload_n 0, 1, 13), (13, .getfield 361, 3, 16), (16, .putfield 226, 3, 19), (19, .aload_n 0, 1, 20), (20, .invokevirtual 325, 3, 23), (23, .iconst 0, 1, 24), (24, .istore_n 1, 1, 25), (25, .iconst 1, 1, 26), (26, .istore_n 2, 1, 27), (27, .iload_n 2, 1, 28), (28, .ifCond .eq 19, 3, 31), (31, .aload_n 0, 1, 32), (32, .iload_n 1, 1, 33), (33, .invokevirtual 364, 3, 36), (36, .iinc 1 1, 3, 39), (39, .aload_n 0, 1, 40), (40, .invokevirtual 331, 3, 43), (43, .istore_n 2, 1, 44), (44, .goto (-17), 3, 47), (47, .aload_n 0, 1, 48), (48, .iconst 0, 1, 49), (49, .putfield 169, 3, 52), (52, .aload_n 0, 1, 53), (53, .getfield 105, 3, 56), (56, .aload_n 0, 1, 57), (57, .getfield 226, 3, 60), (60, .iload_n 1, 1, 61), (61, .iastore, 1, 62), (62, .aload_n 0, 1, 63), (63, .dup, 1, 64), (64, .getfield 361, 3, 67), (67, .aload_n 0, 1, 68), (68, .getfield 196, 3, 71), (71, .ifCond .ne 7, 3, 74), (74, .iconst 1, 1, 75), (75, .goto 4, 3, 78), (78, .iconst 0, 1, 79), (79, .iadd, 1, 80), (80, .putfield 361, 3, 83), (83, .aload_n 0, 1, 84), (84, .getfield 196, 3, 87), (87, .ifCond .le 13, 3, 90), (90, .bipush (-2), 2, 92), (92, .aload_n 0, 1, 93), (93, .getfield 196, 3, 96), (96, .isub, 1, 97), (97, .goto 9, 3, 100), (100, .aload_n 0, 1, 101), (101, .getfield 361, 3, 104), (104, .iconst 1, 1, 105), (105, .isub, 1, 106), (106, .ireturn, 1, 107)]
theorem id_X12_rule : ∀ q ∈ it_X12_rule, decode cX12_rule q.1 = .ok (q.2.1, q.2.2.1) ∧ q.1 + q.2.2.1 = q.2.2.2 := by decide +kernel
theorem dc_X12_rule {pc : Nat} {i : Instr} {n pc' : Nat} (j : Nat) (h : it_X12_rule[j]? = some (pc, i, n, pc')) : Dc cX12_rule pc i n pc' := dc_of id_X12_rule j h
abbrev rm_X12_rule : Room := { frames := 12, cells := 0, slots := 0, locals := 262 }
def b_X12_rule_106    (s0 : Int32) (σ : MS) : Option (Int32 × MS) := some (s0, σ)
set_option maxHeartbeats 4000000 in
set_option maxRecDepth 20000 in
theorem c_X12_rule_106 {X : CX} {Ω : OM} (hX : CF X Ω RX12 cX12_rule 3 (some .int) rm_X12_rule) (hO : OKO Ω) (hΩ : oSH Ω = SHM)     (s0 : Int32) (σ : MS)  : GE X Ω 3 0 0 (emWI) 0 0 106 [] [.int s0] σ (b_X12_rule_106  s0 σ) := by
  unfold b_X12_rule_106
  exact g_iret hX (dc_X12_rule 58 rfl) rfl rfl (Nat.le_refl _) (Nat.le_refl _)
def b_X12_rule_79    (s0 : Int32) (s1 : Int32) (σ : MS) : Option (Int32 × MS) := (if (sI (wI σ 0 33 (s1 + s0)) 0 31) ≤ 0 then (b_X12_rule_106 (((sI (wI σ 0 33 (s1 + s0)) 0 33) - (1 : Int32))) (wI σ 0 33 (s1 + s0))) else (b_X12_rule_106 (((-2 : Int32) - (sI (wI σ 0 33 (s1 + s0)) 0 31))) (wI σ 0 33 (s1 + s0))))
set_option maxHeartbeats 4000000 in
set_option maxRecDepth 20000 in
theorem c_X12_rule_79 {X : CX} {Ω : OM} (hX : CF X Ω RX12 cX12_rule 3 (some .int) rm_X12_rule) (hO : OKO Ω) (hΩ : oSH Ω = SHM)     (s0 : Int32) (s1 : Int32) (σ : MS)  : GE X Ω 3 0 0 (emWI) 0 0 79 [(0, .ref 0)] [.int s0, .int s1, .ref 0] σ (b_X12_rule_79  s0 s1 σ) := by
  unfold b_X12_rule_79
  refine g_iadd hX (dc_X12_rule 44 rfl) ?_
  refine g_putI (raw := false) hX (dc_X12_rule 45 rfl) fl_X12_361 (by decide) ⟨rfl, rfl⟩ ⟨rfl, rfl⟩ (stS hΩ 0 rfl) ?_
  refine g_aload_n hX (dc_X12_rule 46 rfl) rfl 0 rfl ?_
  refine g_getI hX (dc_X12_rule 47 rfl) fl_X12_196 (by decide) rfl (stS hΩ 0 rfl) ?_
  refine g_if_le (tgt := 100) hX (dc_X12_rule 48 rfl) (by decide) (fun h9 => ?_) (fun h9 => ?_)
  · refine g_aload_n hX (dc_X12_rule 54 rfl) rfl 0 rfl ?_
    refine g_getI hX (dc_X12_rule 55 rfl) fl_X12_361 (by decide) rfl (stS hΩ 0 rfl) ?_
    refine g_iconst (w := (1 : Int32)) hX (dc_X12_rule 56 rfl) (by decide) ?_
    refine g_isub hX (dc_X12_rule 57 rfl) ?_
    exact g_sub [] rfl (c_X12_rule_106 hX hO hΩ (((sI (wI σ 0 33 (s1 + s0)) 0 33) - (1 : Int32))) (wI σ 0 33 (s1 + s0)))
  · refine g_bipush (w := (-2 : Int32)) hX (dc_X12_rule 49 rfl) (by decide) ?_
    refine g_aload_n hX (dc_X12_rule 50 rfl) rfl 0 rfl ?_
    refine g_getI hX (dc_X12_rule 51 rfl) fl_X12_196 (by decide) rfl (stS hΩ 0 rfl) ?_
    refine g_isub hX (dc_X12_rule 52 rfl) ?_
    refine g_goto (tgt := 106) hX (dc_X12_rule 53 rfl) (by decide) ?_
    exact g_sub [] rfl (c_X12_rule_106 hX hO hΩ (((-2 : Int32) - (sI (wI σ 0 33 (s1 + s0)) 0 31))) (wI σ 0 33 (s1 + s0)))
def b_X12_rule_27   : Nat → Int32 → Int32 → MS → Option (Int32 × MS)
  | 0, _, _, _ => none
  | n + 1, y1, y2, σ => (if y2 = 0 then chk (inb (sI (wI σ 0 29 (0 : Int32)) 0 32) 6) ((if (sI (wI (wI σ 0 29 (0 : Int32)) 31 (ix (sI (wI σ 0 29 (0 : Int32)) 0 32)) y1) 0 31) = 0 then (b_X12_rule_79 ((1 : Int32)) ((sI (wI (wI σ 0 29 (0 : Int32)) 31 (ix (sI (wI σ 0 29 (0 : Int32)) 0 32)) y1) 0 33)) (wI (wI σ 0 29 (0 : Int32)) 31 (ix (sI (wI σ 0 29 (0 : Int32)) 0 32)) y1)) else (b_X12_rule_79 ((0 : Int32)) ((sI (wI (wI σ 0 29 (0 : Int32)) 31 (ix (sI (wI σ 0 29 (0 : Int32)) 0 32)) y1) 0 33)) (wI (wI σ 0 29 (0 : Int32)) 31 (ix (sI (wI σ 0 29 (0 : Int32)) 0 32)) y1)))) else (f_X12_ruleClause y1 σ).bind (fun r13 => (f_X12_goesOn r13).bind (fun r14 => ((b_X12_rule_27  n) ((y1 + (1 : Int32))) (r14.1) r14.2))))
set_option maxHeartbeats 4000000 in
set_option maxRecDepth 20000 in
theorem c_X12_rule_27 {X : CX} {Ω : OM} (hX : CF X Ω RX12 cX12_rule 3 (some .int) rm_X12_rule) (hO : OKO Ω) (hΩ : oSH Ω = SHM)    : ∀ (n : Nat) (y1 : Int32) (y2 : Int32) (σ : MS) , GE X Ω 3 0 0 (emWI) 0 0 27 [(0, .ref 0), (1, .int y1), (2, .int y2)] [] σ (b_X12_rule_27  n y1 y2 σ)
  | 0, _, _, _ => g_none
  | n + 1, y1, y2, σ => by
    have hk27 := c_X12_rule_27 hX hO hΩ  n
    unfold b_X12_rule_27
    refine g_iload_n hX (dc_X12_rule 16 rfl) rfl 2 rfl ?_
    refine g_if_eq (tgt := 47) hX (dc_X12_rule 17 rfl) (by decide) (fun h10 => ?_) (fun h10 => ?_)
    · refine g_aload_n hX (dc_X12_rule 26 rfl) rfl 0 rfl ?_
      refine g_iconst (w := (0 : Int32)) hX (dc_X12_rule 27 rfl) (by decide) ?_
      refine g_putI (raw := false) hX (dc_X12_rule 28 rfl) fl_X12_169 (by decide) ⟨rfl, rfl⟩ ⟨rfl, rfl⟩ (stS hΩ 0 rfl) ?_
      refine g_aload_n hX (dc_X12_rule 29 rfl) rfl 0 rfl ?_
      refine g_getF (q := 31) hX (dc_X12_rule 30 rfl) fl_X12_105 (by decide) rfl (stS hΩ 0 rfl) rfl ?_
      refine g_aload_n hX (dc_X12_rule 31 rfl) rfl 0 rfl ?_
      refine g_getI hX (dc_X12_rule 32 rfl) fl_X12_226 (by decide) rfl (stS hΩ 0 rfl) ?_
      refine g_iload_n hX (dc_X12_rule 33 rfl) rfl 1 rfl ?_
      refine g_chk (fun hc11 => ?_)
      refine g_iast hX (dc_X12_rule 34 rfl) (stS hΩ 31 rfl) hc11 rfl ?_
      refine g_aload_n hX (dc_X12_rule 35 rfl) rfl 0 rfl ?_
      refine g_dup hX (dc_X12_rule 36 rfl) rfl ?_
      refine g_getI hX (dc_X12_rule 37 rfl) fl_X12_361 (by decide) rfl (stS hΩ 0 rfl) ?_
      refine g_aload_n hX (dc_X12_rule 38 rfl) rfl 0 rfl ?_
      refine g_getI hX (dc_X12_rule 39 rfl) fl_X12_196 (by decide) rfl (stS hΩ 0 rfl) ?_
      refine g_if_ne (tgt := 78) hX (dc_X12_rule 40 rfl) (by decide) (fun h12 => ?_) (fun h12 => ?_)
      · refine g_iconst (w := (1 : Int32)) hX (dc_X12_rule 41 rfl) (by decide) ?_
        refine g_goto (tgt := 79) hX (dc_X12_rule 42 rfl) (by decide) ?_
        exact g_sub [0] rfl (c_X12_rule_79 hX hO hΩ ((1 : Int32)) ((sI (wI (wI σ 0 29 (0 : Int32)) 31 (ix (sI (wI σ 0 29 (0 : Int32)) 0 32)) y1) 0 33)) (wI (wI σ 0 29 (0 : Int32)) 31 (ix (sI (wI σ 0 29 (0 : Int32)) 0 32)) y1))
      · refine g_iconst (w := (0 : Int32)) hX (dc_X12_rule 43 rfl) (by decide) ?_
        exact g_sub [0] rfl (c_X12_rule_79 hX hO hΩ ((0 : Int32)) ((sI (wI (wI σ 0 29 (0 : Int32)) 31 (ix (sI (wI σ 0 29 (0 : Int32)) 0 32)) y1) 0 33)) (wI (wI σ 0 29 (0 : Int32)) 31 (ix (sI (wI σ 0 29 (0 : Int32)) 0 32)) y1))
    · refine g_aload_n hX (dc_X12_rule 18 rfl) rfl 0 rfl ?_
      refine g_iload_n hX (dc_X12_rule 19 rfl) rfl 1 rfl ?_
      refine gV_WV (As := [.int y1]) (st := []) hX (dc_X12_rule 20 rfl) ml_X12_364 (con_X12_ruleClause hO hΩ y1 σ) (stS hΩ 0 rfl) rfl rfl ⟨by decide, by decide⟩ ⟨rfl, rfl⟩ ⟨Nat.zero_le _, Nat.zero_le _⟩ (Nat.le_of_ble_eq_true rfl) (fun r13 _ => ?_)
      refine g_iinc (w := (y1 + (1 : Int32))) (L' := [(1, .int (y1 + (1 : Int32))), (0, .ref 0), (2, .int y2)]) hX (dc_X12_rule 21 rfl) 1 rfl rfl (by decide) rfl ?_
      refine g_aload_n hX (dc_X12_rule 22 rfl) rfl 1 rfl ?_
      refine gV_WI (As := []) (st := []) hX (dc_X12_rule 23 rfl) ml_X12_331 (con_X12_goesOn hO hΩ r13) (stS hΩ 0 rfl) rfl rfl ⟨by decide, by decide⟩ ⟨rfl, rfl⟩ ⟨Nat.zero_le _, Nat.zero_le _⟩ (Nat.le_of_ble_eq_true rfl) (fun r14 _ => ?_)
      refine g_istore_n (L' := [(2, .int r14.1), (1, .int (y1 + (1 : Int32))), (0, .ref 0)]) hX (dc_X12_rule 24 rfl) rfl (by decide) rfl ?_
      refine g_goto (tgt := 27) hX (dc_X12_rule 25 rfl) (by decide) ?_
      exact g_sub [2, 1, 0] rfl (hk27 ((y1 + (1 : Int32))) (r14.1) r14.2 )
def b_X12_rule_0     (σ : MS) : Option (Int32 × MS) := (if (sI σ 0 33) = (6 : Int32) then some ((-1 : Int32), σ) else (f_X12_starts (wI σ 0 32 (sI σ 0 33))).bind (fun r16 => (b_X12_rule_27 FU ((0 : Int32)) ((1 : Int32)) r16)))
set_option maxHeartbeats 4000000 in
set_option maxRecDepth 20000 in
theorem c_X12_rule_0 {X : CX} {Ω : OM} (hX : CF X Ω RX12 cX12_rule 3 (some .int) rm_X12_rule) (hO : OKO Ω) (hΩ : oSH Ω = SHM)      (σ : MS)  : GE X Ω 3 0 0 (emWI) 0 0 0 [(0, .ref 0)] [] σ (b_X12_rule_0  σ) := by
  unfold b_X12_rule_0
  refine g_aload_n hX (dc_X12_rule 0 rfl) rfl 0 rfl ?_
  refine g_getI hX (dc_X12_rule 1 rfl) fl_X12_361 (by decide) rfl (stS hΩ 0 rfl) ?_
  refine g_bipush (w := (6 : Int32)) hX (dc_X12_rule 2 rfl) (by decide) ?_
  refine g_icmp_ne (tgt := 11) hX (dc_X12_rule 3 rfl) (by decide) (fun h15 => ?_) (fun h15 => ?_)
  · refine g_iconst (w := (-1 : Int32)) hX (dc_X12_rule 4 rfl) (by decide) ?_
    exact g_iret hX (dc_X12_rule 5 rfl) rfl rfl (Nat.le_refl _) (Nat.le_refl _)
  · refine g_aload_n hX (dc_X12_rule 6 rfl) rfl 0 rfl ?_
    refine g_aload_n hX (dc_X12_rule 7 rfl) rfl 0 rfl ?_
    refine g_getI hX (dc_X12_rule 8 rfl) fl_X12_361 (by decide) rfl (stS hΩ 0 rfl) ?_
    refine g_putI (raw := false) hX (dc_X12_rule 9 rfl) fl_X12_226 (by decide) ⟨rfl, rfl⟩ ⟨rfl, rfl⟩ (stS hΩ 0 rfl) ?_
    refine g_aload_n hX (dc_X12_rule 10 rfl) rfl 0 rfl ?_
    refine gV_WV (As := []) (st := []) hX (dc_X12_rule 11 rfl) ml_X12_325 (con_X12_starts hO hΩ (wI σ 0 32 (sI σ 0 33))) (stS hΩ 0 rfl) rfl rfl ⟨by decide, by decide⟩ ⟨rfl, rfl⟩ ⟨Nat.zero_le _, Nat.zero_le _⟩ (Nat.le_of_ble_eq_true rfl) (fun r16 _ => ?_)
    refine g_iconst (w := (0 : Int32)) hX (dc_X12_rule 12 rfl) (by decide) ?_
    refine g_istore_n (L' := [(1, .int (0 : Int32)), (0, .ref 0)]) hX (dc_X12_rule 13 rfl) rfl (by decide) rfl ?_
    refine g_iconst (w := (1 : Int32)) hX (dc_X12_rule 14 rfl) (by decide) ?_
    refine g_istore_n (L' := [(2, .int (1 : Int32)), (1, .int (0 : Int32)), (0, .ref 0)]) hX (dc_X12_rule 15 rfl) rfl (by decide) rfl ?_
    exact g_sub [2, 1, 0] rfl (c_X12_rule_27 hX hO hΩ FU ((0 : Int32)) ((1 : Int32)) r16)
def f_X12_rule  (σ : MS) : Option (Int32 × MS) := b_X12_rule_0   σ
theorem con_X12_rule {Ω : OM} (hO : OKO Ω) (hΩ : oSH Ω = SHM)  (σ : MS)  : Con Ω yX12_rule cX12_rule 3 (some .int) rm_X12_rule (emWI) [.ref 0] σ (f_X12_rule  σ) :=
  con_of hO (by decide +kernel) (Nat.le_of_ble_eq_true rfl) rfl (fun X hX _ => c_X12_rule_0 hX hO hΩ    σ )
