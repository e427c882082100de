/-! ===== rules: constants, locals, arithmetic, jumps ===== -/
section GP
variable {X : CX} {Ω : OM} {own : String} {cc : ByteArray} {nL mc ms : Nat} {ret : Option FieldType} {rm : Room} {β : Type} {em : β → Option Value × MS} {u v pc pc' : Nat} {L L' : List (Nat × Value)} {st : List Value} {σ : MS} {E E1 E2 : Option β}
theorem g_iadd {x y : Int32} (hX : CF X Ω own cc nL ret rm) (hd : Dc cc pc (.iadd) 1 pc')  (k : GE X Ω nL mc ms em u v pc' L (.int (x + y) :: st) σ E) : GE X Ω nL mc ms em u v pc L (.int y :: .int x :: st) σ E := by
  obtain ⟨p, l, e, R, s, m, args, below, meth, c⟩ := X
  obtain ⟨hx, hb, hml, hr, hown, hts, -⟩ := hX
  obtain ⟨hd, rfl⟩ := hd
  refine g_pure ?_ k
  intro H locs ls Q hk
  exact lv_iadd hx hb hd hk
theorem g_isub {x y : Int32} (hX : CF X Ω own cc nL ret rm) (hd : Dc cc pc (.isub) 1 pc')  (k : GE X Ω nL mc ms em u v pc' L (.int (x - y) :: st) σ E) : GE X Ω nL mc ms em u v pc L (.int y :: .int x :: st) σ E := by
  obtain ⟨p, l, e, R, s, m, args, below, meth, c⟩ := X
  obtain ⟨hx, hb, hml, hr, hown, hts, -⟩ := hX
  obtain ⟨hd, rfl⟩ := hd
  refine g_pure ?_ k
  intro H locs ls Q hk
  exact lv_isub hx hb hd hk
theorem g_imul {x y : Int32} (hX : CF X Ω own cc nL ret rm) (hd : Dc cc pc (.imul) 1 pc')  (k : GE X Ω nL mc ms em u v pc' L (.int (x * y) :: st) σ E) : GE X Ω nL mc ms em u v pc L (.int y :: .int x :: st) σ E := by
  obtain ⟨p, l, e, R, s, m, args, below, meth, c⟩ := X
  obtain ⟨hx, hb, hml, hr, hown, hts, -⟩ := hX
  obtain ⟨hd, rfl⟩ := hd
  refine g_pure ?_ k
  intro H locs ls Q hk
  exact lv_imul hx hb hd hk
theorem g_iand {x y : Int32} (hX : CF X Ω own cc nL ret rm) (hd : Dc cc pc (.iand) 1 pc')  (k : GE X Ω nL mc ms em u v pc' L (.int (x &&& y) :: st) σ E) : GE X Ω nL mc ms em u v pc L (.int y :: .int x :: st) σ E := by
  obtain ⟨p, l, e, R, s, m, args, below, meth, c⟩ := X
  obtain ⟨hx, hb, hml, hr, hown, hts, -⟩ := hX
  obtain ⟨hd, rfl⟩ := hd
  refine g_pure ?_ k
  intro H locs ls Q hk
  exact lv_iand hx hb hd hk
theorem g_ior {x y : Int32} (hX : CF X Ω own cc nL ret rm) (hd : Dc cc pc (.ior) 1 pc')  (k : GE X Ω nL mc ms em u v pc' L (.int (x ||| y) :: st) σ E) : GE X Ω nL mc ms em u v pc L (.int y :: .int x :: st) σ E := by
  obtain ⟨p, l, e, R, s, m, args, below, meth, c⟩ := X
  obtain ⟨hx, hb, hml, hr, hown, hts, -⟩ := hX
  obtain ⟨hd, rfl⟩ := hd
  refine g_pure ?_ k
  intro H locs ls Q hk
  exact lv_ior hx hb hd hk
theorem g_ixor {x y : Int32} (hX : CF X Ω own cc nL ret rm) (hd : Dc cc pc (.ixor) 1 pc')  (k : GE X Ω nL mc ms em u v pc' L (.int (x ^^^ y) :: st) σ E) : GE X Ω nL mc ms em u v pc L (.int y :: .int x :: st) σ E := by
  obtain ⟨p, l, e, R, s, m, args, below, meth, c⟩ := X
  obtain ⟨hx, hb, hml, hr, hown, hts, -⟩ := hX
  obtain ⟨hd, rfl⟩ := hd
  refine g_pure ?_ k
  intro H locs ls Q hk
  exact lv_ixor hx hb hd hk
theorem g_ishl {x y : Int32} (hX : CF X Ω own cc nL ret rm) (hd : Dc cc pc (.ishl) 1 pc')  (k : GE X Ω nL mc ms em u v pc' L (.int (x <<< (y &&& 31)) :: st) σ E) : GE X Ω nL mc ms em u v pc L (.int y :: .int x :: st) σ E := by
  obtain ⟨p, l, e, R, s, m, args, below, meth, c⟩ := X
  obtain ⟨hx, hb, hml, hr, hown, hts, -⟩ := hX
  obtain ⟨hd, rfl⟩ := hd
  refine g_pure ?_ k
  intro H locs ls Q hk
  exact lv_ishl hx hb hd hk
theorem g_ishr {x y : Int32} (hX : CF X Ω own cc nL ret rm) (hd : Dc cc pc (.ishr) 1 pc')  (k : GE X Ω nL mc ms em u v pc' L (.int (x >>> (y &&& 31)) :: st) σ E) : GE X Ω nL mc ms em u v pc L (.int y :: .int x :: st) σ E := by
  obtain ⟨p, l, e, R, s, m, args, below, meth, c⟩ := X
  obtain ⟨hx, hb, hml, hr, hown, hts, -⟩ := hX
  obtain ⟨hd, rfl⟩ := hd
  refine g_pure ?_ k
  intro H locs ls Q hk
  exact lv_ishr hx hb hd hk
theorem g_iushr {x y : Int32} (hX : CF X Ω own cc nL ret rm) (hd : Dc cc pc (.iushr) 1 pc')  (k : GE X Ω nL mc ms em u v pc' L (.int ((x.toUInt32 >>> (y.toUInt32 &&& Int32.toUInt32 31)).toInt32) :: st) σ E) : GE X Ω nL mc ms em u v pc L (.int y :: .int x :: st) σ E := by
  obtain ⟨p, l, e, R, s, m, args, below, meth, c⟩ := X
  obtain ⟨hx, hb, hml, hr, hown, hts, -⟩ := hX
  obtain ⟨hd, rfl⟩ := hd
  refine g_pure ?_ k
  intro H locs ls Q hk
  exact lv_iushr hx hb hd rfl hk
theorem g_idiv {x y : Int32} (hX : CF X Ω own cc nL ret rm) (hd : Dc cc pc (.idiv) 1 pc') (hne : ¬ y = 0) (k : GE X Ω nL mc ms em u v pc' L (.int (x / y) :: st) σ E) : GE X Ω nL mc ms em u v pc L (.int y :: .int x :: st) σ E := by
  obtain ⟨p, l, e, R, s, m, args, below, meth, c⟩ := X
  obtain ⟨hx, hb, hml, hr, hown, hts, -⟩ := hX
  obtain ⟨hd, rfl⟩ := hd
  refine g_pure ?_ k
  intro H locs ls Q hk
  exact lv_idiv hx hb hd hne hk
theorem g_irem {x y : Int32} (hX : CF X Ω own cc nL ret rm) (hd : Dc cc pc (.irem) 1 pc') (hne : ¬ y = 0) (k : GE X Ω nL mc ms em u v pc' L (.int (x - x / y * y) :: st) σ E) : GE X Ω nL mc ms em u v pc L (.int y :: .int x :: st) σ E := by
  obtain ⟨p, l, e, R, s, m, args, below, meth, c⟩ := X
  obtain ⟨hx, hb, hml, hr, hown, hts, -⟩ := hX
  obtain ⟨hd, rfl⟩ := hd
  refine g_pure ?_ k
  intro H locs ls Q hk
  exact lv_irem hx hb hd hne hk
theorem g_ladd {x y : Int64} (hX : CF X Ω own cc nL ret rm) (hd : Dc cc pc (.ladd) 1 pc')  (k : GE X Ω nL mc ms em u v pc' L (.long (x + y) :: st) σ E) : GE X Ω nL mc ms em u v pc L (.long y :: .long x :: st) σ E := by
  obtain ⟨p, l, e, R, s, m, args, below, meth, c⟩ := X
  obtain ⟨hx, hb, hml, hr, hown, hts, -⟩ := hX
  obtain ⟨hd, rfl⟩ := hd
  refine g_pure ?_ k
  intro H locs ls Q hk
  exact lv_ladd hx hb hd hk
theorem g_lsub {x y : Int64} (hX : CF X Ω own cc nL ret rm) (hd : Dc cc pc (.lsub) 1 pc')  (k : GE X Ω nL mc ms em u v pc' L (.long (x - y) :: st) σ E) : GE X Ω nL mc ms em u v pc L (.long y :: .long x :: st) σ E := by
  obtain ⟨p, l, e, R, s, m, args, below, meth, c⟩ := X
  obtain ⟨hx, hb, hml, hr, hown, hts, -⟩ := hX
  obtain ⟨hd, rfl⟩ := hd
  refine g_pure ?_ k
  intro H locs ls Q hk
  exact lv_lsub hx hb hd hk
theorem g_lmul {x y : Int64} (hX : CF X Ω own cc nL ret rm) (hd : Dc cc pc (.lmul) 1 pc')  (k : GE X Ω nL mc ms em u v pc' L (.long (x * y) :: st) σ E) : GE X Ω nL mc ms em u v pc L (.long y :: .long x :: st) σ E := by
  obtain ⟨p, l, e, R, s, m, args, below, meth, c⟩ := X
  obtain ⟨hx, hb, hml, hr, hown, hts, -⟩ := hX
  obtain ⟨hd, rfl⟩ := hd
  refine g_pure ?_ k
  intro H locs ls Q hk
  exact lv_lmul hx hb hd hk
theorem g_land {x y : Int64} (hX : CF X Ω own cc nL ret rm) (hd : Dc cc pc (.land) 1 pc')  (k : GE X Ω nL mc ms em u v pc' L (.long (x &&& y) :: st) σ E) : GE X Ω nL mc ms em u v pc L (.long y :: .long x :: st) σ E := by
  obtain ⟨p, l, e, R, s, m, args, below, meth, c⟩ := X
  obtain ⟨hx, hb, hml, hr, hown, hts, -⟩ := hX
  obtain ⟨hd, rfl⟩ := hd
  refine g_pure ?_ k
  intro H locs ls Q hk
  exact lv_land hx hb hd hk
theorem g_lor {x y : Int64} (hX : CF X Ω own cc nL ret rm) (hd : Dc cc pc (.lor) 1 pc')  (k : GE X Ω nL mc ms em u v pc' L (.long (x ||| y) :: st) σ E) : GE X Ω nL mc ms em u v pc L (.long y :: .long x :: st) σ E := by
  obtain ⟨p, l, e, R, s, m, args, below, meth, c⟩ := X
  obtain ⟨hx, hb, hml, hr, hown, hts, -⟩ := hX
  obtain ⟨hd, rfl⟩ := hd
  refine g_pure ?_ k
  intro H locs ls Q hk
  exact lv_lor hx hb hd hk
theorem g_ldiv {x y : Int64} (hX : CF X Ω own cc nL ret rm) (hd : Dc cc pc (.ldiv) 1 pc') (hne : ¬ y = 0) (k : GE X Ω nL mc ms em u v pc' L (.long (x / y) :: st) σ E) : GE X Ω nL mc ms em u v pc L (.long y :: .long x :: st) σ E := by
  obtain ⟨p, l, e, R, s, m, args, below, meth, c⟩ := X
  obtain ⟨hx, hb, hml, hr, hown, hts, -⟩ := hX
  obtain ⟨hd, rfl⟩ := hd
  refine g_pure ?_ k
  intro H locs ls Q hk
  exact lv_ldiv hx hb hd hne hk
theorem g_lrem {x y : Int64} (hX : CF X Ω own cc nL ret rm) (hd : Dc cc pc (.lrem) 1 pc') (hne : ¬ y = 0) (k : GE X Ω nL mc ms em u v pc' L (.long (x - x / y * y) :: st) σ E) : GE X Ω nL mc ms em u v pc L (.long y :: .long x :: st) σ E := by
  obtain ⟨p, l, e, R, s, m, args, below, meth, c⟩ := X
  obtain ⟨hx, hb, hml, hr, hown, hts, -⟩ := hX
  obtain ⟨hd, rfl⟩ := hd
  refine g_pure ?_ k
  intro H locs ls Q hk
  exact lv_lrem hx hb hd hne hk
theorem g_lcmp {x y : Int64} (hX : CF X Ω own cc nL ret rm) (hd : Dc cc pc (.lcmp) 1 pc')  (k : GE X Ω nL mc ms em u v pc' L (.int (lg_cmp x y) :: st) σ E) : GE X Ω nL mc ms em u v pc L (.long y :: .long x :: st) σ E := by
  obtain ⟨p, l, e, R, s, m, args, below, meth, c⟩ := X
  obtain ⟨hx, hb, hml, hr, hown, hts, -⟩ := hX
  obtain ⟨hd, rfl⟩ := hd
  refine g_pure ?_ k
  intro H locs ls Q hk
  exact W.lcmp hx hb hd hk
theorem g_i2l {x : Int32} (hX : CF X Ω own cc nL ret rm) (hd : Dc cc pc (.i2l) 1 pc')  (k : GE X Ω nL mc ms em u v pc' L (.long x.toInt64 :: st) σ E) : GE X Ω nL mc ms em u v pc L (.int x :: st) σ E := by
  obtain ⟨p, l, e, R, s, m, args, below, meth, c⟩ := X
  obtain ⟨hx, hb, hml, hr, hown, hts, -⟩ := hX
  obtain ⟨hd, rfl⟩ := hd
  refine g_pure ?_ k
  intro H locs ls Q hk
  exact lv_i2l hx hb hd rfl hk
theorem g_l2i {x : Int64} (hX : CF X Ω own cc nL ret rm) (hd : Dc cc pc (.l2i) 1 pc')  (k : GE X Ω nL mc ms em u v pc' L (.int x.toInt32 :: st) σ E) : GE X Ω nL mc ms em u v pc L (.long x :: st) σ E := by
  obtain ⟨p, l, e, R, s, m, args, below, meth, c⟩ := X
  obtain ⟨hx, hb, hml, hr, hown, hts, -⟩ := hX
  obtain ⟨hd, rfl⟩ := hd
  refine g_pure ?_ k
  intro H locs ls Q hk
  exact lv_l2i hx hb hd rfl hk
theorem g_i2b {x : Int32} (hX : CF X Ω own cc nL ret rm) (hd : Dc cc pc (.i2b) 1 pc')  (k : GE X Ω nL mc ms em u v pc' L (.int x.toInt8.toInt32 :: st) σ E) : GE X Ω nL mc ms em u v pc L (.int x :: st) σ E := by
  obtain ⟨p, l, e, R, s, m, args, below, meth, c⟩ := X
  obtain ⟨hx, hb, hml, hr, hown, hts, -⟩ := hX
  obtain ⟨hd, rfl⟩ := hd
  refine g_pure ?_ k
  intro H locs ls Q hk
  exact lv_i2b hx hb hd rfl hk
theorem g_iconst {n : Int} {w : Int32} (hX : CF X Ω own cc nL ret rm) (hd : Dc cc pc (.iconst n) 1 pc') (hv : Int32.ofInt n = w) (k : GE X Ω nL mc ms em u v pc' L (.int w :: st) σ E) : GE X Ω nL mc ms em u v pc L (st) σ E := by
  obtain ⟨p, l, e, R, s, m, args, below, meth, c⟩ := X
  obtain ⟨hx, hb, hml, hr, hown, hts, -⟩ := hX
  obtain ⟨hd, rfl⟩ := hd
  refine g_pure ?_ k
  intro H locs ls Q hk
  exact lv_iconst hx hb hd hv hk
theorem g_bipush {n : Int} {w : Int32} (hX : CF X Ω own cc nL ret rm) (hd : Dc cc pc (.bipush n) 2 pc') (hv : (Int8.ofInt n).toInt32 = w) (k : GE X Ω nL mc ms em u v pc' L (.int w :: st) σ E) : GE X Ω nL mc ms em u v pc L (st) σ E := by
  obtain ⟨p, l, e, R, s, m, args, below, meth, c⟩ := X
  obtain ⟨hx, hb, hml, hr, hown, hts, -⟩ := hX
  obtain ⟨hd, rfl⟩ := hd
  refine g_pure ?_ k
  intro H locs ls Q hk
  exact lv_bipush hx hb hd hv hk
theorem g_sipush {n : Int} {w : Int32} (hX : CF X Ω own cc nL ret rm) (hd : Dc cc pc (.sipush n) 3 pc') (hv : (Int16.ofInt n).toInt32 = w) (k : GE X Ω nL mc ms em u v pc' L (.int w :: st) σ E) : GE X Ω nL mc ms em u v pc L (st) σ E := by
  obtain ⟨p, l, e, R, s, m, args, below, meth, c⟩ := X
  obtain ⟨hx, hb, hml, hr, hown, hts, -⟩ := hX
  obtain ⟨hd, rfl⟩ := hd
  refine g_pure ?_ k
  intro H locs ls Q hk
  exact lv_sipush hx hb hd hv hk
theorem g_lconst {n : Fin 2} {w : Int64} (hX : CF X Ω own cc nL ret rm) (hd : Dc cc pc (.lconst n) 1 pc') (hv : Int64.ofNat (n : Nat) = w) (k : GE X Ω nL mc ms em u v pc' L (.long w :: st) σ E) : GE X Ω nL mc ms em u v pc L (st) σ E := by
  obtain ⟨p, l, e, R, s, m, args, below, meth, c⟩ := X
  obtain ⟨hx, hb, hml, hr, hown, hts, -⟩ := hX
  obtain ⟨hd, rfl⟩ := hd
  refine g_pure ?_ k
  intro H locs ls Q hk
  exact lv_lconst hx hb hd hv hk
theorem g_ldc {i : Nat} {w : Int32} (hX : CF X Ω own cc nL ret rm) (hd : Dc cc pc (.ldc i) 2 pc') (hw : Cond.constant own i w ∈ gd_tbl) (k : GE X Ω nL mc ms em u v pc' L (.int w :: st) σ E) : GE X Ω nL mc ms em u v pc L (st) σ E := by
  obtain ⟨p, l, e, R, s, m, args, below, meth, c⟩ := X
  obtain ⟨hx, hb, hml, hr, hown, hts, -⟩ := hX
  obtain ⟨hd, rfl⟩ := hd
  refine g_pure ?_ k
  intro H locs ls Q hk
  exact lv_ldc hx hb hown (hts _ hw) hd hk
theorem g_ldcw {i : Nat} {w : Int32} (hX : CF X Ω own cc nL ret rm) (hd : Dc cc pc (.ldc_w i) 3 pc') (hw : Cond.constant own i w ∈ gd_tbl) (k : GE X Ω nL mc ms em u v pc' L (.int w :: st) σ E) : GE X Ω nL mc ms em u v pc L (st) σ E := by
  obtain ⟨p, l, e, R, s, m, args, below, meth, c⟩ := X
  obtain ⟨hx, hb, hml, hr, hown, hts, -⟩ := hX
  obtain ⟨hd, rfl⟩ := hd
  refine g_pure ?_ k
  intro H locs ls Q hk
  exact lv_ldcw hx hb hown (hts _ hw) hd hk
theorem g_ldc2 {i : Nat} {w : Int64} (hX : CF X Ω own cc nL ret rm) (hd : Dc cc pc (.ldc2_w i) 3 pc') (hw : Cond.constantLong own i w ∈ gd_tbl) (k : GE X Ω nL mc ms em u v pc' L (.long w :: st) σ E) : GE X Ω nL mc ms em u v pc L (st) σ E := by
  obtain ⟨p, l, e, R, s, m, args, below, meth, c⟩ := X
  obtain ⟨hx, hb, hml, hr, hown, hts, -⟩ := hX
  obtain ⟨hd, rfl⟩ := hd
  refine g_pure ?_ k
  intro H locs ls Q hk
  exact lv_ldc2 hx hb hown (hts _ hw) hd hk
theorem g_null  (hX : CF X Ω own cc nL ret rm) (hd : Dc cc pc (.aconst_null) 1 pc')  (k : GE X Ω nL mc ms em u v pc' L (.null :: st) σ E) : GE X Ω nL mc ms em u v pc L (st) σ E := by
  obtain ⟨p, l, e, R, s, m, args, below, meth, c⟩ := X
  obtain ⟨hx, hb, hml, hr, hown, hts, -⟩ := hX
  obtain ⟨hd, rfl⟩ := hd
  refine g_pure ?_ k
  intro H locs ls Q hk
  exact lv_null hx hb hd hk
theorem g_dup {a : Value} (hX : CF X Ω own cc nL ret rm) (hd : Dc cc pc (.dup) 1 pc') (hc : a.category = 1) (k : GE X Ω nL mc ms em u v pc' L (a :: a :: st) σ E) : GE X Ω nL mc ms em u v pc L (a :: st) σ E := by
  obtain ⟨p, l, e, R, s, m, args, below, meth, c⟩ := X
  obtain ⟨hx, hb, hml, hr, hown, hts, -⟩ := hX
  obtain ⟨hd, rfl⟩ := hd
  refine g_pure ?_ k
  intro H locs ls Q hk
  exact lv_dup hx hb hd ((cR_cat _ a).trans hc) hk
theorem g_pop {a : Value} (hX : CF X Ω own cc nL ret rm) (hd : Dc cc pc (.pop) 1 pc') (hc : a.category = 1) (k : GE X Ω nL mc ms em u v pc' L (st) σ E) : GE X Ω nL mc ms em u v pc L (a :: st) σ E := by
  obtain ⟨p, l, e, R, s, m, args, below, meth, c⟩ := X
  obtain ⟨hx, hb, hml, hr, hown, hts, -⟩ := hX
  obtain ⟨hd, rfl⟩ := hd
  refine g_pure ?_ k
  intro H locs ls Q hk
  exact lv_pop hx hb hd ((cR_cat _ a).trans hc) hk
theorem g_dup2 {a b : Value} (hX : CF X Ω own cc nL ret rm) (hd : Dc cc pc (.dup2) 1 pc') (hc : a.category = 1) (hc2 : b.category = 1) (k : GE X Ω nL mc ms em u v pc' L (a :: b :: a :: b :: st) σ E) : GE X Ω nL mc ms em u v pc L (a :: b :: st) σ E := by
  obtain ⟨p, l, e, R, s, m, args, below, meth, c⟩ := X
  obtain ⟨hx, hb, hml, hr, hown, hts, -⟩ := hX
  obtain ⟨hd, rfl⟩ := hd
  refine g_pure ?_ k
  intro H locs ls Q hk
  exact lv_dup2_11 hx hb hd ((cR_cat _ a).trans hc) ((cR_cat _ b).trans hc2) hk
theorem g_iload_n {x : Int32} {i : Nat} {j : Fin 4} (hX : CF X Ω own cc nL ret rm) (hd : Dc cc pc (.iload_n j) 1 pc') (hj : (j : Nat) = i) (q : Nat) (hq : L[q]? = some (i, .int x)) (k : GE X Ω nL mc ms em u v pc' L (.int x :: st) σ E) : GE X Ω nL mc ms em u v pc L st σ E := by
  obtain ⟨p, l, e, R, s, m, args, below, meth, c⟩ := X
  obtain ⟨hx, hb, hml, hr, hown, hts, -⟩ := hX
  obtain ⟨hd, rfl⟩ := hd
  intro out hE H locs ls hR hS hL
  exact lv_iload_n hx hb hd hj (lv_at hL q (by rw [List.getElem?_map, hq]; rfl)) (k out hE H locs ls hR hS hL)
theorem g_iload {x : Int32} {i : Nat} (hX : CF X Ω own cc nL ret rm) (hd : Dc cc pc (.iload i) 2 pc') (q : Nat) (hq : L[q]? = some (i, .int x)) (k : GE X Ω nL mc ms em u v pc' L (.int x :: st) σ E) : GE X Ω nL mc ms em u v pc L st σ E := by
  obtain ⟨p, l, e, R, s, m, args, below, meth, c⟩ := X
  obtain ⟨hx, hb, hml, hr, hown, hts, -⟩ := hX
  obtain ⟨hd, rfl⟩ := hd
  intro out hE H locs ls hR hS hL
  exact lv_iload hx hb hd (lv_at hL q (by rw [List.getElem?_map, hq]; rfl)) (k out hE H locs ls hR hS hL)
theorem g_lload_n {x : Int64} {i : Nat} {j : Fin 4} (hX : CF X Ω own cc nL ret rm) (hd : Dc cc pc (.lload_n j) 1 pc') (hj : (j : Nat) = i) (q : Nat) (hq : L[q]? = some (i, .long x)) (k : GE X Ω nL mc ms em u v pc' L (.long x :: st) σ E) : GE X Ω nL mc ms em u v pc L st σ E := by
  obtain ⟨p, l, e, R, s, m, args, below, meth, c⟩ := X
  obtain ⟨hx, hb, hml, hr, hown, hts, -⟩ := hX
  obtain ⟨hd, rfl⟩ := hd
  intro out hE H locs ls hR hS hL
  exact lv_lload_n hx hb hd hj (lv_at hL q (by rw [List.getElem?_map, hq]; rfl)) (k out hE H locs ls hR hS hL)
theorem g_lload {x : Int64} {i : Nat} (hX : CF X Ω own cc nL ret rm) (hd : Dc cc pc (.lload i) 2 pc') (q : Nat) (hq : L[q]? = some (i, .long x)) (k : GE X Ω nL mc ms em u v pc' L (.long x :: st) σ E) : GE X Ω nL mc ms em u v pc L st σ E := by
  obtain ⟨p, l, e, R, s, m, args, below, meth, c⟩ := X
  obtain ⟨hx, hb, hml, hr, hown, hts, -⟩ := hX
  obtain ⟨hd, rfl⟩ := hd
  intro out hE H locs ls hR hS hL
  exact lv_lload hx hb hd (lv_at hL q (by rw [List.getElem?_map, hq]; rfl)) (k out hE H locs ls hR hS hL)
theorem g_aload_n {x : Nat} {i : Nat} {j : Fin 4} (hX : CF X Ω own cc nL ret rm) (hd : Dc cc pc (.aload_n j) 1 pc') (hj : (j : Nat) = i) (q : Nat) (hq : L[q]? = some (i, .ref x)) (k : GE X Ω nL mc ms em u v pc' L (.ref x :: st) σ E) : GE X Ω nL mc ms em u v pc L st σ E := by
  obtain ⟨p, l, e, R, s, m, args, below, meth, c⟩ := X
  obtain ⟨hx, hb, hml, hr, hown, hts, -⟩ := hX
  obtain ⟨hd, rfl⟩ := hd
  intro out hE H locs ls hR hS hL
  exact lv_aload_n hx hb hd hj (lv_at hL q (by rw [List.getElem?_map, hq]; rfl)) (k out hE H locs ls hR hS hL)
theorem g_aload {x : Nat} {i : Nat} (hX : CF X Ω own cc nL ret rm) (hd : Dc cc pc (.aload i) 2 pc') (q : Nat) (hq : L[q]? = some (i, .ref x)) (k : GE X Ω nL mc ms em u v pc' L (.ref x :: st) σ E) : GE X Ω nL mc ms em u v pc L st σ E := by
  obtain ⟨p, l, e, R, s, m, args, below, meth, c⟩ := X
  obtain ⟨hx, hb, hml, hr, hown, hts, -⟩ := hX
  obtain ⟨hd, rfl⟩ := hd
  intro out hE H locs ls hR hS hL
  exact lv_aload hx hb hd (lv_at hL q (by rw [List.getElem?_map, hq]; rfl)) (k out hE H locs ls hR hS hL)
theorem g_aloadN_n {i : Nat} {j : Fin 4} (hX : CF X Ω own cc nL ret rm) (hd : Dc cc pc (.aload_n j) 1 pc') (hj : (j : Nat) = i) (q : Nat) (hq : L[q]? = some (i, .null)) (k : GE X Ω nL mc ms em u v pc' L (.null :: st) σ E) : GE X Ω nL mc ms em u v pc L st σ E := by
  obtain ⟨p, l, e, R, s, m, args, below, meth, c⟩ := X
  obtain ⟨hx, hb, hml, hr, hown, hts, -⟩ := hX
  obtain ⟨hd, rfl⟩ := hd
  intro out hE H locs ls hR hS hL
  exact lv_aload_nN hx hb hd hj (lv_at hL q (by rw [List.getElem?_map, hq]; rfl)) (k out hE H locs ls hR hS hL)
theorem g_istore_n {x : Int32} {i : Nat} {j : Fin 4} (hX : CF X Ω own cc nL ret rm) (hd : Dc cc pc (.istore_n j) 1 pc') (hj : (j : Nat) = i) (hn : i < nL) (hl : stL i (.int x) L = L') (k : GE X Ω nL mc ms em u v pc' L' st σ E) : GE X Ω nL mc ms em u v pc L (.int x :: st) σ E := by
  obtain ⟨p, l, e, R, s, m, args, below, meth, c⟩ := X
  obtain ⟨hx, hb, hml, hr, hown, hts, -⟩ := hX
  obtain ⟨hd, rfl⟩ := hd
  intro out hE H locs ls hR hS hL
  subst hl
  exact lv_istore_n hx hb hd hj hL hn (stL_map (oR Ω) i (.int x) L) (fun ls' hL' => k out hE H locs ls' hR hS hL')
theorem g_istore {x : Int32} {i : Nat} (hX : CF X Ω own cc nL ret rm) (hd : Dc cc pc (.istore i) 2 pc') (hn : i < nL) (hl : stL i (.int x) L = L') (k : GE X Ω nL mc ms em u v pc' L' st σ E) : GE X Ω nL mc ms em u v pc L (.int x :: st) σ E := by
  obtain ⟨p, l, e, R, s, m, args, below, meth, c⟩ := X
  obtain ⟨hx, hb, hml, hr, hown, hts, -⟩ := hX
  obtain ⟨hd, rfl⟩ := hd
  intro out hE H locs ls hR hS hL
  subst hl
  exact lv_istore hx hb hd hL hn (stL_map (oR Ω) i (.int x) L) (fun ls' hL' => k out hE H locs ls' hR hS hL')
theorem g_lstore_n {x : Int64} {i : Nat} {j : Fin 4} (hX : CF X Ω own cc nL ret rm) (hd : Dc cc pc (.lstore_n j) 1 pc') (hj : (j : Nat) = i) (hn : i + 1 < nL) (hl : stL2 i (.long x) L = L') (k : GE X Ω nL mc ms em u v pc' L' st σ E) : GE X Ω nL mc ms em u v pc L (.long x :: st) σ E := by
  obtain ⟨p, l, e, R, s, m, args, below, meth, c⟩ := X
  obtain ⟨hx, hb, hml, hr, hown, hts, -⟩ := hX
  obtain ⟨hd, rfl⟩ := hd
  intro out hE H locs ls hR hS hL
  subst hl
  exact lv_lstore_n hx hb hd hj hL hn (stL2_map (oR Ω) i (.long x) L) (fun ls' hL' => k out hE H locs ls' hR hS hL')
theorem g_lstore {x : Int64} {i : Nat} (hX : CF X Ω own cc nL ret rm) (hd : Dc cc pc (.lstore i) 2 pc') (hn : i + 1 < nL) (hl : stL2 i (.long x) L = L') (k : GE X Ω nL mc ms em u v pc' L' st σ E) : GE X Ω nL mc ms em u v pc L (.long x :: st) σ E := by
  obtain ⟨p, l, e, R, s, m, args, below, meth, c⟩ := X
  obtain ⟨hx, hb, hml, hr, hown, hts, -⟩ := hX
  obtain ⟨hd, rfl⟩ := hd
  intro out hE H locs ls hR hS hL
  subst hl
  exact lv_lstore hx hb hd hL hn (stL2_map (oR Ω) i (.long x) L) (fun ls' hL' => k out hE H locs ls' hR hS hL')
theorem g_astore_n {x : Nat} {i : Nat} {j : Fin 4} (hX : CF X Ω own cc nL ret rm) (hd : Dc cc pc (.astore_n j) 1 pc') (hj : (j : Nat) = i) (hn : i < nL) (hl : stL i (.ref x) L = L') (k : GE X Ω nL mc ms em u v pc' L' st σ E) : GE X Ω nL mc ms em u v pc L (.ref x :: st) σ E := by
  obtain ⟨p, l, e, R, s, m, args, below, meth, c⟩ := X
  obtain ⟨hx, hb, hml, hr, hown, hts, -⟩ := hX
  obtain ⟨hd, rfl⟩ := hd
  intro out hE H locs ls hR hS hL
  subst hl
  exact lv_astore_n hx hb hd hj hL hn (stL_map (oR Ω) i (.ref x) L) (fun ls' hL' => k out hE H locs ls' hR hS hL')
theorem g_astore {x : Nat} {i : Nat} (hX : CF X Ω own cc nL ret rm) (hd : Dc cc pc (.astore i) 2 pc') (hn : i < nL) (hl : stL i (.ref x) L = L') (k : GE X Ω nL mc ms em u v pc' L' st σ E) : GE X Ω nL mc ms em u v pc L (.ref x :: st) σ E := by
  obtain ⟨p, l, e, R, s, m, args, below, meth, c⟩ := X
  obtain ⟨hx, hb, hml, hr, hown, hts, -⟩ := hX
  obtain ⟨hd, rfl⟩ := hd
  intro out hE H locs ls hR hS hL
  subst hl
  exact lv_astore hx hb hd hL hn (stL_map (oR Ω) i (.ref x) L) (fun ls' hL' => k out hE H locs ls' hR hS hL')
theorem g_astoreN_n {i : Nat} {j : Fin 4} (hX : CF X Ω own cc nL ret rm) (hd : Dc cc pc (.astore_n j) 1 pc') (hj : (j : Nat) = i) (hn : i < nL) (hl : stL i .null L = L') (k : GE X Ω nL mc ms em u v pc' L' st σ E) : GE X Ω nL mc ms em u v pc L (.null :: st) σ E := by
  obtain ⟨p, l, e, R, s, m, args, below, meth, c⟩ := X
  obtain ⟨hx, hb, hml, hr, hown, hts, -⟩ := hX
  obtain ⟨hd, rfl⟩ := hd
  intro out hE H locs ls hR hS hL
  subst hl
  exact lv_astore_nN hx hb hd hj hL hn (stL_map (oR Ω) i (.null) L) (fun ls' hL' => k out hE H locs ls' hR hS hL')
theorem g_iinc {i : Nat} {n : Int} {x w : Int32} (hX : CF X Ω own cc nL ret rm) (hd : Dc cc pc (.iinc i n) 3 pc') (q : Nat) (hq : L[q]? = some (i, .int x)) (hv : x + Int32.ofInt n = w) (hn : i < nL) (hl : stL i (.int w) L = L') (k : GE X Ω nL mc ms em u v pc' L' st σ E) : GE X Ω nL mc ms em u v pc L st σ E := by
  obtain ⟨p, l, e, R, s, m, args, below, meth, c⟩ := X
  obtain ⟨hx, hb, hml, hr, hown, hts, -⟩ := hX
  obtain ⟨hd, rfl⟩ := hd
  intro out hE H locs ls hR hS hL
  subst hl
  exact lv_iinc hx hb hd hL (k := q) (by rw [List.getElem?_map, hq]; rfl) hv hn (stL_map (oR Ω) i (.int w) L) (fun ls' hL' => k out hE H locs ls' hR hS hL')
theorem g_if_eq {x : Int32} {off : Int} {tgt : Nat} (hX : CF X Ω own cc nL ret rm) (hd : Dc cc pc (.ifCond .eq off) 3 pc') (ht : (pc : Int) + off = (tgt : Int)) (k1 : x = 0 → GE X Ω nL mc ms em u v tgt L st σ E1) (k2 : ¬ x = 0 → GE X Ω nL mc ms em u v pc' L st σ E2) : GE X Ω nL mc ms em u v pc L (.int x :: st) σ (if x = 0 then E1 else E2) := by
  obtain ⟨p, l, e, R, s, m, args, below, meth, c⟩ := X
  obtain ⟨hx, hb, hml, hr, hown, hts, -⟩ := hX
  obtain ⟨hd, rfl⟩ := hd
  intro out hE H locs ls hR hS hL
  exact lv_if_eq hx hb hd ht (fun hc => k1 hc out (by rw [if_pos hc] at hE; exact hE) H locs ls hR hS hL) (fun hc => k2 hc out (by rw [if_neg hc] at hE; exact hE) H locs ls hR hS hL)
theorem g_if_ne {x : Int32} {off : Int} {tgt : Nat} (hX : CF X Ω own cc nL ret rm) (hd : Dc cc pc (.ifCond .ne off) 3 pc') (ht : (pc : Int) + off = (tgt : Int)) (k1 : x = 0 → GE X Ω nL mc ms em u v pc' L st σ E1) (k2 : ¬ x = 0 → GE X Ω nL mc ms em u v tgt L st σ E2) : GE X Ω nL mc ms em u v pc L (.int x :: st) σ (if x = 0 then E1 else E2) := by
  obtain ⟨p, l, e, R, s, m, args, below, meth, c⟩ := X
  obtain ⟨hx, hb, hml, hr, hown, hts, -⟩ := hX
  obtain ⟨hd, rfl⟩ := hd
  intro out hE H locs ls hR hS hL
  exact lv_if_ne hx hb hd ht (fun hc => k2 hc out (by rw [if_neg hc] at hE; exact hE) H locs ls hR hS hL) (fun hc => k1 hc out (by rw [if_pos hc] at hE; exact hE) H locs ls hR hS hL)
theorem g_if_lt {x : Int32} {off : Int} {tgt : Nat} (hX : CF X Ω own cc nL ret rm) (hd : Dc cc pc (.ifCond .lt off) 3 pc') (ht : (pc : Int) + off = (tgt : Int)) (k1 : x < 0 → GE X Ω nL mc ms em u v tgt L st σ E1) (k2 : ¬ x < 0 → GE X Ω nL mc ms em u v pc' L st σ E2) : GE X Ω nL mc ms em u v pc L (.int x :: st) σ (if x < 0 then E1 else E2) := by
  obtain ⟨p, l, e, R, s, m, args, below, meth, c⟩ := X
  obtain ⟨hx, hb, hml, hr, hown, hts, -⟩ := hX
  obtain ⟨hd, rfl⟩ := hd
  intro out hE H locs ls hR hS hL
  exact lv_if_lt hx hb hd ht (fun hc => k1 hc out (by rw [if_pos hc] at hE; exact hE) H locs ls hR hS hL) (fun hc => k2 hc out (by rw [if_neg hc] at hE; exact hE) H locs ls hR hS hL)
theorem g_if_ge {x : Int32} {off : Int} {tgt : Nat} (hX : CF X Ω own cc nL ret rm) (hd : Dc cc pc (.ifCond .ge off) 3 pc') (ht : (pc : Int) + off = (tgt : Int)) (k1 : 0 ≤ x → GE X Ω nL mc ms em u v tgt L st σ E1) (k2 : ¬ 0 ≤ x → GE X Ω nL mc ms em u v pc' L st σ E2) : GE X Ω nL mc ms em u v pc L (.int x :: st) σ (if 0 ≤ x then E1 else E2) := by
  obtain ⟨p, l, e, R, s, m, args, below, meth, c⟩ := X
  obtain ⟨hx, hb, hml, hr, hown, hts, -⟩ := hX
  obtain ⟨hd, rfl⟩ := hd
  intro out hE H locs ls hR hS hL
  exact lv_if_ge hx hb hd ht (fun hc => k1 hc out (by rw [if_pos hc] at hE; exact hE) H locs ls hR hS hL) (fun hc => k2 hc out (by rw [if_neg hc] at hE; exact hE) H locs ls hR hS hL)
theorem g_if_gt {x : Int32} {off : Int} {tgt : Nat} (hX : CF X Ω own cc nL ret rm) (hd : Dc cc pc (.ifCond .gt off) 3 pc') (ht : (pc : Int) + off = (tgt : Int)) (k1 : 0 < x → GE X Ω nL mc ms em u v tgt L st σ E1) (k2 : ¬ 0 < x → GE X Ω nL mc ms em u v pc' L st σ E2) : GE X Ω nL mc ms em u v pc L (.int x :: st) σ (if 0 < x then E1 else E2) := by
  obtain ⟨p, l, e, R, s, m, args, below, meth, c⟩ := X
  obtain ⟨hx, hb, hml, hr, hown, hts, -⟩ := hX
  obtain ⟨hd, rfl⟩ := hd
  intro out hE H locs ls hR hS hL
  exact lv_if_gt hx hb hd ht (fun hc => k1 hc out (by rw [if_pos hc] at hE; exact hE) H locs ls hR hS hL) (fun hc => k2 hc out (by rw [if_neg hc] at hE; exact hE) H locs ls hR hS hL)
theorem g_if_le {x : Int32} {off : Int} {tgt : Nat} (hX : CF X Ω own cc nL ret rm) (hd : Dc cc pc (.ifCond .le off) 3 pc') (ht : (pc : Int) + off = (tgt : Int)) (k1 : x ≤ 0 → GE X Ω nL mc ms em u v tgt L st σ E1) (k2 : ¬ x ≤ 0 → GE X Ω nL mc ms em u v pc' L st σ E2) : GE X Ω nL mc ms em u v pc L (.int x :: st) σ (if x ≤ 0 then E1 else E2) := by
  obtain ⟨p, l, e, R, s, m, args, below, meth, c⟩ := X
  obtain ⟨hx, hb, hml, hr, hown, hts, -⟩ := hX
  obtain ⟨hd, rfl⟩ := hd
  intro out hE H locs ls hR hS hL
  exact lv_if_le hx hb hd ht (fun hc => k1 hc out (by rw [if_pos hc] at hE; exact hE) H locs ls hR hS hL) (fun hc => k2 hc out (by rw [if_neg hc] at hE; exact hE) H locs ls hR hS hL)
theorem g_icmp_eq {x y : Int32} {off : Int} {tgt : Nat} (hX : CF X Ω own cc nL ret rm) (hd : Dc cc pc (.if_icmp .eq off) 3 pc') (ht : (pc : Int) + off = (tgt : Int)) (k1 : x = y → GE X Ω nL mc ms em u v tgt L st σ E1) (k2 : ¬ x = y → GE X Ω nL mc ms em u v pc' L st σ E2) : GE X Ω nL mc ms em u v pc L (.int y :: .int x :: st) σ (if x = y then E1 else E2) := by
  obtain ⟨p, l, e, R, s, m, args, below, meth, c⟩ := X
  obtain ⟨hx, hb, hml, hr, hown, hts, -⟩ := hX
  obtain ⟨hd, rfl⟩ := hd
  intro out hE H locs ls hR hS hL
  exact lv_icmp_eq hx hb hd ht (fun hc => k1 hc out (by rw [if_pos hc] at hE; exact hE) H locs ls hR hS hL) (fun hc => k2 hc out (by rw [if_neg hc] at hE; exact hE) H locs ls hR hS hL)
theorem g_icmp_ne {x y : Int32} {off : Int} {tgt : Nat} (hX : CF X Ω own cc nL ret rm) (hd : Dc cc pc (.if_icmp .ne off) 3 pc') (ht : (pc : Int) + off = (tgt : Int)) (k1 : x = y → GE X Ω nL mc ms em u v pc' L st σ E1) (k2 : ¬ x = y → GE X Ω nL mc ms em u v tgt L st σ E2) : GE X Ω nL mc ms em u v pc L (.int y :: .int x :: st) σ (if x = y then E1 else E2) := by
  obtain ⟨p, l, e, R, s, m, args, below, meth, c⟩ := X
  obtain ⟨hx, hb, hml, hr, hown, hts, -⟩ := hX
  obtain ⟨hd, rfl⟩ := hd
  intro out hE H locs ls hR hS hL
  exact lv_icmp_ne hx hb hd ht (fun hc => k2 hc out (by rw [if_neg hc] at hE; exact hE) H locs ls hR hS hL) (fun hc => k1 hc out (by rw [if_pos hc] at hE; exact hE) H locs ls hR hS hL)
theorem g_icmp_lt {x y : Int32} {off : Int} {tgt : Nat} (hX : CF X Ω own cc nL ret rm) (hd : Dc cc pc (.if_icmp .lt off) 3 pc') (ht : (pc : Int) + off = (tgt : Int)) (k1 : x < y → GE X Ω nL mc ms em u v tgt L st σ E1) (k2 : ¬ x < y → GE X Ω nL mc ms em u v pc' L st σ E2) : GE X Ω nL mc ms em u v pc L (.int y :: .int x :: st) σ (if x < y then E1 else E2) := by
  obtain ⟨p, l, e, R, s, m, args, below, meth, c⟩ := X
  obtain ⟨hx, hb, hml, hr, hown, hts, -⟩ := hX
  obtain ⟨hd, rfl⟩ := hd
  intro out hE H locs ls hR hS hL
  exact lv_icmp_lt hx hb hd ht (fun hc => k1 hc out (by rw [if_pos hc] at hE; exact hE) H locs ls hR hS hL) (fun hc => k2 hc out (by rw [if_neg hc] at hE; exact hE) H locs ls hR hS hL)
theorem g_icmp_ge {x y : Int32} {off : Int} {tgt : Nat} (hX : CF X Ω own cc nL ret rm) (hd : Dc cc pc (.if_icmp .ge off) 3 pc') (ht : (pc : Int) + off = (tgt : Int)) (k1 : y ≤ x → GE X Ω nL mc ms em u v tgt L st σ E1) (k2 : ¬ y ≤ x → GE X Ω nL mc ms em u v pc' L st σ E2) : GE X Ω nL mc ms em u v pc L (.int y :: .int x :: st) σ (if y ≤ x then E1 else E2) := by
  obtain ⟨p, l, e, R, s, m, args, below, meth, c⟩ := X
  obtain ⟨hx, hb, hml, hr, hown, hts, -⟩ := hX
  obtain ⟨hd, rfl⟩ := hd
  intro out hE H locs ls hR hS hL
  exact lv_icmp_ge hx hb hd ht (fun hc => k1 hc out (by rw [if_pos hc] at hE; exact hE) H locs ls hR hS hL) (fun hc => k2 hc out (by rw [if_neg hc] at hE; exact hE) H locs ls hR hS hL)
theorem g_icmp_gt {x y : Int32} {off : Int} {tgt : Nat} (hX : CF X Ω own cc nL ret rm) (hd : Dc cc pc (.if_icmp .gt off) 3 pc') (ht : (pc : Int) + off = (tgt : Int)) (k1 : y < x → GE X Ω nL mc ms em u v tgt L st σ E1) (k2 : ¬ y < x → GE X Ω nL mc ms em u v pc' L st σ E2) : GE X Ω nL mc ms em u v pc L (.int y :: .int x :: st) σ (if y < x then E1 else E2) := by
  obtain ⟨p, l, e, R, s, m, args, below, meth, c⟩ := X
  obtain ⟨hx, hb, hml, hr, hown, hts, -⟩ := hX
  obtain ⟨hd, rfl⟩ := hd
  intro out hE H locs ls hR hS hL
  exact lv_icmp_gt hx hb hd ht (fun hc => k1 hc out (by rw [if_pos hc] at hE; exact hE) H locs ls hR hS hL) (fun hc => k2 hc out (by rw [if_neg hc] at hE; exact hE) H locs ls hR hS hL)
theorem g_icmp_le {x y : Int32} {off : Int} {tgt : Nat} (hX : CF X Ω own cc nL ret rm) (hd : Dc cc pc (.if_icmp .le off) 3 pc') (ht : (pc : Int) + off = (tgt : Int)) (k1 : x ≤ y → GE X Ω nL mc ms em u v tgt L st σ E1) (k2 : ¬ x ≤ y → GE X Ω nL mc ms em u v pc' L st σ E2) : GE X Ω nL mc ms em u v pc L (.int y :: .int x :: st) σ (if x ≤ y then E1 else E2) := by
  obtain ⟨p, l, e, R, s, m, args, below, meth, c⟩ := X
  obtain ⟨hx, hb, hml, hr, hown, hts, -⟩ := hX
  obtain ⟨hd, rfl⟩ := hd
  intro out hE H locs ls hR hS hL
  exact lv_icmp_le hx hb hd ht (fun hc => k1 hc out (by rw [if_pos hc] at hE; exact hE) H locs ls hR hS hL) (fun hc => k2 hc out (by rw [if_neg hc] at hE; exact hE) H locs ls hR hS hL)
theorem g_goto {off : Int} {tgt : Nat} (hX : CF X Ω own cc nL ret rm) (hd : Dc cc pc (.goto off) 3 pc') (ht : (pc : Int) + off = (tgt : Int)) (k : GE X Ω nL mc ms em u v tgt L st σ E) : GE X Ω nL mc ms em u v pc L st σ E := by
  obtain ⟨p, l, e, R, s, m, args, below, meth, c⟩ := X
  obtain ⟨hx, hb, hml, hr, hown, hts, -⟩ := hX
  obtain ⟨hd, rfl⟩ := hd
  refine g_pure ?_ k
  intro H locs ls Q hk
  exact lv_goto hx hb hd ht hk
theorem g_ifnull_N {off : Int} {tgt : Nat} (hX : CF X Ω own cc nL ret rm) (hd : Dc cc pc (.ifnull off) 3 pc') (ht : (pc : Int) + off = (tgt : Int)) (k : GE X Ω nL mc ms em u v tgt L st σ E) : GE X Ω nL mc ms em u v pc L (.null :: st) σ E := by
  obtain ⟨p, l, e, R, s, m, args, below, meth, c⟩ := X
  obtain ⟨hx, hb, hml, hr, hown, hts, -⟩ := hX
  obtain ⟨hd, rfl⟩ := hd
  refine g_pure ?_ k
  intro H locs ls Q hk
  exact lv_ifnullN hx hb hd ht hk
theorem g_ifnull_R {off : Int} {a : Nat} {tgt : Nat} (hX : CF X Ω own cc nL ret rm) (hd : Dc cc pc (.ifnull off) 3 pc')  (k : GE X Ω nL mc ms em u v pc' L st σ E) : GE X Ω nL mc ms em u v pc L (.ref a :: st) σ E := by
  obtain ⟨p, l, e, R, s, m, args, below, meth, c⟩ := X
  obtain ⟨hx, hb, hml, hr, hown, hts, -⟩ := hX
  obtain ⟨hd, rfl⟩ := hd
  refine g_pure ?_ k
  intro H locs ls Q hk
  exact lv_ifnull hx hb hd hk
theorem g_ifnonnull_N {off : Int} {tgt : Nat} (hX : CF X Ω own cc nL ret rm) (hd : Dc cc pc (.ifnonnull off) 3 pc')  (k : GE X Ω nL mc ms em u v pc' L st σ E) : GE X Ω nL mc ms em u v pc L (.null :: st) σ E := by
  obtain ⟨p, l, e, R, s, m, args, below, meth, c⟩ := X
  obtain ⟨hx, hb, hml, hr, hown, hts, -⟩ := hX
  obtain ⟨hd, rfl⟩ := hd
  refine g_pure ?_ k
  intro H locs ls Q hk
  exact lv_ifnonnullN hx hb hd hk
theorem g_ifnonnull_R {off : Int} {a : Nat} {tgt : Nat} (hX : CF X Ω own cc nL ret rm) (hd : Dc cc pc (.ifnonnull off) 3 pc') (ht : (pc : Int) + off = (tgt : Int)) (k : GE X Ω nL mc ms em u v tgt L st σ E) : GE X Ω nL mc ms em u v pc L (.ref a :: st) σ E := by
  obtain ⟨p, l, e, R, s, m, args, below, meth, c⟩ := X
  obtain ⟨hx, hb, hml, hr, hown, hts, -⟩ := hX
  obtain ⟨hd, rfl⟩ := hd
  refine g_pure ?_ k
  intro H locs ls Q hk
  exact lv_ifnonnull hx hb hd ht hk
theorem g_tsIn {dflt lo hi : Int} {offs : Array Int} {len : Nat} {x : Int32} {off : Int} {tgt : Nat} (hX : CF X Ω own cc nL ret rm) (hd : Dc cc pc (.tableswitch dflt lo hi offs) len pc') (h1 : ¬ x.toInt < lo) (h2 : ¬ hi < x.toInt) (ho : offs[(x.toInt - lo).toNat]? = some off) (ht : (pc : Int) + off = (tgt : Int)) (k : GE X Ω nL mc ms em u v tgt L st σ E) : GE X Ω nL mc ms em u v pc L (.int x :: st) σ E := by
  obtain ⟨p, l, e, R, s, m, args, below, meth, c⟩ := X
  obtain ⟨hx, hb, hml, hr, hown, hts, -⟩ := hX
  obtain ⟨hd, rfl⟩ := hd
  refine g_pure ?_ k
  intro H locs ls Q hk
  exact lv_tableIn hx hb hd h1 h2 ho ht hk
theorem g_tsOut {dflt lo hi : Int} {offs : Array Int} {len : Nat} {x : Int32} {tgt : Nat} (hX : CF X Ω own cc nL ret rm) (hd : Dc cc pc (.tableswitch dflt lo hi offs) len pc') (h1 : x.toInt < lo ∨ hi < x.toInt) (ht : (pc : Int) + dflt = (tgt : Int)) (k : GE X Ω nL mc ms em u v tgt L st σ E) : GE X Ω nL mc ms em u v pc L (.int x :: st) σ E := by
  obtain ⟨p, l, e, R, s, m, args, below, meth, c⟩ := X
  obtain ⟨hx, hb, hml, hr, hown, hts, -⟩ := hX
  obtain ⟨hd, rfl⟩ := hd
  refine g_pure ?_ k
  intro H locs ls Q hk
  exact lv_tableOut hx hb hd h1 ht hk
theorem g_lks {dflt : Int} {ps : Array (Int × Int)} {len : Nat} {x : Int32} {off : Int} {tgt : Nat} (hX : CF X Ω own cc nL ret rm) (hd : Dc cc pc (.lookupswitch dflt ps) len pc') (hp : (ps.toList.zip (ps.toList.drop 1)).all (fun (a, next) => a.1 < next.1) = true) (ho : Op.lookupswitch.offset ps.toList dflt x.toInt = off) (ht : (pc : Int) + off = (tgt : Int)) (k : GE X Ω nL mc ms em u v tgt L st σ E) : GE X Ω nL mc ms em u v pc L (.int x :: st) σ E := by
  obtain ⟨p, l, e, R, s, m, args, below, meth, c⟩ := X
  obtain ⟨hx, hb, hml, hr, hown, hts, -⟩ := hX
  obtain ⟨hd, rfl⟩ := hd
  refine g_pure ?_ k
  intro H locs ls Q hk
  exact lv_lookup hx hb hd hp ho ht hk
theorem g_iret {x : Int32} {b : β} {ty : FieldType} (hX : CF X Ω own cc nL (some ty) rm) (hd : Dc cc pc .ireturn 1 pc') (hn : narrow ty (.int x) = .int x) (he : em b = (some (.int x), σ)) (h1 : u ≤ mc) (h2 : v ≤ ms) : GE X Ω nL mc ms em u v pc L [.int x] σ (some b) := by
  obtain ⟨p, l, e, R, s, m, args, below, meth, c⟩ := X
  obtain ⟨hx, hb, hml, hr, hown, hts, hlk, -⟩ := hX
  intro out hE H locs ls hR hS hL
  cases hE
  rw [he]
  refine W.widen h1 h2 ?_
  exact W.zret hx hb hr hn (fun t ht hW => ⟨rfl, by rw [ht]; exact hR, hS.F ht⟩) hS.2.2 hd.1 hlk
theorem g_lret {x : Int64} {b : β} (hX : CF X Ω own cc nL (some .long) rm) (hd : Dc cc pc .lreturn 1 pc') (he : em b = (some (.long x), σ)) (h1 : u ≤ mc) (h2 : v ≤ ms) : GE X Ω nL mc ms em u v pc L [.long x] σ (some b) := by
  obtain ⟨p, l, e, R, s, m, args, below, meth, c⟩ := X
  obtain ⟨hx, hb, hml, hr, hown, hts, hlk, -⟩ := hX
  intro out hE H locs ls hR hS hL
  cases hE
  rw [he]
  refine W.widen h1 h2 ?_
  exact W.lret hx hb hr (fun t ht hW => ⟨rfl, by rw [ht]; exact hR, hS.F ht⟩) hS.2.2 hd.1 hlk
theorem g_vret {b : β} (hX : CF X Ω own cc nL none rm) (hd : Dc cc pc .return_ 1 pc') (he : em b = (none, σ)) (h1 : u ≤ mc) (h2 : v ≤ ms) : GE X Ω nL mc ms em u v pc L [] σ (some b) := by
  obtain ⟨p, l, e, R, s, m, args, below, meth, c⟩ := X
  obtain ⟨hx, hb, hml, hr, hown, hts, hlk, -⟩ := hX
  intro out hE H locs ls hR hS hL
  cases hE
  rw [he]
  refine W.widen h1 h2 ?_
  exact W.vret hx hb hr (fun t ht hW => ⟨rfl, by rw [ht]; exact hR, hS.F ht⟩) hS.2.2 hd.1 hlk
theorem g_aret {r : Option Nat} {b : β} {rt : FieldType} (hX : CF X Ω own cc nL (some rt) rm) (hd : Dc cc pc .areturn 1 pc') (hrt : (∃ n, rt = .object n) ∨ ∃ t, rt = .array t) (he : em b = (some (va_rf r), σ)) (h1 : u ≤ mc) (h2 : v ≤ ms) : GE X Ω nL mc ms em u v pc L [va_rf r] σ (some b) := by
  obtain ⟨p, l, e, R, s, m, args, below, meth, c⟩ := X
  obtain ⟨hx, hb, hml, hr, hown, hts, hlk, -⟩ := hX
  intro out hE H locs ls hR hS hL
  cases hE
  rw [he]
  refine W.widen h1 h2 ?_
  exact W.aret hx hb hr hrt (by cases r with | none => exact Or.inl rfl | some a => exact Or.inr ⟨_, rfl⟩) (fun t ht hW => ⟨rfl, by rw [ht]; exact hR, hS.F ht⟩) hS.2.2 hd.1 hlk
end GP
