/-! ===== a run of straight code: what it asks ===== -/
def zlit (n : Int) : Int32 := match n with
  | .ofNat m => nI m
  | .negSucc m => -(nI (m + 1))
def zlitL (n : Nat) : Int64 := lN n
theorem zlit_eq (n : Int) : zlit n = Int32.ofInt n := by
  match n with
  | .ofNat m => rfl
  | .negSucc m =>
    show -(Int32.ofNat (m + 1)) = Int32.ofInt (Int.negSucc m)
    apply Int32.toInt_inj.mp
    rw [Int32.toInt_neg, Int32.toInt_ofNat', Int32.toInt_ofInt]
    have : (Int.negSucc m) = -((m + 1 : Nat) : Int) := rfl
    rw [this, Int.bmod_neg_bmod]
theorem zlit_b {n : Int} (h1 : -128 ≤ n) (h2 : n < 128) : (Int8.ofInt n).toInt32 = zlit n := by
  rw [zlit_eq]
  apply Int32.toInt_inj.mp
  rw [Int8.toInt_toInt32, Int8.toInt_ofInt, Int32.toInt_ofInt, show Int8.size = 256 from rfl, show Int32.size = 4294967296 from rfl]
  rw [Int.bmod_eq_of_le (by omega) (by omega), Int.bmod_eq_of_le (by omega) (by omega)]
theorem zlit_s {n : Int} (h1 : -32768 ≤ n) (h2 : n < 32768) : (Int16.ofInt n).toInt32 = zlit n := by
  rw [zlit_eq]
  apply Int32.toInt_inj.mp
  rw [Int16.toInt_toInt32, Int16.toInt_ofInt, Int32.toInt_ofInt, show Int16.size = 65536 from rfl, show Int32.size = 4294967296 from rfl]
  rw [Int.bmod_eq_of_le (by omega) (by omega), Int.bmod_eq_of_le (by omega) (by omega)]
def zck (b : Bool) (p : Prop) : Prop := match b with
  | true => p
  | false => False
theorem zck_t {b : Bool} {p : Prop} (h : zck b p) : b = true ∧ p := by
  cases b with
  | true => exact ⟨rfl, h⟩
  | false => exact h.elim
abbrev ZK : Type := Nat → List (Option MV) → List MV → MH → Prop
def zA1 (st : List MV) (f : Int32 → List MV → Prop) : Prop := match st with
  | .inl x :: r => f x r
  | _ => False
def zA2 (st : List MV) (f : Int32 → Int32 → List MV → Prop) : Prop := match st with
  | .inl y :: .inl x :: r => f x y r
  | _ => False
def zB1 (st : List MV) (f : Int64 → List MV → Prop) : Prop := match st with
  | .inr (.inl x) :: r => f x r
  | _ => False
def zB2 (st : List MV) (f : Int64 → Int64 → List MV → Prop) : Prop := match st with
  | .inr (.inl y) :: .inr (.inl x) :: r => f x y r
  | _ => False
def zB3 (st : List MV) (f : Int64 → Int32 → List MV → Prop) : Prop := match st with
  | .inl y :: .inr (.inl x) :: r => f x y r
  | _ => False
def zR1 (st : List MV) (f : Nat → List MV → Prop) : Prop := match st with
  | .inr (.inr a) :: r => f a r
  | _ => False
def zR2 (st : List MV) (f : Nat → Int32 → List MV → Prop) : Prop := match st with
  | .inl i :: .inr (.inr a) :: r => f a i r
  | _ => False
def zR3 (st : List MV) (f : Nat → Int32 → Int32 → List MV → Prop) : Prop := match st with
  | .inl x :: .inl i :: .inr (.inr a) :: r => f a i x r
  | _ => False
def zR4 (st : List MV) (f : Nat → Int32 → Int64 → List MV → Prop) : Prop := match st with
  | .inr (.inl x) :: .inl i :: .inr (.inr a) :: r => f a i x r
  | _ => False
def zV1 (st : List MV) (f : MV → List MV → Prop) : Prop := match st with
  | v :: r => f v r
  | _ => False
def zV2 (st : List MV) (f : MV → MV → List MV → Prop) : Prop := match st with
  | v :: w :: r => f v w r
  | _ => False
def zLi (ls : List (Option MV)) (i : Nat) (f : Int32 → Prop) : Prop := match ls.getD i none with
  | some (.inl x) => f x
  | _ => False
def zLl (ls : List (Option MV)) (i : Nat) (f : Int64 → Prop) : Prop := match ls.getD i none with
  | some (.inr (.inl x)) => f x
  | _ => False
def zLr (ls : List (Option MV)) (i : Nat) (f : Nat → Prop) : Prop := match ls.getD i none with
  | some (.inr (.inr x)) => f x
  | _ => False
def zPf (M : MM) (h : MH) (a c kf : Nat) (v : MV) (f : MH → Prop) : Prop := match zput h a kf (zty c kf) v, (zT c kf).2.2.2, zty c kf with
  | some h', false, .boolean => (zokO h a c ∧ (v = .inl 0 ∨ v = .inl 1)) ∧ f h'
  | some h', false, _ => zokO h a c ∧ f h'
  | some h', true, .boolean => ((zokO h a c ∧ (v = .inl 0 ∨ v = .inl 1)) ∧ (M.1.name = "<init>" ∧ (zT c kf).1 = M.1.cls)) ∧ f h'
  | some h', true, _ => (zokO h a c ∧ (M.1.name = "<init>" ∧ (zT c kf).1 = M.1.cls)) ∧ f h'
  | none, _, _ => False
theorem zgD {ls : List (Option MV)} {i : Nat} {v : MV} (h : ls.getD i none = some v) : ls[i]? = some (some v) := by
  rw [List.getD_eq_getElem?_getD] at h
  cases hz : ls[i]? with
  | none => rw [hz] at h; cases h
  | some w => rw [hz] at h; exact congrArg some h
def zst (M : MM) (o pc : Nat) (ins : Instr) (ls : List (Option MV)) (st : List MV) (h : MH) (k : ZK) : Prop := match ins with
  | .iconst n => k (pc + 1) ls (.inl (zlit n) :: st) h
  | .bipush n => zck (decide (-128 ≤ n) && decide (n < 128)) (k (pc + 2) ls (.inl (zlit n) :: st) h)
  | .sipush n => zck (decide (-32768 ≤ n) && decide (n < 32768)) (k (pc + 3) ls (.inl (zlit n) :: st) h)
  | .lconst n => k (pc + 1) ls (.inr (.inl (lN (n : Nat))) :: st) h
  | .iadd => zA2 st fun x y r => k (pc + 1) ls (.inl (x + y) :: r) h
  | .isub => zA2 st fun x y r => k (pc + 1) ls (.inl (x - y) :: r) h
  | .imul => zA2 st fun x y r => k (pc + 1) ls (.inl (x * y) :: r) h
  | .iand => zA2 st fun x y r => k (pc + 1) ls (.inl (x &&& y) :: r) h
  | .ior => zA2 st fun x y r => k (pc + 1) ls (.inl (x ||| y) :: r) h
  | .ixor => zA2 st fun x y r => k (pc + 1) ls (.inl (x ^^^ y) :: r) h
  | .ishl => zA2 st fun x y r => k (pc + 1) ls (.inl (x <<< (y &&& 31)) :: r) h
  | .ishr => zA2 st fun x y r => k (pc + 1) ls (.inl (x >>> (y &&& 31)) :: r) h
  | .idiv => zA2 st fun x y r => (¬ y = 0) ∧ k (pc + 1) ls (.inl (x / y) :: r) h
  | .irem => zA2 st fun x y r => (¬ y = 0) ∧ k (pc + 1) ls (.inl (x - x / y * y) :: r) h
  | .ineg => zA1 st fun x r => k (pc + 1) ls (.inl (-x) :: r) h
  | .iushr => zA2 st fun x y r => k (pc + 1) ls (.inl (x.toUInt32 >>> (y.toUInt32 &&& Int32.toUInt32 31)).toInt32 :: r) h
  | .ladd => zB2 st fun x y r => k (pc + 1) ls (.inr (.inl (x + y)) :: r) h
  | .lsub => zB2 st fun x y r => k (pc + 1) ls (.inr (.inl (x - y)) :: r) h
  | .lmul => zB2 st fun x y r => k (pc + 1) ls (.inr (.inl (x * y)) :: r) h
  | .land => zB2 st fun x y r => k (pc + 1) ls (.inr (.inl (x &&& y)) :: r) h
  | .lor => zB2 st fun x y r => k (pc + 1) ls (.inr (.inl (x ||| y)) :: r) h
  | .ldiv => zB2 st fun x y r => (¬ y = 0) ∧ k (pc + 1) ls (.inr (.inl (x / y)) :: r) h
  | .lushr => zB3 st fun x y r => k (pc + 1) ls (.inr (.inl (x.toUInt64 >>> (y.toInt64.toUInt64 &&& Int64.toUInt64 63)).toInt64) :: r) h
  | .lshl => zB3 st fun x y r => k (pc + 1) ls (.inr (.inl (x <<< (y.toInt64 &&& 63))) :: r) h
  | .lcmp => zB2 st fun x y r => k (pc + 1) ls (.inl (lg_cmp x y) :: r) h
  | .i2l => zA1 st fun x r => k (pc + 1) ls (.inr (.inl x.toInt64) :: r) h
  | .l2i => zB1 st fun x r => k (pc + 1) ls (.inl x.toInt32 :: r) h
  | .i2b => zA1 st fun x r => k (pc + 1) ls (.inl x.toInt8.toInt32 :: r) h
  | .i2s => zA1 st fun x r => k (pc + 1) ls (.inl x.toInt16.toInt32 :: r) h
  | .dup => zV1 st fun v r => zck (zc1 v) (k (pc + 1) ls (v :: v :: r) h)
  | .pop => zV1 st fun v r => zck (zc1 v) (k (pc + 1) ls r h)
  | .dup2 => zV2 st fun v w r => zck (zc1 v && zc1 w) (k (pc + 1) ls (v :: w :: v :: w :: r) h)
  | .iload_n n => zLi ls (n : Nat) fun x => k (pc + 1) ls (.inl x :: st) h
  | .iload n => zLi ls n fun x => k (pc + 2) ls (.inl x :: st) h
  | .lload_n n => zLl ls (n : Nat) fun x => k (pc + 1) ls (.inr (.inl x) :: st) h
  | .lload n => zLl ls n fun x => k (pc + 2) ls (.inr (.inl x) :: st) h
  | .aload_n n => zLr ls (n : Nat) fun x => k (pc + 1) ls (.inr (.inr x) :: st) h
  | .aload n => zLr ls n fun x => k (pc + 2) ls (.inr (.inr x) :: st) h
  | .istore_n n => zA1 st fun x r => zck (decide ((n : Nat) < M.2.2.1)) (k (pc + 1) (zs1 ls (n : Nat) (.inl x)) r h)
  | .istore n => zA1 st fun x r => zck (decide (n < M.2.2.1)) (k (pc + 2) (zs1 ls n (.inl x)) r h)
  | .astore_n n => zR1 st fun x r => zck (decide ((n : Nat) < M.2.2.1)) (k (pc + 1) (zs1 ls (n : Nat) (.inr (.inr x))) r h)
  | .astore n => zR1 st fun x r => zck (decide (n < M.2.2.1)) (k (pc + 2) (zs1 ls n (.inr (.inr x))) r h)
  | .lstore_n n => zB1 st fun x r => zck (decide ((n : Nat) + 1 < M.2.2.1)) (k (pc + 1) (zs2 ls (n : Nat) x) r h)
  | .lstore n => zB1 st fun x r => zck (decide (n + 1 < M.2.2.1)) (k (pc + 2) (zs2 ls n x) r h)
  | .iinc i n => zLi ls i fun x => zck (decide (i < M.2.2.1)) (k (pc + 3) (zs1 ls i (.inl (x + zlit n))) st h)
  | .ifCond .eq off => zA1 st fun x r => zck (decide (0 ≤ (pc : Int) + off)) ((x = 0 → k ((pc : Int) + off).toNat ls r h) ∧ (¬ x = 0 → k (pc + 3) ls r h))
  | .if_icmp .eq off => zA2 st fun x y r => zck (decide (0 ≤ (pc : Int) + off)) ((x = y → k ((pc : Int) + off).toNat ls r h) ∧ (¬ x = y → k (pc + 3) ls r h))
  | .ifCond .ne off => zA1 st fun x r => zck (decide (0 ≤ (pc : Int) + off)) ((¬ x = 0 → k ((pc : Int) + off).toNat ls r h) ∧ (x = 0 → k (pc + 3) ls r h))
  | .if_icmp .ne off => zA2 st fun x y r => zck (decide (0 ≤ (pc : Int) + off)) ((¬ x = y → k ((pc : Int) + off).toNat ls r h) ∧ (x = y → k (pc + 3) ls r h))
  | .ifCond .lt off => zA1 st fun x r => zck (decide (0 ≤ (pc : Int) + off)) ((x < 0 → k ((pc : Int) + off).toNat ls r h) ∧ (¬ x < 0 → k (pc + 3) ls r h))
  | .if_icmp .lt off => zA2 st fun x y r => zck (decide (0 ≤ (pc : Int) + off)) ((x < y → k ((pc : Int) + off).toNat ls r h) ∧ (¬ x < y → k (pc + 3) ls r h))
  | .ifCond .ge off => zA1 st fun x r => zck (decide (0 ≤ (pc : Int) + off)) ((0 ≤ x → k ((pc : Int) + off).toNat ls r h) ∧ (¬ 0 ≤ x → k (pc + 3) ls r h))
  | .if_icmp .ge off => zA2 st fun x y r => zck (decide (0 ≤ (pc : Int) + off)) ((y ≤ x → k ((pc : Int) + off).toNat ls r h) ∧ (¬ y ≤ x → k (pc + 3) ls r h))
  | .ifCond .gt off => zA1 st fun x r => zck (decide (0 ≤ (pc : Int) + off)) ((0 < x → k ((pc : Int) + off).toNat ls r h) ∧ (¬ 0 < x → k (pc + 3) ls r h))
  | .if_icmp .gt off => zA2 st fun x y r => zck (decide (0 ≤ (pc : Int) + off)) ((y < x → k ((pc : Int) + off).toNat ls r h) ∧ (¬ y < x → k (pc + 3) ls r h))
  | .ifCond .le off => zA1 st fun x r => zck (decide (0 ≤ (pc : Int) + off)) ((x ≤ 0 → k ((pc : Int) + off).toNat ls r h) ∧ (¬ x ≤ 0 → k (pc + 3) ls r h))
  | .if_icmp .le off => zA2 st fun x y r => zck (decide (0 ≤ (pc : Int) + off)) ((x ≤ y → k ((pc : Int) + off).toNat ls r h) ∧ (¬ x ≤ y → k (pc + 3) ls r h))
  | .ifnonnull off => zR1 st fun x r => zck (decide (0 ≤ (pc : Int) + off)) ((¬ x = 0 → k ((pc : Int) + off).toNat ls r h) ∧ (x = 0 → k (pc + 3) ls r h))
  | .goto off => zck (decide (0 ≤ (pc : Int) + off)) (k ((pc : Int) + off).toNat ls st h)
  | .getfield i => (match zfl o i with
    | some (_, _, c, kf, _) => zR1 st fun a r => zokO h a c ∧ k (pc + 3) ls (zfld h a kf (zty c kf) :: r) h
    | none => False)
  | .putfield i => (match zfl o i with
    | some (_, _, c, kf, _) => zV1 st fun v r2 => zR1 r2 fun a r => zPf M h a c kf v fun h' => k (pc + 3) ls r h'
    | none => False)
  | .iaload => zR2 st fun a i r => zokA h a 20 i ∧ k (pc + 1) ls (.inl (h.1 a i.toNatClampNeg) :: r) h
  | .baload => zR2 st fun a i r => zokA h a 22 i ∧ k (pc + 1) ls (.inl (h.1 a i.toNatClampNeg) :: r) h
  | .laload => zR2 st fun a i r => zokA h a 21 i ∧ k (pc + 1) ls (.inr (.inl (h.2.1 a i.toNatClampNeg)) :: r) h
  | .aaload => zR2 st fun a i r => zokR h a i ∧ k (pc + 1) ls (.inr (.inr (h.2.2.1 a i.toNatClampNeg)) :: r) h
  | .iastore => zR3 st fun a i x r => zokA h a 20 i ∧ k (pc + 1) ls r (zsI h a i.toNatClampNeg x)
  | .bastore => zR3 st fun a i x r => (zokA h a 22 i ∧ (x = 0 ∨ x = 1)) ∧ k (pc + 1) ls r (zsI h a i.toNatClampNeg x)
  | .lastore => zR4 st fun a i x r => zokA h a 21 i ∧ k (pc + 1) ls r (zsL h a i.toNatClampNeg x)
  | .arraylength => zR1 st fun a r => (0 < a ∧ a ≤ h.2.2.2 ∧ (zk a).1 = 20) ∧ k (pc + 1) ls (.inl (nI (zk a).2) :: r) h
  | .ldc i => (match zld o i with
    | some (_, _, v, _) => k (pc + 2) ls (.inl v :: st) h
    | none => False)
  | .ldc_w i => (match zld o i with
    | some (_, _, v, _) => k (pc + 3) ls (.inl v :: st) h
    | none => False)
  | .ldc2_w i => (match zl2 o i with
    | some (_, _, v, _) => k (pc + 3) ls (.inr (.inl v) :: st) h
    | none => False)
  | _ => False
def zln (ins : Instr) : Nat := match ins with
  | .bipush _ | .iload _ | .lload _ | .aload _ | .istore _ | .lstore _ | .astore _ | .ldc _ => 2
  | .sipush _ | .iinc _ _ | .ifCond _ _ | .if_icmp _ _ | .ifnonnull _ | .goto _ | .getfield _ | .putfield _ | .ldc_w _ | .ldc2_w _ | .invokevirtual _ | .invokestatic _ | .invokespecial _ => 3
  | _ => 1
section ZST
variable {M : MM} {d mc ms : Nat} {Q : Option MV → MH → Prop} {cells slots pc : Nat} {ls : List (Option MV)} {st : List MV} {h : MH}
set_option maxHeartbeats 4000000 in
theorem zst_ok {o : Nat} {ins : Instr} {k : ZK} (ho : zcn o = M.1.cls) (hd : decode M.2.1 pc = .ok (ins, zln ins)) (hK : ∀ pc' ls' st' h', k pc' ls' st' h' → J M d mc ms Q cells slots pc' ls' st' h') (hk : zst M o pc ins ls st h k) : J M d mc ms Q cells slots pc ls st h := by
  unfold zst at hk
  split at hk
  · rw [zlit_eq] at hk; exact s_iconst hd (hK _ _ _ _ hk)
  · obtain ⟨q1, hk⟩ := zck_t hk; simp only [Bool.and_eq_true, decide_eq_true_eq] at q1; rw [← zlit_b q1.1 q1.2] at hk; exact s_bipush hd (hK _ _ _ _ hk)
  · obtain ⟨q1, hk⟩ := zck_t hk; simp only [Bool.and_eq_true, decide_eq_true_eq] at q1; rw [← zlit_s q1.1 q1.2] at hk; exact s_sipush hd (hK _ _ _ _ hk)
  · exact s_lconst hd (hK _ _ _ _ hk)
  · unfold zA2 at hk
    split at hk <;> first | exact hk.elim | exact s_iadd hd (hK _ _ _ _ hk)
  · unfold zA2 at hk
    split at hk <;> first | exact hk.elim | exact s_isub hd (hK _ _ _ _ hk)
  · unfold zA2 at hk
    split at hk <;> first | exact hk.elim | exact s_imul hd (hK _ _ _ _ hk)
  · unfold zA2 at hk
    split at hk <;> first | exact hk.elim | exact s_iand hd (hK _ _ _ _ hk)
  · unfold zA2 at hk
    split at hk <;> first | exact hk.elim | exact s_ior hd (hK _ _ _ _ hk)
  · unfold zA2 at hk
    split at hk <;> first | exact hk.elim | exact s_ixor hd (hK _ _ _ _ hk)
  · unfold zA2 at hk
    split at hk <;> first | exact hk.elim | exact s_ishl hd (hK _ _ _ _ hk)
  · unfold zA2 at hk
    split at hk <;> first | exact hk.elim | exact s_ishr hd (hK _ _ _ _ hk)
  · unfold zA2 at hk
    split at hk <;> first | exact hk.elim | exact s_idiv hd hk.1 (hK _ _ _ _ hk.2)
  · unfold zA2 at hk
    split at hk <;> first | exact hk.elim | exact s_irem hd hk.1 (hK _ _ _ _ hk.2)
  · unfold zA1 at hk
    split at hk <;> first | exact hk.elim | exact s_ineg hd (hK _ _ _ _ hk)
  · unfold zA2 at hk
    split at hk <;> first | exact hk.elim | exact s_iushr hd (hK _ _ _ _ hk)
  · unfold zB2 at hk
    split at hk <;> first | exact hk.elim | exact s_ladd hd (hK _ _ _ _ hk)
  · unfold zB2 at hk
    split at hk <;> first | exact hk.elim | exact s_lsub hd (hK _ _ _ _ hk)
  · unfold zB2 at hk
    split at hk <;> first | exact hk.elim | exact s_lmul hd (hK _ _ _ _ hk)
  · unfold zB2 at hk
    split at hk <;> first | exact hk.elim | exact s_land hd (hK _ _ _ _ hk)
  · unfold zB2 at hk
    split at hk <;> first | exact hk.elim | exact s_lor hd (hK _ _ _ _ hk)
  · unfold zB2 at hk
    split at hk <;> first | exact hk.elim | exact s_ldiv hd hk.1 (hK _ _ _ _ hk.2)
  · unfold zB3 at hk
    split at hk <;> first | exact hk.elim | exact s_lushr hd (hK _ _ _ _ hk)
  · unfold zB3 at hk
    split at hk <;> first | exact hk.elim | exact s_lshl hd (hK _ _ _ _ hk)
  · unfold zB2 at hk
    split at hk <;> first | exact hk.elim | exact s_lcmp hd (hK _ _ _ _ hk)
  · unfold zA1 at hk
    split at hk <;> first | exact hk.elim | exact s_i2l hd (hK _ _ _ _ hk)
  · unfold zB1 at hk
    split at hk <;> first | exact hk.elim | exact s_l2i hd (hK _ _ _ _ hk)
  · unfold zA1 at hk
    split at hk <;> first | exact hk.elim | exact s_i2b hd (hK _ _ _ _ hk)
  · unfold zA1 at hk
    split at hk <;> first | exact hk.elim | exact s_i2s hd (hK _ _ _ _ hk)
  · unfold zV1 at hk
    split at hk <;> first | exact hk.elim | (obtain ⟨q1, hk⟩ := zck_t hk; exact s_dup hd q1 (hK _ _ _ _ hk))
  · unfold zV1 at hk
    split at hk <;> first | exact hk.elim | (obtain ⟨q1, hk⟩ := zck_t hk; exact s_pop hd q1 (hK _ _ _ _ hk))
  · unfold zV2 at hk
    split at hk <;> first | exact hk.elim | (obtain ⟨q1, hk⟩ := zck_t hk; simp only [Bool.and_eq_true] at q1; exact s_dup2 hd q1.1 q1.2 (hK _ _ _ _ hk))
  · unfold zLi at hk
    split at hk <;> first | exact hk.elim | (rename_i q1; exact s_iload_n hd (zgD q1) (hK _ _ _ _ hk))
  · unfold zLi at hk
    split at hk <;> first | exact hk.elim | (rename_i q1; exact s_iload hd (zgD q1) (hK _ _ _ _ hk))
  · unfold zLl at hk
    split at hk <;> first | exact hk.elim | (rename_i q1; exact s_lload_n hd (zgD q1) (hK _ _ _ _ hk))
  · unfold zLl at hk
    split at hk <;> first | exact hk.elim | (rename_i q1; exact s_lload hd (zgD q1) (hK _ _ _ _ hk))
  · unfold zLr at hk
    split at hk <;> first | exact hk.elim | (rename_i q1; exact s_aload_n hd (zgD q1) (hK _ _ _ _ hk))
  · unfold zLr at hk
    split at hk <;> first | exact hk.elim | (rename_i q1; exact s_aload hd (zgD q1) (hK _ _ _ _ hk))
  · unfold zA1 at hk
    split at hk <;> first | exact hk.elim | (obtain ⟨q1, hk⟩ := zck_t hk; exact s_istore_n hd (of_decide_eq_true q1) (hK _ _ _ _ hk))
  · unfold zA1 at hk
    split at hk <;> first | exact hk.elim | (obtain ⟨q1, hk⟩ := zck_t hk; exact s_istore hd (of_decide_eq_true q1) (hK _ _ _ _ hk))
  · unfold zR1 at hk
    split at hk <;> first | exact hk.elim | (obtain ⟨q1, hk⟩ := zck_t hk; exact s_astore_n hd (of_decide_eq_true q1) (hK _ _ _ _ hk))
  · unfold zR1 at hk
    split at hk <;> first | exact hk.elim | (obtain ⟨q1, hk⟩ := zck_t hk; exact s_astore hd (of_decide_eq_true q1) (hK _ _ _ _ hk))
  · unfold zB1 at hk
    split at hk <;> first | exact hk.elim | (obtain ⟨q1, hk⟩ := zck_t hk; exact s_lstore_n hd (of_decide_eq_true q1) (hK _ _ _ _ hk))
  · unfold zB1 at hk
    split at hk <;> first | exact hk.elim | (obtain ⟨q1, hk⟩ := zck_t hk; exact s_lstore hd (of_decide_eq_true q1) (hK _ _ _ _ hk))
  · unfold zLi at hk
    split at hk <;> first | exact hk.elim | (rename_i q0; obtain ⟨q1, hk⟩ := zck_t hk; rw [zlit_eq] at hk; exact s_iinc hd (zgD q0) (of_decide_eq_true q1) (hK _ _ _ _ hk))
  · unfold zA1 at hk
    split at hk <;> first | exact hk.elim | (obtain ⟨q1, hk⟩ := zck_t hk; exact s_if_eq hd (of_decide_eq_true q1) (fun q => hK _ _ _ _ (hk.1 q)) (fun q => hK _ _ _ _ (hk.2 q)))
  · unfold zA2 at hk
    split at hk <;> first | exact hk.elim | (obtain ⟨q1, hk⟩ := zck_t hk; exact s_icmp_eq hd (of_decide_eq_true q1) (fun q => hK _ _ _ _ (hk.1 q)) (fun q => hK _ _ _ _ (hk.2 q)))
  · unfold zA1 at hk
    split at hk <;> first | exact hk.elim | (obtain ⟨q1, hk⟩ := zck_t hk; exact s_if_ne hd (of_decide_eq_true q1) (fun q => hK _ _ _ _ (hk.1 q)) (fun q => hK _ _ _ _ (hk.2 q)))
  · unfold zA2 at hk
    split at hk <;> first | exact hk.elim | (obtain ⟨q1, hk⟩ := zck_t hk; exact s_icmp_ne hd (of_decide_eq_true q1) (fun q => hK _ _ _ _ (hk.1 q)) (fun q => hK _ _ _ _ (hk.2 q)))
  · unfold zA1 at hk
    split at hk <;> first | exact hk.elim | (obtain ⟨q1, hk⟩ := zck_t hk; exact s_if_lt hd (of_decide_eq_true q1) (fun q => hK _ _ _ _ (hk.1 q)) (fun q => hK _ _ _ _ (hk.2 q)))
  · unfold zA2 at hk
    split at hk <;> first | exact hk.elim | (obtain ⟨q1, hk⟩ := zck_t hk; exact s_icmp_lt hd (of_decide_eq_true q1) (fun q => hK _ _ _ _ (hk.1 q)) (fun q => hK _ _ _ _ (hk.2 q)))
  · unfold zA1 at hk
    split at hk <;> first | exact hk.elim | (obtain ⟨q1, hk⟩ := zck_t hk; exact s_if_ge hd (of_decide_eq_true q1) (fun q => hK _ _ _ _ (hk.1 q)) (fun q => hK _ _ _ _ (hk.2 q)))
  · unfold zA2 at hk
    split at hk <;> first | exact hk.elim | (obtain ⟨q1, hk⟩ := zck_t hk; exact s_icmp_ge hd (of_decide_eq_true q1) (fun q => hK _ _ _ _ (hk.1 q)) (fun q => hK _ _ _ _ (hk.2 q)))
  · unfold zA1 at hk
    split at hk <;> first | exact hk.elim | (obtain ⟨q1, hk⟩ := zck_t hk; exact s_if_gt hd (of_decide_eq_true q1) (fun q => hK _ _ _ _ (hk.1 q)) (fun q => hK _ _ _ _ (hk.2 q)))
  · unfold zA2 at hk
    split at hk <;> first | exact hk.elim | (obtain ⟨q1, hk⟩ := zck_t hk; exact s_icmp_gt hd (of_decide_eq_true q1) (fun q => hK _ _ _ _ (hk.1 q)) (fun q => hK _ _ _ _ (hk.2 q)))
  · unfold zA1 at hk
    split at hk <;> first | exact hk.elim | (obtain ⟨q1, hk⟩ := zck_t hk; exact s_if_le hd (of_decide_eq_true q1) (fun q => hK _ _ _ _ (hk.1 q)) (fun q => hK _ _ _ _ (hk.2 q)))
  · unfold zA2 at hk
    split at hk <;> first | exact hk.elim | (obtain ⟨q1, hk⟩ := zck_t hk; exact s_icmp_le hd (of_decide_eq_true q1) (fun q => hK _ _ _ _ (hk.1 q)) (fun q => hK _ _ _ _ (hk.2 q)))
  · unfold zR1 at hk
    split at hk <;> first | exact hk.elim | (obtain ⟨q1, hk⟩ := zck_t hk; exact s_ifnonnull hd (of_decide_eq_true q1) (fun q => hK _ _ _ _ (hk.1 q)) (fun q => hK _ _ _ _ (hk.2 q)))
  · obtain ⟨q1, hk⟩ := zck_t hk; exact s_goto hd (of_decide_eq_true q1) (hK _ _ _ _ hk)
  · split at hk
    · rename_i q0
      unfold zR1 at hk
      split at hk <;> first | exact hk.elim | exact s_getf hd ho q0 hk.1 (hK _ _ _ _ hk.2)
    · exact hk.elim
  · split at hk
    · rename_i q0
      unfold zV1 at hk
      split at hk
      · unfold zR1 at hk
        split at hk
        · unfold zPf at hk
          split at hk
          · rename_i q1 q2 q3
            exact s_putf hd ho q0 q1 (Or.inl q2) hk.1.1 (fun _ => hk.1.2) (hK _ _ _ _ hk.2)
          · rename_i q1 q2 q3 q4
            exact s_putf hd ho q0 q2 (Or.inl q3) hk.1 (fun q => absurd q q4) (hK _ _ _ _ hk.2)
          · rename_i q1 q2 q3
            exact s_putf hd ho q0 q1 (Or.inr hk.1.2) hk.1.1.1 (fun _ => hk.1.1.2) (hK _ _ _ _ hk.2)
          · rename_i q1 q2 q3 q4
            exact s_putf hd ho q0 q2 (Or.inr hk.1.2) hk.1.1 (fun q => absurd q q4) (hK _ _ _ _ hk.2)
          · exact hk.elim
        · exact hk.elim
      · exact hk.elim
    · exact hk.elim
  · unfold zR2 at hk
    split at hk <;> first | exact hk.elim | exact s_iaload hd hk.1 (hK _ _ _ _ hk.2)
  · unfold zR2 at hk
    split at hk <;> first | exact hk.elim | exact s_baload hd hk.1 (hK _ _ _ _ hk.2)
  · unfold zR2 at hk
    split at hk <;> first | exact hk.elim | exact s_laload hd hk.1 (hK _ _ _ _ hk.2)
  · unfold zR2 at hk
    split at hk <;> first | exact hk.elim | exact s_aaload hd hk.1 (hK _ _ _ _ hk.2)
  · unfold zR3 at hk
    split at hk <;> first | exact hk.elim | exact s_iastore hd hk.1 (hK _ _ _ _ hk.2)
  · unfold zR3 at hk
    split at hk <;> first | exact hk.elim | exact s_bastore hd hk.1.1 hk.1.2 (hK _ _ _ _ hk.2)
  · unfold zR4 at hk
    split at hk <;> first | exact hk.elim | exact s_lastore hd hk.1 (hK _ _ _ _ hk.2)
  · unfold zR1 at hk
    split at hk <;> first | exact hk.elim | exact s_alen hd hk.1.1 hk.1.2.1 hk.1.2.2 (hK _ _ _ _ hk.2)
  · split at hk
    · rename_i q0
      exact s_ldc hd ho q0 (hK _ _ _ _ hk)
    · exact hk.elim
  · split at hk
    · rename_i q0
      exact s_ldcw hd ho q0 (hK _ _ _ _ hk)
    · exact hk.elim
  · split at hk
    · rename_i q0
      exact s_ldc2 hd ho q0 (hK _ _ _ _ hk)
    · exact hk.elim
  · exact hk.elim
def zbl (M : MM) (o : Nat) : List (Nat × Instr) → Nat → List (Option MV) → List MV → MH → ZK → Prop
  | [], pc, ls, st, h, k => k pc ls st h
  | (q, ins) :: L, pc, ls, st, h, k => zck (Nat.beq q pc) (zst M o pc ins ls st h (fun pc' ls' st' h' => zbl M o L pc' ls' st' h' k))
def zdc (cc : ByteArray) (L : List (Nat × Instr)) : Bool := L.all (fun q => match decode cc q.1 with
  | .ok (i, n) => decide (i = q.2) && Nat.beq n (zln q.2)
  | .error _ => false)
theorem zdc_at {cc : ByteArray} {L : List (Nat × Instr)} (h : zdc cc L = true) {q : Nat × Instr} (hq : q ∈ L) : decode cc q.1 = .ok (q.2, zln q.2) := by
  have h1 := List.all_eq_true.mp h q hq
  split at h1
  · rename_i i n hd
    simp only [Bool.and_eq_true, decide_eq_true_eq] at h1
    rw [hd, h1.1, Nat.eq_of_beq_eq_true h1.2]
  · cases h1
theorem zbl_ok {o : Nat} {k : ZK} (ho : zcn o = M.1.cls) (hK : ∀ pc' ls' st' h', k pc' ls' st' h' → J M d mc ms Q cells slots pc' ls' st' h') : ∀ (L : List (Nat × Instr)), (∀ q ∈ L, decode M.2.1 q.1 = .ok (q.2, zln q.2)) → ∀ (pc : Nat) (ls : List (Option MV)) (st : List MV) (h : MH), zbl M o L pc ls st h k → J M d mc ms Q cells slots pc ls st h
  | [], _, pc, ls, st, h, hb => hK pc ls st h hb
  | (q, ins) :: L, hL, pc, ls, st, h, hb => by
    obtain ⟨q1, hb⟩ := zck_t hb
    have e := Nat.eq_of_beq_eq_true q1
    subst e
    exact zst_ok ho (hL (q, ins) List.mem_cons_self) (fun pc' ls' st' h' hz => zbl_ok ho hK L (fun x hx => hL x (List.mem_cons_of_mem _ hx)) pc' ls' st' h' hz) hb
/-- a stretch of a method's code, n instructions from the i-th on -/
theorem zrun {o : Nat} {C : List (Nat × Instr)} (i n : Nat) (hC : zdc M.2.1 C = true) (ho : zcn o = M.1.cls) (hb : zbl M o ((C.drop i).take n) pc ls st h (J M d mc ms Q cells slots)) : J M d mc ms Q cells slots pc ls st h :=
  zbl_ok ho (fun _ _ _ _ z => z) _ (fun q hq => zdc_at hC (List.mem_of_mem_drop (List.mem_of_mem_take hq))) pc ls st h hb
end ZST
