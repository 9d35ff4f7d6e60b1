/-! THE LIGHT MACHINE: a weakest precondition over the class' and the reference's own code, with all that is made already made: cells are (tag, place), ints by (tag, place, slot) -/
abbrev si_AV : Type := Int32 ⊕ (Int64 ⊕ (Nat × Nat))
abbrev si_Lv : Type := List (Option si_AV)
abbrev si_Mm : Type := (Nat → Nat → Nat → Int32) × Int64
abbrev si_Sc : Type := Nat × (Nat → Int32)
abbrev si_Po : Type := Option si_AV → si_Mm → Prop
def si_nth : si_Lv → Nat → Option si_AV
  | [], _ => none
  | a :: _, 0 => a
  | _ :: r, n + 1 => si_nth r n
def si_put : si_Lv → Nat → Option si_AV → si_Lv
  | [], _, _ => []
  | _ :: r, 0, v => v :: r
  | a :: r, n + 1, v => a :: si_put r n v
def si_c2 : si_AV → Bool
  | .inl _ => false
  | .inr (.inl _) => true
  | .inr (.inr _) => false
def si_clr (lv : si_Lv) (i : Nat) : si_Lv := match i with
  | 0 => lv
  | k + 1 => match si_nth lv k with
    | some (.inr (.inl _)) => si_put lv k none
    | _ => lv
def si_sto (J : Bool) (lv : si_Lv) (i : Nat) (v : si_AV) : si_Lv := bif J then si_put (si_clr lv i) i (some v) else si_put lv i (some v)
def si_ms (μ : si_Mm) (t i j : Nat) (v : Int32) : si_Mm := (fun t' i' j' => if t' = t ∧ i' = i ∧ j' = j then v else μ.1 t' i' j', μ.2)
def si_mc (μ : si_Mm) (t0 i0 sp t i dp n : Nat) : si_Mm := (fun t' i' j' => if t' = t ∧ i' = i then va_cpy (μ.1 t0 i0) (μ.1 t i) sp dp n j' else μ.1 t' i' j', μ.2)
def si_pI (st : List si_AV) (k : Int32 → List si_AV → Prop) : Prop := match st with
  | .inl x :: r => k x r
  | _ => False
def si_pL (st : List si_AV) (k : Int64 → List si_AV → Prop) : Prop := match st with
  | .inr (.inl x) :: r => k x r
  | _ => False
def si_pR (st : List si_AV) (k : Nat → Nat → List si_AV → Prop) : Prop := match st with
  | .inr (.inr (t, i)) :: r => k t i r
  | _ => False
def si_p1 (st : List si_AV) (k : si_AV → List si_AV → Prop) : Prop := match st with
  | .inl x :: r => k (.inl x) r
  | .inr (.inr q) :: r => k (.inr (.inr q)) r
  | _ => False
def si_lI (lv : si_Lv) (i : Nat) (k : Int32 → Prop) : Prop := match si_nth lv i with
  | some (.inl x) => k x
  | _ => False
def si_lL (lv : si_Lv) (i : Nat) (k : Int64 → Prop) : Prop := match si_nth lv i with
  | some (.inr (.inl x)) => k x
  | _ => False
def si_lR (lv : si_Lv) (i : Nat) (k : Nat → Nat → Prop) : Prop := match si_nth lv i with
  | some (.inr (.inr (t, i))) => k t i
  | _ => False
def si_take : Nat → List si_AV → List si_AV → (List si_AV → List si_AV → Prop) → Prop
  | 0, st, acc, k => k acc st
  | n + 1, v :: st, acc, k => si_take n st (v :: acc) k
  | _ + 1, [], _, _ => False
def si_w8 : List si_AV → Nat
  | [] => 0
  | v :: r => (bif si_c2 v then 2 else 1) + si_w8 r
def si_rt (r : Option si_AV) (st : List si_AV) : List si_AV := match r with
  | none => st
  | some v => v :: st
def si_sw (x : Int32) (K : Nat → Prop) (dflt : Nat) : List (Int32 × Nat) → Prop
  | [] => K dflt
  | (v, t) :: r => (x = v → K t) ∧ (¬ x = v → si_sw x K dflt r)
def si_gf (f : Nat × Nat × Nat) (i : Nat) (x : Int32) (y : Int64) : Option si_AV :=
  bif Nat.beq f.1 0 then some (.inl x) else bif Nat.beq f.1 4 then some (.inl x) else bif Nat.beq f.1 1 then some (.inr (.inl y)) else bif Nat.beq f.1 2 then some (.inr (.inr (f.2.1, f.2.2))) else bif Nat.beq f.1 3 then some (.inr (.inr (f.2.1, i))) else none
def si_under (k : Nat) : Int32 := bif Nat.beq k 0 then (-1) else bif Nat.beq k 3 then 1 else bif Nat.beq k 4 then 2 else 0
def si_enL : List si_AV → si_Lv
  | [] => []
  | v :: r => bif si_c2 v then some v :: none :: si_enL r else some v :: si_enL r
def si_pad (n : Nat) (lv : si_Lv) : si_Lv := lv ++ List.replicate (n - lv.length) none
def si_if (cnd : ClassFile.Cond) (x y : Int32) (kt kf : Prop) : Prop := match cnd with
  | .eq => (x = y → kt) ∧ (¬ x = y → kf)
  | .ne => (¬ x = y → kt) ∧ (x = y → kf)
  | .lt => (x < y → kt) ∧ (¬ x < y → kf)
  | .ge => (y ≤ x → kt) ∧ (¬ y ≤ x → kf)
  | .gt => (y < x → kt) ∧ (¬ y < x → kf)
  | .le => (x ≤ y → kt) ∧ (¬ x ≤ y → kf)
def si_ex (sc : si_Sc) (K : Nat → si_Lv → List si_AV → si_Mm → Prop) (C : Nat → List si_AV → si_Mm → si_Po → Prop) (Q : si_Po) (rt nL : Nat) (J : Bool) (pc : Nat) (e : si_Ent) (lv : si_Lv) (st : List si_AV) (μ : si_Mm) : Prop :=
  match e with
  | (ins, _, v, a, b, tg) => match ins with
    | .iconst _ => K (pc + 1) lv (.inl v :: st) μ
    | .bipush _ => K (pc + 2) lv (.inl v :: st) μ
    | .sipush _ => K (pc + 3) lv (.inl v :: st) μ
    | .lconst n => K (pc + 1) lv (.inr (.inl (Int64.ofNat (n : Nat))) :: st) μ
    | .ldc _ => bif Nat.beq a 0 then K (pc + 2) lv (.inl v :: st) μ else (b < 12 ∧ K (pc + 2) lv (.inr (.inr (90, b)) :: st) μ)
    | .ldc_w _ => K (pc + 3) lv (.inl v :: st) μ
    | .ldc2_w _ => K (pc + 3) lv (.inr (.inl (si_c64 a)) :: st) μ
    | .iload i => si_lI lv i fun x => K (pc + 2) lv (.inl x :: st) μ
    | .iload_n i => si_lI lv (i : Nat) fun x => K (pc + 1) lv (.inl x :: st) μ
    | .aload i => si_lR lv i fun t q => K (pc + 2) lv (.inr (.inr (t, q)) :: st) μ
    | .aload_n i => si_lR lv (i : Nat) fun t q => K (pc + 1) lv (.inr (.inr (t, q)) :: st) μ
    | .lload i => si_lL lv i fun x => K (pc + 2) lv (.inr (.inl x) :: st) μ
    | .lload_n i => si_lL lv (i : Nat) fun x => K (pc + 1) lv (.inr (.inl x) :: st) μ
    | .istore i => si_pI st fun x r => bif Nat.blt i nL then K (pc + 2) (si_sto J lv i (.inl x)) r μ else False
    | .istore_n i => si_pI st fun x r => bif Nat.blt (i : Nat) nL then K (pc + 1) (si_sto J lv (i : Nat) (.inl x)) r μ else False
    | .lstore i => si_pL st fun x r => bif J && Nat.blt (i + 1) nL then K (pc + 2) (si_put (si_put (si_clr lv i) i (some (.inr (.inl x)))) (i + 1) none) r μ else False
    | .iinc i _ => si_lI lv i fun x => bif Nat.blt i nL then K (pc + 3) (si_sto J lv i (.inl (x + v))) st μ else False
    | .iadd => si_pI st fun y r => si_pI r fun x r => K (pc + 1) lv (.inl (x + y) :: r) μ
    | .isub => si_pI st fun y r => si_pI r fun x r => K (pc + 1) lv (.inl (x - y) :: r) μ
    | .imul => si_pI st fun y r => si_pI r fun x r => K (pc + 1) lv (.inl (x * y) :: r) μ
    | .idiv => si_pI st fun y r => si_pI r fun x r => ¬ y = 0 ∧ K (pc + 1) lv (.inl (x / y) :: r) μ
    | .irem => si_pI st fun y r => si_pI r fun x r => ¬ y = 0 ∧ K (pc + 1) lv (.inl (x - x / y * y) :: r) μ
    | .ineg => si_pI st fun x r => K (pc + 1) lv (.inl (-x) :: r) μ
    | .iand => si_pI st fun y r => si_pI r fun x r => K (pc + 1) lv (.inl (x &&& y) :: r) μ
    | .ior => si_pI st fun y r => si_pI r fun x r => K (pc + 1) lv (.inl (x ||| y) :: r) μ
    | .ishl => si_pI st fun y r => si_pI r fun x r => K (pc + 1) lv (.inl (x <<< (y &&& 31)) :: r) μ
    | .ishr => si_pI st fun y r => si_pI r fun x r => K (pc + 1) lv (.inl (x >>> (y &&& 31)) :: r) μ
    | .iushr => si_pI st fun y r => si_pI r fun x r => K (pc + 1) lv (.inl ((x.toUInt32 >>> (y.toUInt32 &&& Int32.toUInt32 31)).toInt32) :: r) μ
    | .ladd => si_pL st fun y r => si_pL r fun x r => K (pc + 1) lv (.inr (.inl (x + y)) :: r) μ
    | .lsub => si_pL st fun y r => si_pL r fun x r => K (pc + 1) lv (.inr (.inl (x - y)) :: r) μ
    | .lmul => si_pL st fun y r => si_pL r fun x r => K (pc + 1) lv (.inr (.inl (x * y)) :: r) μ
    | .ldiv => si_pL st fun y r => si_pL r fun x r => ¬ y = 0 ∧ K (pc + 1) lv (.inr (.inl (x / y)) :: r) μ
    | .lrem => si_pL st fun y r => si_pL r fun x r => ¬ y = 0 ∧ K (pc + 1) lv (.inr (.inl (x - x / y * y)) :: r) μ
    | .lcmp => si_pL st fun y r => si_pL r fun x r => K (pc + 1) lv (.inl (lg_cmp x y) :: r) μ
    | .i2l => si_pI st fun x r => K (pc + 1) lv (.inr (.inl x.toInt64) :: r) μ
    | .l2i => si_pL st fun x r => K (pc + 1) lv (.inl x.toInt32 :: r) μ
    | .i2b => si_pI st fun x r => K (pc + 1) lv (.inl x.toInt8.toInt32 :: r) μ
    | .i2s => si_pI st fun x r => K (pc + 1) lv (.inl x.toInt16.toInt32 :: r) μ
    | .dup => si_p1 st fun w r => K (pc + 1) lv (w :: w :: r) μ
    | .pop => si_p1 st fun _ r => K (pc + 1) lv r μ
    | .goto _ => K a lv st μ
    | .ifCond cnd _ => si_pI st fun x r => si_if cnd x 0 (K a lv r μ) (K (pc + 3) lv r μ)
    | .if_icmp cnd _ => si_pI st fun y r => si_pI r fun x r => si_if cnd x y (K a lv r μ) (K (pc + 3) lv r μ)
    | .tableswitch _ _ _ _ => si_pI st fun x r => si_sw x (fun t => K t lv r μ) a tg
    | .lookupswitch _ _ => si_pI st fun x r => si_sw x (fun t => K t lv r μ) a tg
    | .getfield _ => si_pR st fun t i r => bif Nat.beq t a then (match si_gf (si_fld a b) i (μ.1 a i b) μ.2 with
        | some w => K (pc + 3) lv (w :: r) μ
        | none => False) else False
    | .putfield _ => (match st with
        | .inl x :: r => si_pR r fun t i r => bif Nat.beq t a then (bif Nat.beq (si_fld a b).1 0 then K (pc + 3) lv r (si_ms μ a i b x) else bif Nat.beq (si_fld a b).1 4 then ((x = 0 ∨ x = 1) ∧ K (pc + 3) lv r (si_ms μ a i b x)) else False) else False
        | .inr (.inl y) :: r => si_pR r fun t _ r => bif Nat.beq t a && Nat.beq (si_fld a b).1 1 then K (pc + 3) lv r (μ.1, y) else False
        | _ => False)
    | .getstatic _ => bif Nat.beq a 91 then K (pc + 3) lv (.inr (.inr (91, 0)) :: st) μ else False
    | .iaload => si_pI st fun x r => si_pR r fun t i r => bif Nat.beq t 91 then (vp_in x 6 ∧ K (pc + 1) lv (.inl (si_under x.toNatClampNeg) :: r) μ) else bif Nat.beq t 92 then (vp_in x sc.1 ∧ K (pc + 1) lv (.inl (sc.2 x.toNatClampNeg) :: r) μ) else bif Nat.beq (si_arr t).1 0 then (vp_in x (si_arr t).2 ∧ K (pc + 1) lv (.inl (μ.1 t i x.toNatClampNeg) :: r) μ) else False
    | .baload => si_pI st fun x r => si_pR r fun t i r => bif Nat.beq (si_arr t).1 1 then (vp_in x (si_arr t).2 ∧ K (pc + 1) lv (.inl (μ.1 t i x.toNatClampNeg) :: r) μ) else False
    | .iastore => si_pI st fun v r => si_pI r fun x r => si_pR r fun t i r => bif Nat.beq (si_arr t).1 0 then (vp_in x (si_arr t).2 ∧ K (pc + 1) lv r (si_ms μ t i x.toNatClampNeg v)) else False
    | .bastore => si_pI st fun v r => si_pI r fun x r => si_pR r fun t i r => bif Nat.beq (si_arr t).1 1 then ((v = 0 ∨ v = 1) ∧ vp_in x (si_arr t).2 ∧ K (pc + 1) lv r (si_ms μ t i x.toNatClampNeg v)) else False
    | .arraylength => si_pR st fun t _ r => bif Nat.beq t 92 then K (pc + 1) lv (.inl (Int32.ofNat sc.1) :: r) μ else bif Nat.ble (si_arr t).1 1 then K (pc + 1) lv (.inl (Int32.ofNat (si_arr t).2) :: r) μ else False
    | .invokevirtual _ => bif Nat.beq a 0 then (si_take (si_mN b) st [] fun as r => si_pR r fun t i r => bif Nat.beq t (si_mO b) && (Nat.ble (si_w8 r) 8 && (Nat.ble (1 + si_w8 as) (si_mL b) && (si_mJ b || as.all (fun v => !si_c2 v)))) then C b (.inr (.inr (t, i)) :: as) μ (fun rv μ' => K (pc + 3) lv (si_rt rv r) μ') else False)
        else bif Nat.beq a 5 then (si_pR st fun t i r => bif Nat.beq t 90 && Nat.ble (si_w8 r) 8 then K (pc + 3) lv (.inl (nI (si_sl.getD i 0)) :: r) μ else False)
        else bif Nat.beq a 6 then (si_pI st fun x r => si_pR r fun t i r => bif Nat.beq t 90 && Nat.ble (si_w8 r) 8 then (vp_in x (si_sl.getD i 0) ∧ K (pc + 3) lv (.inl ((si_sb.getD i []).getD x.toNatClampNeg 0) :: r) μ) else False)
        else False
    | .invokestatic _ => bif Nat.beq a 1 then (si_take (si_mN b) st [] fun as r => bif Nat.ble (si_w8 r) 8 && (Nat.ble (si_w8 as) (si_mL b) && (si_mJ b || as.all (fun v => !si_c2 v))) then C b as μ (fun rv μ' => K (pc + 3) lv (si_rt rv r) μ') else False)
        else bif Nat.beq a 2 then (si_pI st fun y r => si_pI r fun x r => bif Nat.ble (si_w8 r) 8 then K (pc + 3) lv (.inl (if x < y then y else x) :: r) μ else False)
        else bif Nat.beq a 3 then (si_pI st fun y r => si_pI r fun x r => bif Nat.ble (si_w8 r) 8 then K (pc + 3) lv (.inl (if y < x then y else x) :: r) μ else False)
        else bif Nat.beq a 4 then (si_pI st fun n r => si_pI r fun dp r => si_pR r fun t i r => si_pI r fun sp r => si_pR r fun t0 i0 r => bif Nat.beq (si_arr t).1 0 && (Nat.beq (si_arr t0).1 0 && Nat.ble (si_w8 r) 8) then ((¬ sp < 0 ∧ ¬ dp < 0 ∧ ¬ n < 0 ∧ sp.toNatClampNeg + n.toNatClampNeg ≤ (si_arr t0).2 ∧ dp.toNatClampNeg + n.toNatClampNeg ≤ (si_arr t).2) ∧ K (pc + 3) lv r (si_mc μ t0 i0 sp.toNatClampNeg t i dp.toNatClampNeg n.toNatClampNeg)) else False)
        else False
    | .ireturn => (match st with
        | [.inl x] => bif Nat.beq rt 1 then Q (some (.inl x)) μ else bif Nat.beq rt 2 then ((x = 0 ∨ x = 1) ∧ Q (some (.inl x)) μ) else False
        | _ => False)
    | .lreturn => (match st with
        | [.inr (.inl x)] => bif Nat.beq rt 3 then Q (some (.inr (.inl x))) μ else False
        | _ => False)
    | .return_ => (match st with
        | [] => bif Nat.beq rt 0 then Q none μ else False
        | _ => False)
    | _ => False
theorem sm_pI {st : List si_AV} {k k' : Int32 → List si_AV → Prop} (h : ∀ x r, k x r → k' x r) : si_pI st k → si_pI st k' := by
  unfold si_pI; split <;> first | exact h _ _ | exact id
theorem sm_pL {st : List si_AV} {k k' : Int64 → List si_AV → Prop} (h : ∀ x r, k x r → k' x r) : si_pL st k → si_pL st k' := by
  unfold si_pL; split <;> first | exact h _ _ | exact id
theorem sm_pR {st : List si_AV} {k k' : Nat → Nat → List si_AV → Prop} (h : ∀ t i r, k t i r → k' t i r) : si_pR st k → si_pR st k' := by
  unfold si_pR; split <;> first | exact h _ _ _ | exact id
theorem sm_p1 {st : List si_AV} {k k' : si_AV → List si_AV → Prop} (h : ∀ x r, k x r → k' x r) : si_p1 st k → si_p1 st k' := by
  unfold si_p1; split <;> first | exact h _ _ | exact id
theorem sm_lI {lv : si_Lv} {i : Nat} {k k' : Int32 → Prop} (h : ∀ x, k x → k' x) : si_lI lv i k → si_lI lv i k' := by
  unfold si_lI; split <;> first | exact h _ | exact id
theorem sm_lL {lv : si_Lv} {i : Nat} {k k' : Int64 → Prop} (h : ∀ x, k x → k' x) : si_lL lv i k → si_lL lv i k' := by
  unfold si_lL; split <;> first | exact h _ | exact id
theorem sm_lR {lv : si_Lv} {i : Nat} {k k' : Nat → Nat → Prop} (h : ∀ x y, k x y → k' x y) : si_lR lv i k → si_lR lv i k' := by
  unfold si_lR; split <;> first | exact h _ _ | exact id
theorem sm_take {k k' : List si_AV → List si_AV → Prop} (h : ∀ a r, k a r → k' a r) : ∀ (n : Nat) (st acc : List si_AV), si_take n st acc k → si_take n st acc k'
  | 0, _, _ => h _ _
  | n + 1, _ :: _, _ => sm_take h n _ _
  | _ + 1, [], _ => id
theorem sm_sw {x : Int32} {K K' : Nat → Prop} {dflt : Nat} (h : ∀ t, K t → K' t) : ∀ tg : List (Int32 × Nat), si_sw x K dflt tg → si_sw x K' dflt tg
  | [] => h _
  | (_, _) :: r => fun q => ⟨fun e => h _ (q.1 e), fun e => sm_sw h r (q.2 e)⟩
theorem sm_if {cnd : ClassFile.Cond} {x y : Int32} {a b a' b' : Prop} (h : a → a') (g : b → b') : si_if cnd x y a b → si_if cnd x y a' b' := by
  cases cnd <;> exact fun q => ⟨fun e => h (q.1 e), fun e => g (q.2 e)⟩
theorem sm_bif {c : Bool} {a b a' b' : Prop} (h : a → a') (g : b → b') : (bif c then a else b) → (bif c then a' else b') := by
  cases c
  · exact g
  · exact h
theorem sm_and {c a a' : Prop} (h : a → a') : c ∧ a → c ∧ a' := fun q => ⟨q.1, h q.2⟩
theorem sm_opt {o : Option si_AV} {k k' : si_AV → Prop} (h : ∀ w, k w → k' w) : (match o with | some w => k w | none => False) → (match o with | some w => k' w | none => False) := by
  cases o
  · exact id
  · exact h _
section SM
variable {sc : si_Sc} {K K' : Nat → si_Lv → List si_AV → si_Mm → Prop} {C C' : Nat → List si_AV → si_Mm → si_Po → Prop} {Q Q' : si_Po} {rt nL : Nat} {J : Bool} {pc : Nat} {e : si_Ent} {lv : si_Lv} {st : List si_AV} {μ : si_Mm}
set_option maxHeartbeats 4000000 in
theorem si_ex_mono (hK : ∀ pc lv st μ, K pc lv st μ → K' pc lv st μ) (hC : ∀ j as μ Q1 Q2, (∀ r μ, Q1 r μ → Q2 r μ) → C j as μ Q1 → C' j as μ Q2) (hQ : ∀ r μ, Q r μ → Q' r μ) : si_ex sc K C Q rt nL J pc e lv st μ → si_ex sc K' C' Q' rt nL J pc e lv st μ := by
  obtain ⟨ins, len, v, a, b, tg⟩ := e
  unfold si_ex
  dsimp only
  split
  all_goals first
    | exact id
    | exact hK _ _ _ _
    | (repeat' first
        | exact hK _ _ _ _
        | exact hQ _ _
        | exact fun h => h
        | exact hC _ _ _ _ _ (fun _ _ => hK _ _ _ _)
        | refine sm_pI (fun _ _ => ?_)
        | refine sm_pL (fun _ _ => ?_)
        | refine sm_pR (fun _ _ _ => ?_)
        | refine sm_p1 (fun _ _ => ?_)
        | refine sm_lI (fun _ => ?_)
        | refine sm_lL (fun _ => ?_)
        | refine sm_lR (fun _ _ => ?_)
        | refine sm_take (fun _ _ => ?_) _ _ _
        | refine sm_sw (fun _ => ?_) _
        | refine sm_if ?_ ?_
        | refine sm_bif ?_ ?_
        | refine sm_and ?_
        | refine sm_opt (fun _ => ?_)
        | split)
end SM
def si_st (sc : si_Sc) (rec : Nat → Nat → Nat → si_Lv → List si_AV → si_Mm → si_Po → Prop) (d j pc : Nat) (lv : si_Lv) (st : List si_AV) (μ : si_Mm) (Q : si_Po) : Prop := match si_code j pc with
    | none => False
    | some e => si_ex sc (fun pc lv st μ => rec d j pc lv st μ Q) (fun j' as μ Q' => match d with
        | 0 => False
        | d' + 1 => rec d' j' 0 (si_pad (si_mL j') (si_enL as)) [] μ Q') Q (si_mT j) (si_mL j) (si_mJ j) pc e lv st μ
/-- the least such: no count of steps -/
def si_W (sc : si_Sc) (d j pc : Nat) (lv : si_Lv) (st : List si_AV) (μ : si_Mm) (Q : si_Po) : Prop :=
  ∀ P : Nat → Nat → Nat → si_Lv → List si_AV → si_Mm → si_Po → Prop, (∀ d j pc lv st μ Q, si_st sc P d j pc lv st μ Q → P d j pc lv st μ Q) → (∀ d j pc lv st μ Q Q', (∀ r μ, Q r μ → Q' r μ) → P d j pc lv st μ Q → P d j pc lv st μ Q') → P d j pc lv st μ Q
theorem si_st_mono {sc : si_Sc} {P P' : Nat → Nat → Nat → si_Lv → List si_AV → si_Mm → si_Po → Prop} (hm : ∀ d j pc lv st μ Q Q', (∀ r μ, Q r μ → Q' r μ) → P d j pc lv st μ Q → P' d j pc lv st μ Q') {d j pc : Nat} {lv : si_Lv} {st : List si_AV} {μ : si_Mm} {Q Q' : si_Po} (hQ : ∀ r μ, Q r μ → Q' r μ) (h : si_st sc P d j pc lv st μ Q) : si_st sc P' d j pc lv st μ Q' := by
  unfold si_st at h ⊢
  cases hc : si_code j pc with
  | none => rw [hc] at h; exact h
  | some e =>
    rw [hc] at h
    dsimp only at h ⊢
    refine si_ex_mono (fun _ _ _ _ q => hm _ _ _ _ _ _ _ _ hQ q) (fun j' as μ' Q1 Q2 h12 q => ?_) hQ h
    cases d with
    | zero => exact q
    | succ d' => exact hm _ _ _ _ _ _ _ _ h12 q
theorem si_W.mono {sc : si_Sc} {d j pc : Nat} {lv : si_Lv} {st : List si_AV} {μ : si_Mm} {Q Q' : si_Po} (hQ : ∀ r μ, Q r μ → Q' r μ) (h : si_W sc d j pc lv st μ Q) : si_W sc d j pc lv st μ Q' := fun P h1 h2 => h2 _ _ _ _ _ _ _ _ hQ (h P h1 h2)
theorem si_W.step {sc : si_Sc} {d j pc : Nat} {lv : si_Lv} {st : List si_AV} {μ : si_Mm} {Q : si_Po} (h : si_st sc (si_W sc) d j pc lv st μ Q) : si_W sc d j pc lv st μ Q := fun P h1 h2 =>
  h1 _ _ _ _ _ _ _ (si_st_mono (fun _ _ _ _ _ _ _ _ hq q => h2 _ _ _ _ _ _ _ _ hq (q P h1 h2)) (fun _ _ h => h) h)
theorem si_W.rec {sc : si_Sc} {P : Nat → Nat → Nat → si_Lv → List si_AV → si_Mm → si_Po → Prop} (h1 : ∀ d j pc lv st μ Q, si_st sc P d j pc lv st μ Q → P d j pc lv st μ Q) (h2 : ∀ d j pc lv st μ Q Q', (∀ r μ, Q r μ → Q' r μ) → P d j pc lv st μ Q → P d j pc lv st μ Q') {d j pc : Nat} {lv : si_Lv} {st : List si_AV} {μ : si_Mm} {Q : si_Po} (h : si_W sc d j pc lv st μ Q) : P d j pc lv st μ Q := h P h1 h2
/-- a call from depth d -/
def si_cl (sc : si_Sc) (d : Nat) (j : Nat) (as : List si_AV) (μ : si_Mm) (Q : si_Po) : Prop := match d with
  | 0 => False
  | d' + 1 => si_W sc d' j 0 (si_pad (si_mL j) (si_enL as)) [] μ Q
/-- k instructions at most, up to the cuts -/
def si_bk (sc : si_Sc) (d j : Nat) (cut : List Nat) (Q : si_Po) : Nat → Nat → si_Lv → List si_AV → si_Mm → Prop
  | 0, pc, lv, st, μ => si_W sc d j pc lv st μ Q
  | k + 1, pc, lv, st, μ => match si_code j pc with
    | none => False
    | some e => si_ex sc (fun pc lv st μ => bif cut.any (fun q => Nat.beq q pc) then si_W sc d j pc lv st μ Q else si_bk sc d j cut Q k pc lv st μ) (si_cl sc d) Q (si_mT j) (si_mL j) (si_mJ j) pc e lv st μ
theorem si_go {sc : si_Sc} {d j : Nat} {Q : si_Po} (cut : List Nat) : ∀ (k : Nat) {pc : Nat} {lv : si_Lv} {st : List si_AV} {μ : si_Mm}, si_bk sc d j cut Q k pc lv st μ → si_W sc d j pc lv st μ Q
  | 0, _, _, _, _, h => h
  | k + 1, pc, lv, st, μ, h => by
    refine si_W.step ?_
    unfold si_bk at h
    unfold si_st
    cases hc : si_code j pc with
    | none => rw [hc] at h; exact h
    | some e =>
      rw [hc] at h
      dsimp only at h ⊢
      refine si_ex_mono (fun _ _ _ _ q => ?_) (fun j' as μ' Q1 Q2 h12 q => ?_) (fun _ _ q => q) h
      · revert q
        cases cut.any _
        · exact si_go cut k
        · exact id
      · unfold si_cl at q
        cases d with
        | zero => exact q
        | succ d' => exact q.mono h12
