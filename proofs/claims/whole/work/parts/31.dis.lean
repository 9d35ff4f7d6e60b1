/-! THE MAKING MACHINE: constructors and the law's first steps; every cell by its number in the order of making -/
abbrev di_E : Type := (Nat × Nat × (Nat → Int32)) ⊕ (Nat × List (Option si_AV))
abbrev di_Re : Type := Nat × si_Lv × List di_E × Nat × Nat
def di_fc (ad : Nat → Nat → Nat) (v : Option si_AV) : Value := match v with
  | none => .null
  | some w => si_cv ad w
def di_cell (ad : Nat → Nat → Nat) (cI cZ : ClassId) (e : di_E) : va_E := match e with
  | .inl (k, n, f) => .inl (bif Nat.beq k 0 then cI else cZ, (n, .inl f))
  | .inr (c, fs) => .inr (c, fs.map (di_fc ad))
def di_ws (ad : Nat → Nat → Nat) (cI cZ : ClassId) (wd : List di_E) : va_W := wd.mapIdx (fun i e => (ad 0 i, di_cell ad cI cZ e))
def di_okV (L : Nat) : si_AV → Bool
  | .inl _ => true
  | .inr (.inl _) => true
  | .inr (.inr (tt, i)) => (Nat.beq tt 0 && Nat.blt i L) || (Nat.beq tt 92 && Nat.beq i 0)
def di_okO (L : Nat) : Option si_AV → Bool
  | none => true
  | some v => di_okV L v
def di_okE2 (L : Nat) : di_E → Bool
  | .inl _ => true
  | .inr (_, fs) => fs.all (di_okO L)
def di_okA (lv : si_Lv) (st : List si_AV) (wd : List di_E) : Bool := Nat.blt wd.length 200 && (lv.all (di_okO wd.length) && (st.all (di_okV wd.length) && wd.all (di_okE2 wd.length)))
def di_pI (st : List si_AV) (k : Int32 → List si_AV → Option di_Re) : Option di_Re := match st with
  | .inl x :: r => k x r
  | _ => none
def di_pR (st : List si_AV) (k : Nat → Nat → List si_AV → Option di_Re) : Option di_Re := match st with
  | .inr (.inr (tt, i)) :: r => k tt i r
  | _ => none
def di_p1 (st : List si_AV) (k : si_AV → List si_AV → Option di_Re) : Option di_Re := match st with
  | .inl x :: r => k (.inl x) r
  | .inr (.inr q) :: r => k (.inr (.inr q)) r
  | _ => none
def di_lI (lv : si_Lv) (i : Nat) (k : Int32 → Option di_Re) : Option di_Re := match si_nth lv i with
  | some (.inl x) => k x
  | _ => none
def di_lR (lv : si_Lv) (i : Nat) (k : Nat → Nat → Option di_Re) : Option di_Re := match si_nth lv i with
  | some (.inr (.inr (tt, q))) => k tt q
  | _ => none
def di_take : Nat → List si_AV → List si_AV → (List si_AV → List si_AV → Option di_Re) → Option di_Re
  | 0, st, acc, k => k acc st
  | n + 1, v :: st, acc, k => di_take n st (v :: acc) k
  | _ + 1, [], _, _ => none
def di_arr (wd : List di_E) (q : Nat) (k : Nat → Nat → (Nat → Int32) → Option di_Re) : Option di_Re := match wd[q]? with
  | some (.inl (a, n, f)) => k a n f
  | _ => none
def di_obj (wd : List di_E) (q : Nat) (k : Nat → List (Option si_AV) → Option di_Re) : Option di_Re := match wd[q]? with
  | some (.inr (c, fs)) => k c fs
  | _ => none
def di_cnt (c s : Nat) (r : Option di_Re) : Option di_Re := match r with
  | some (pe, le, w, k, n) => some (pe, le, w, c + k, s + n)
  | none => none
def di_bind (o : Option di_Re) (k : List di_E → Option di_Re) : Option di_Re := match o with
  | some (_, _, w1, k1, s1) => di_cnt k1 s1 (k w1)
  | none => none
def di_fit (ty : FieldType) (w : si_AV) : Bool := match w with
  | .inl x => decide (narrow ty (.int x) = .int x) && fits ty (.int x)
  | .inr (.inl _) => false
  | .inr (.inr _) => decide (narrow ty (.ref 0) = .ref 0) && (match ty with
    | .object _ => true
    | .array _ => true
    | _ => false)
noncomputable def di_def (c : Nat) : List (Option si_AV) := (List.range (si_N c)).map (fun k => match si_ty c k with
  | .int => some (.inl 0)
  | .boolean => some (.inl 0)
  | .long => some (.inr (.inl 0))
  | _ => none)
noncomputable def di_st (rec : Nat → Nat → Nat → si_Lv → List si_AV → List di_E → Option di_Re) (d j pc : Nat) (lv : si_Lv) (st : List si_AV) (wd : List di_E) : Option di_Re :=
  bif Nat.beq j 234 && Nat.beq pc 16 then (match st with
    | [] => some (pc, lv, wd, 0, 0)
    | _ => none) else
  match di_code j pc with
  | none => none
  | some (ins, _, v, a, b, _) => match ins with
    | .iconst _ => rec d j (pc + 1) lv (.inl v :: st) wd
    | .bipush _ => rec d j (pc + 2) lv (.inl v :: st) wd
    | .sipush _ => rec d j (pc + 3) lv (.inl v :: st) wd
    | .iload i => di_lI lv i fun x => rec d j (pc + 2) lv (.inl x :: st) wd
    | .iload_n i => di_lI lv (i : Nat) fun x => rec d j (pc + 1) lv (.inl x :: st) wd
    | .aload_n i => di_lR lv (i : Nat) fun tt q => rec d j (pc + 1) lv (.inr (.inr (tt, q)) :: st) wd
    | .istore_n i => di_pI st fun x r => bif Nat.blt (i : Nat) (di_mL j) then rec d j (pc + 1) (si_sto false lv (i : Nat) (.inl x)) r wd else none
    | .astore_n i => di_pR st fun tt q r => bif Nat.blt (i : Nat) (di_mL j) && di_okV 200 (.inr (.inr (tt, q))) then rec d j (pc + 1) (si_sto false lv (i : Nat) (.inr (.inr (tt, q)))) r wd else none
    | .iinc i _ => di_lI lv i fun x => bif Nat.blt i (di_mL j) then rec d j (pc + 3) (si_sto false lv i (.inl (x + v))) st wd else none
    | .iadd => di_pI st fun y r => di_pI r fun x r => rec d j (pc + 1) lv (.inl (x + y) :: r) wd
    | .dup => di_p1 st fun u r => rec d j (pc + 1) lv (u :: u :: r) wd
    | .goto _ => rec d j a lv st wd
    | .if_icmp .ge _ => di_pI st fun y r => di_pI r fun x r => if y ≤ x then rec d j a lv r wd else rec d j (pc + 3) lv r wd
    | .getfield _ => di_pR st fun tt q r => di_obj wd q fun c fs => bif Nat.beq tt 0 && Nat.beq c a then (match fs[b]? with
        | some (some u) => rec d j (pc + 3) lv (u :: r) wd
        | _ => none) else none
    | .putfield _ => di_p1 st fun u r => di_pR r fun tt q r => di_obj wd q fun c fs => bif Nat.beq tt 0 && (Nat.beq c a && (Nat.blt b fs.length && di_fit (si_ty a b) u)) then rec d j (pc + 3) lv r (wd.set q (.inr (c, fs.set b (some u)))) else none
    | .iastore => di_pI st fun x r => di_pI r fun i r => di_pR r fun tt q r => di_arr wd q fun k n f => bif Nat.beq tt 0 && (Nat.beq k 0 && (decide (¬ i < 0) && Nat.blt i.toNatClampNeg n)) then rec d j (pc + 1) lv r (wd.set q (.inl (k, n, upd f i.toNatClampNeg x))) else none
    | .arraylength => di_pR st fun tt q r => di_arr wd q fun k n _ => bif Nat.beq tt 0 && Nat.beq k 0 then rec d j (pc + 1) lv (.inl (Int32.ofNat n) :: r) wd else none
    | .newarray _ => di_pI st fun x r => bif di_okA lv r wd && (decide (¬ x < 0) && (Nat.ble x.toNatClampNeg 1000 && Nat.ble a 1)) then di_cnt 1 x.toNatClampNeg (rec d j (pc + 2) lv (.inr (.inr (0, wd.length)) :: r) (wd ++ [.inl (a, x.toNatClampNeg, fun _ => 0)])) else none
    | .new _ => bif di_okA lv st wd then di_cnt 1 (si_N a) (rec d j (pc + 3) lv (.inr (.inr (0, wd.length)) :: st) (wd ++ [.inr (a, di_def a)])) else none
    | .invokespecial _ => bif Nat.beq a 9 then (di_pR st fun _ _ r => bif Nat.ble (si_w8 r) 8 then rec d j (pc + 3) lv r wd else none) else
        (di_take (di_mN b) st [] fun as r => di_pR r fun tt q r => bif (Nat.beq a 1 || Nat.beq a 2) && (Nat.ble (si_w8 r) 8 && (Nat.ble (1 + si_w8 as) (di_mL b) && (as.all (fun u => !si_c2 u) && (di_okA lv (.inr (.inr (tt, q)) :: (as ++ r)) wd)))) then (match d with
          | 0 => none
          | d' + 1 => di_bind (rec d' b 0 (si_pad (di_mL b) (si_enL (.inr (.inr (tt, q)) :: as))) [] wd) fun w1 => bif Nat.ble wd.length w1.length then rec d j (pc + 3) lv r w1 else none) else none)
    | .invokevirtual _ => (di_take (di_mN b) st [] fun as r => di_pR r fun tt q r => di_obj wd q fun c _ => bif Nat.beq a 0 && (Nat.beq tt 0 && (Nat.beq c (di_mO b) && (Nat.ble (si_w8 r) 8 && (Nat.ble (1 + si_w8 as) (di_mL b) && (as.all (fun u => !si_c2 u) && (di_okA lv (.inr (.inr (tt, q)) :: (as ++ r)) wd)))))) then (match d with
          | 0 => none
          | d' + 1 => di_bind (rec d' b 0 (si_pad (di_mL b) (si_enL (.inr (.inr (tt, q)) :: as))) [] wd) fun w1 => bif Nat.ble wd.length w1.length then rec d j (pc + 3) lv r w1 else none) else none)
    | .invokestatic _ => (di_take (di_mN b) st [] fun as r => bif Nat.beq a 7 && (Nat.ble (si_w8 r) 8 && (Nat.ble (si_w8 as) (di_mL b) && (as.all (fun u => !si_c2 u) && (di_okA lv (as ++ r) wd)))) then (match d with
          | 0 => none
          | d' + 1 => di_bind (rec d' b 0 (si_pad (di_mL b) (si_enL as)) [] wd) fun w1 => bif Nat.ble wd.length w1.length then rec d j (pc + 3) lv r w1 else none) else none)
    | .return_ => (match st with
        | [] => some (pc, lv, wd, 0, 0)
        | _ => none)
    | _ => none
noncomputable def di_run (n : Nat) : Nat → Nat → Nat → si_Lv → List si_AV → List di_E → Option di_Re := Nat.rec (fun _ _ _ _ _ _ => none) (fun _ rec => di_st rec) n
noncomputable def di_all : Option di_Re := di_run 3000 6 234 0 [some (.inr (.inr (92, 0))), none, none, none] [] []
theorem di_all_ok : di_all.isSome = true := by decide +kernel
