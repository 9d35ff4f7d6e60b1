def di_CA : List (Nat × Nat) := [(6, 0), (1, 0), (10, 0), (11, 0), (12, 0), (5, 0), (25, 0), (26, 0), (27, 0), (28, 0), (3, 0), (2, 0), (13, 0), (14, 0), (15, 0), (16, 0), (17, 0), (18, 0), (19, 0), (20, 0), (21, 0), (2, 1), (13, 1), (14, 1), (15, 1), (16, 1), (17, 1), (18, 1), (19, 1), (20, 1), (21, 1), (2, 2), (13, 2), (14, 2), (15, 2), (16, 2), (17, 2), (18, 2), (19, 2), (20, 2), (21, 2), (4, 0), (22, 0), (23, 0), (24, 0), (0, 0), (7, 0), (29, 0), (30, 0), (31, 0), (32, 0), (33, 0), (34, 0), (35, 0), (36, 0), (37, 0), (38, 0), (39, 0), (40, 0), (41, 0), (42, 0), (43, 0), (44, 0)]
def di_ixL : List (Nat × Nat) → Nat → Nat → Nat → Nat
  | [], _, _, _ => 999
  | (a, b) :: r, tt, i, k => bif Nat.beq a tt && Nat.beq b i then k else di_ixL r tt i (k + 1)
def di_ix (tt i : Nat) : Nat := di_ixL di_CA tt i 0
noncomputable def di_WD : List di_E := match di_all with
  | some r => r.2.2.1
  | none => []
def di_lE : si_Lv := [some (.inr (.inr (92, 0))), some (.inr (.inr (0, 0))), some (.inr (.inr (0, 46))), none]
theorem di_all_c : (match di_all with
  | some r => decide (r.1 = 16 ∧ r.2.1 = di_lE ∧ r.2.2.2.1 = 63 ∧ r.2.2.2.2 = 3661)
  | none => false) = true := by decide +kernel
theorem di_all_e : di_all = some (16, di_lE, di_WD, 63, 3661) := by
  have h := di_all_c
  unfold di_WD
  cases hd : di_all with
  | none => rw [hd] at h; cases h
  | some r =>
    rw [hd] at h
    obtain ⟨a1, a2, a3, a4, a5⟩ := r
    have h := of_decide_eq_true h
    dsimp only at h ⊢
    obtain ⟨rfl, rfl, rfl, rfl⟩ := h
    rfl
/-- the memory when all is made -/
noncomputable def mu_0 : si_Mm := (fun tt i k => match di_WD[di_ix tt i]? with
  | some (.inl (_, _, f)) => f k
  | some (.inr (_, fs)) => (match fs[k]? with
    | some (some (.inl x)) => x
    | _ => 0)
  | none => 0, 0)
noncomputable def di_chk (k : Nat) : Bool := match di_WD[k]?, di_CA[k]? with
  | some (.inl (kd, n, _)), some (tt, i) => decide (si_arr tt = (kd, n)) && (Nat.ble kd 1 && Nat.beq (di_ix tt i) k)
  | some (.inr (c, fs)), some (tt, i) => Nat.beq tt c && (Nat.blt c 8 && (Nat.beq (di_ix tt i) k && (Nat.beq fs.length (si_N c) && (List.range (si_N c)).all (fun j => match fs[j]? with
      | some (some (.inl _)) => Nat.beq (si_fld c j).1 0 || Nat.beq (si_fld c j).1 4
      | some (some (.inr (.inl y))) => Nat.beq (si_fld c j).1 1 && decide (y = 0)
      | some (some (.inr (.inr (z, q)))) => Nat.beq z 0 && ((Nat.beq (si_fld c j).1 2 && Nat.beq q (di_ix (si_fld c j).2.1 (si_fld c j).2.2)) || (Nat.beq (si_fld c j).1 3 && Nat.beq q (di_ix (si_fld c j).2.1 i)))
      | _ => false))))
  | _, _ => false
theorem di_chk_a : (List.range 63).all di_chk = true := by decide +kernel
theorem di_len_a : (di_WD.length = 63 ∧ di_CA.length = 63) := by decide +kernel
def di_ad (ad : Nat → Nat → Nat) (adK : Nat → Nat) (tU b : Nat) : Nat → Nat → Nat := fun tt i => bif Nat.blt tt 45 then ad 0 (di_ix tt i) else bif Nat.beq tt 90 then adK i else bif Nat.beq tt 91 then tU else b
theorem di_CA_a : (di_CA.all (fun q => Nat.blt q.1 45 && (List.range (si_N q.1)).all (fun k => (!Nat.beq (si_fld q.1 k).1 2 || di_CA.any (fun z => Nat.beq z.1 (si_fld q.1 k).2.1 && Nat.beq z.2 (si_fld q.1 k).2.2)) && ((!Nat.beq (si_fld q.1 k).1 3 || di_CA.any (fun z => Nat.beq z.1 (si_fld q.1 k).2.1 && Nat.beq z.2 q.2)) && (!Nat.beq (si_fld q.1 k).1 1 || (Nat.beq q.1 7 && (Nat.beq q.2 0 && Nat.beq k 26))))))) = true := by decide +kernel
theorem di_CA_n : (List.range 63).all (fun i => (List.range 63).all (fun j => Nat.beq i j || decide (di_CA[i]? ≠ di_CA[j]?))) = true := by decide +kernel
theorem si_fld_lt : ∀ a, a < 8 → ∀ k, k < si_N a → (si_fld a k).2.1 < 45 := by decide +kernel
theorem di_CA_any {a b : Nat} (h : di_CA.any (fun z => Nat.beq z.1 a && Nat.beq z.2 b) = true) : (a, b) ∈ di_CA := by
  obtain ⟨q, hq, h⟩ := List.any_eq_true.mp h
  rw [Bool.and_eq_true] at h
  obtain ⟨q1, q2⟩ := q
  cases Nat.eq_of_beq_eq_true h.1
  cases Nat.eq_of_beq_eq_true h.2
  exact hq
theorem si_gf_e {f : Nat × Nat × Nat} {i : Nat} {x : Int32} {y : Int64} {w : si_AV} (h : si_gf f i x y = some w) : ((f.1 = 0 ∨ f.1 = 4) ∧ w = .inl x) ∨ (f.1 = 1 ∧ w = .inr (.inl y)) ∨ (f.1 = 2 ∧ w = .inr (.inr (f.2.1, f.2.2))) ∨ (f.1 = 3 ∧ w = .inr (.inr (f.2.1, i))) := by
  unfold si_gf at h
  cases h0 : Nat.beq f.1 0 with
  | true => rw [h0] at h; cases h; exact Or.inl ⟨Or.inl (Nat.eq_of_beq_eq_true h0), rfl⟩
  | false =>
    rw [h0] at h
    cases h4 : Nat.beq f.1 4 with
    | true => rw [h4] at h; cases h; exact Or.inl ⟨Or.inr (Nat.eq_of_beq_eq_true h4), rfl⟩
    | false =>
      rw [h4] at h
      cases h1 : Nat.beq f.1 1 with
      | true => rw [h1] at h; cases h; exact Or.inr (Or.inl ⟨Nat.eq_of_beq_eq_true h1, rfl⟩)
      | false =>
        rw [h1] at h
        cases h2 : Nat.beq f.1 2 with
        | true => rw [h2] at h; cases h; exact Or.inr (Or.inr (Or.inl ⟨Nat.eq_of_beq_eq_true h2, rfl⟩))
        | false =>
          rw [h2] at h
          cases h3 : Nat.beq f.1 3 with
          | true => rw [h3] at h; cases h; exact Or.inr (Or.inr (Or.inr ⟨Nat.eq_of_beq_eq_true h3, rfl⟩))
          | false => rw [h3] at h; cases h
theorem di_CA_ok : si_okC di_CA := by
  have hA := List.all_eq_true.mp di_CA_a
  have hk : ∀ q ∈ di_CA, ∀ k, k < si_N q.1 → ((!Nat.beq (si_fld q.1 k).1 2 || di_CA.any (fun z => Nat.beq z.1 (si_fld q.1 k).2.1 && Nat.beq z.2 (si_fld q.1 k).2.2)) && ((!Nat.beq (si_fld q.1 k).1 3 || di_CA.any (fun z => Nat.beq z.1 (si_fld q.1 k).2.1 && Nat.beq z.2 q.2)) && (!Nat.beq (si_fld q.1 k).1 1 || (Nat.beq q.1 7 && (Nat.beq q.2 0 && Nat.beq k 26))))) = true := by
    intro q hq k hk
    have h1 := hA q hq
    rw [Bool.and_eq_true] at h1
    exact List.all_eq_true.mp h1.2 k (List.mem_range.mpr hk)
  refine ⟨fun i j q hi hj => ?_, fun q hq => ?_, fun q hq k hkN x y u hu => ?_, fun q hq k hkN h1 => ?_⟩
  · have li : i < 63 := by have := (List.getElem?_eq_some_iff.mp hi).1; rw [di_len_a.2] at this; exact this
    have lj : j < 63 := by have := (List.getElem?_eq_some_iff.mp hj).1; rw [di_len_a.2] at this; exact this
    have h1 := List.all_eq_true.mp (List.all_eq_true.mp di_CA_n i (List.mem_range.mpr li)) j (List.mem_range.mpr lj)
    rw [Bool.or_eq_true] at h1
    rcases h1 with h1 | h1
    · exact Nat.eq_of_beq_eq_true h1
    · exact absurd (hi.trans hj.symm) (of_decide_eq_true h1)
  · have h1 := hA q hq
    rw [Bool.and_eq_true] at h1
    exact Nat.le_of_ble_eq_true h1.1
  · have h1 := hk q hq k hkN
    rw [Bool.and_eq_true, Bool.and_eq_true] at h1
    rcases si_gf_e hu with ⟨-, rfl⟩ | ⟨-, rfl⟩ | ⟨e, rfl⟩ | ⟨e, rfl⟩
    · trivial
    · trivial
    · have h2 := h1.1
      rw [e] at h2
      exact Or.inl (di_CA_any h2)
    · have h2 := h1.2.1
      rw [e] at h2
      exact Or.inl (di_CA_any h2)
  · have h2 := hk q hq k hkN
    rw [Bool.and_eq_true, Bool.and_eq_true] at h2
    have h3 := h2.2.2
    rw [h1] at h3
    simp only [show Nat.beq 1 1 = true from rfl, Bool.not_true, Bool.false_or, Bool.and_eq_true] at h3
    exact ⟨Prod.ext (Nat.eq_of_beq_eq_true h3.1) (Nat.eq_of_beq_eq_true h3.2.1), Nat.eq_of_beq_eq_true h3.2.2⟩
set_option maxHeartbeats 4000000 in
theorem di_conv {ad : Nat → Nat → Nat} {adK : Nat → Nat} {tU b : Nat} {cI cZ : ClassId} : di_ws ad cI cZ di_WD = si_ws (di_ad ad adK tU b) cI cZ di_CA mu_0 := by
  have had : ∀ tt i, tt < 45 → di_ad ad adK tU b tt i = ad 0 (di_ix tt i) := fun tt i h => by
    unfold di_ad
    rw [show Nat.blt tt 45 = true from Nat.ble_eq_true_of_le h]
    rfl
  have hlt : ∀ q ∈ di_CA, q.1 < 45 := di_CA_ok.2.1
  refine List.ext_getElem? fun k => ?_
  unfold di_ws si_ws
  rw [List.getElem?_mapIdx, List.getElem?_map]
  by_cases hk : k < 63
  · have h1 := List.all_eq_true.mp di_chk_a k (List.mem_range.mpr hk)
    unfold di_chk at h1
    cases hw : di_WD[k]? with
    | none => rw [hw] at h1; cases h1
    | some ee =>
      cases hq : di_CA[k]? with
      | none => rw [hw, hq] at h1; cases ee <;> cases h1
      | some qq =>
        rw [hw, hq] at h1
        obtain ⟨tt, i⟩ := qq
        have hm := hlt _ (List.mem_of_getElem? hq)
        simp only [Option.map_some]
        refine congrArg some ?_
        match ee, hw, h1 with
        | .inl (kd, n, f), hw, h1 =>
          simp only [Bool.and_eq_true, decide_eq_true_eq] at h1
          obtain ⟨a1, a2, a3⟩ := h1
          have a3 := Nat.eq_of_beq_eq_true a3
          have hmu : mu_0.1 tt i = f := by
            funext z
            unfold mu_0
            dsimp only
            rw [a3, hw]
          have a2 := Nat.le_of_ble_eq_true a2
          unfold si_ce di_cell
          dsimp only
          rw [hmu, a1, had tt i hm, a3]
          have hkd : kd = 0 ∨ kd = 1 := by omega
          clear a1 a3 hw
          rcases hkd with e0 | e0
          · rw [e0]; rfl
          · rw [e0]; rfl
        | .inr (c, fs), hw, h1 =>
          simp only [Bool.and_eq_true] at h1
          obtain ⟨a1, a2, a3, a4, a5⟩ := h1
          cases Nat.eq_of_beq_eq_true a1
          have a2 : tt < 8 := Nat.le_of_ble_eq_true a2
          have a3 := Nat.eq_of_beq_eq_true a3
          have a4 := Nat.eq_of_beq_eq_true a4
          rw [si_ce_obj (q := (tt, i)) a2]
          show (ad 0 k, Sum.inr (tt, fs.map (di_fc ad))) = _
          rw [had tt i hm, a3]
          refine congrArg (fun z => (ad 0 k, (Sum.inr (tt, z) : va_E))) ?_
          refine List.ext_getElem? fun z => ?_
          rw [List.getElem?_map, List.getElem?_map]
          by_cases hz : z < si_N tt
          · rw [List.getElem?_range hz]
            have h2 := List.all_eq_true.mp a5 z (List.mem_range.mpr hz)
            have hmu : ∀ x, fs[z]? = some (some (.inl x)) → mu_0.1 tt i z = x := fun x hx => by
              unfold mu_0
              dsimp only
              rw [a3, hw]
              dsimp only
              rw [hx]
            cases hf : fs[z]? with
            | none => rw [hf] at h2; cases h2
            | some ov =>
              simp only [Option.map_some]
              refine congrArg some ?_
              match ov, hf with
              | none, hf => rw [hf] at h2; cases h2
              | some (.inl x), hf =>
                rw [hf] at h2
                rw [hmu x hf]
                unfold si_fv si_gf
                dsimp only at h2
                rw [Bool.or_eq_true] at h2
                rcases h2 with h2 | h2
                · rw [h2]; rfl
                · rw [Nat.eq_of_beq_eq_true h2]; rfl
              | some (.inr (.inl y)), hf =>
                rw [hf] at h2
                dsimp only at h2
                rw [Bool.and_eq_true] at h2
                cases of_decide_eq_true h2.2
                unfold si_fv si_gf
                rw [Nat.eq_of_beq_eq_true h2.1]
                rfl
              | some (.inr (.inr (z0, q))), hf =>
                rw [hf] at h2
                dsimp only at h2
                rw [Bool.and_eq_true, Bool.or_eq_true, Bool.and_eq_true, Bool.and_eq_true] at h2
                obtain ⟨b1, b2⟩ := h2
                cases Nat.eq_of_beq_eq_true b1
                rcases b2 with ⟨b2, b3⟩ | ⟨b2, b3⟩
                · have hin : ((si_fld tt z).2.1, (si_fld tt z).2.2) ∈ di_CA := by
                    rcases di_CA_ok.2.2.1 (tt, i) (List.mem_of_getElem? hq) z hz 0 0 (.inr (.inr ((si_fld tt z).2.1, (si_fld tt z).2.2))) (by unfold si_gf; rw [Nat.eq_of_beq_eq_true b2]; rfl) with q1 | q1 | q1 | q1
                    · exact q1
                    · exact absurd q1.1 (by have := si_fld_lt tt a2 z hz; show ¬ (si_fld tt z).2.1 = 90; omega)
                    · exact absurd (congrArg Prod.fst q1) (by have := si_fld_lt tt a2 z hz; show ¬ (si_fld tt z).2.1 = 91; omega)
                    · exact absurd (congrArg Prod.fst q1) (by have := si_fld_lt tt a2 z hz; show ¬ (si_fld tt z).2.1 = 92; omega)
                  have hlt2 := hlt _ hin
                  unfold si_fv si_gf
                  rw [Nat.eq_of_beq_eq_true b2]
                  show Value.ref (ad 0 q) = Value.ref (di_ad ad adK tU b (si_fld tt z).2.1 (si_fld tt z).2.2)
                  rw [had _ _ hlt2, Nat.eq_of_beq_eq_true b3]
                · have hlt2 : (si_fld tt z).2.1 < 45 := si_fld_lt tt a2 z hz
                  unfold si_fv si_gf
                  rw [Nat.eq_of_beq_eq_true b2]
                  show Value.ref (ad 0 q) = Value.ref (di_ad ad adK tU b (si_fld tt z).2.1 i)
                  rw [had _ _ hlt2, Nat.eq_of_beq_eq_true b3]
          · have e1 : fs[z]? = none := List.getElem?_eq_none (by omega)
            have e2 : (List.range (si_N tt))[z]? = none := List.getElem?_eq_none (by simp; omega)
            rw [e1, e2]
            rfl
  · have e1 : di_WD[k]? = none := List.getElem?_eq_none (by rw [di_len_a.1]; omega)
    have e2 : di_CA[k]? = none := List.getElem?_eq_none (by rw [di_len_a.2]; omega)
    rw [e1, e2]
    rfl
