/-! new T[n][m]; Math.max; the law's switch -/
def zrowsN (n : Nat) : Nat → List zAV
  | 0 => []
  | Nat.succ k => (3, n) :: zrowsN (n + 1) k
theorem zrowsN_eq : ∀ (k n : Nat), zrowsN n k = (List.range k).map fun i => ((3, n + i) : zAV)
  | 0, n => rfl
  | k + 1, n => by
    rw [List.range_succ_eq_map, List.map_cons, List.map_map]
    show (3, n) :: zrowsN (n + 1) k = _
    rw [zrowsN_eq k (n + 1)]
    congr 1
    apply List.map_congr_left
    intro i _
    show (3, n + 1 + i) = (3, n + (i + 1))
    rw [show n + 1 + i = n + (i + 1) by omega]
theorem zAOA {U : State} (h : zAO U) : va_AOA .int U ∧ va_AOA (.object "FormRiverModel$Version") U := ⟨h.1 (.arrayOver (.array .int)) (by decide +kernel), h.1 (.arrayOver (.array (.object "FormRiverModel$Version"))) (by decide +kernel)⟩
/-- the class of the rows -/
theorem zrowK {D : va_G} {cl : List vw_C} {tys : List (ClassId × FieldType)} {s : State} {args : Array Value} {ty : FieldType} (hK : va_K D cl tys s) (h : (Cond.arrayClass ty).before args s = true) (h2 : ∀ C, ty = .object C → va_AO C s) : ∃ cy : ClassId, s.vm.findClass (FieldType.array ty).toString = some cy ∧ va_K D cl (tys ++ [(cy, ty)]) s := by
  obtain ⟨cy, k, comp, h1, h3, h4⟩ := Cond.arrayClass_spec h
  refine ⟨cy, h1, hK.app ⟨hK.1, ?_⟩⟩
  intro j q hj
  have hj0 : j = 0 := by
    have := (List.getElem?_eq_some_iff.mp hj).1
    simpa using this
  subst hj0
  have hq : (cy, ty) = q := by simpa using hj
  subst hq
  refine ⟨fun n z => ⟨(fun z0 h => by cases h), k, h3, comp, h4⟩, ?_⟩
  cases ty with
  | object C =>
    obtain ⟨comp2, c2, k2, e1, e2, e3, e4, e5⟩ := Cond.arrayOver_spec (h2 C rfl)
    cases h1.symm.trans e5
    exact ⟨k2, comp2, e3, e4, e1, e5⟩
  | _ => exact h1
theorem zarrC {C : String} {s : State} {args : Array Value} (h : va_AO C s) : (Cond.arrayClass (.object C)).before args s = true := by
  obtain ⟨comp2, c2, k2, e1, e2, e3, e4, e5⟩ := Cond.arrayOver_spec h
  unfold Cond.before Cond.holds
  simp only [Cond.value]
  rw [e5]
  simp [e3, e4]
def zo_mna : zSem := fun x M ev st k => match st with
  | (pc, L, stk, G, cu, su) => match stk with
    | v2 :: rest1 => match rest1 with
      | v1 :: rest => cond (Nat.beq v1.1 0 && (Nat.beq v2.1 0 && (Nat.ble v1.2 65536 && (Nat.ble v2.2 65536 && (Nat.ble (cu + (1 + v1.2)) (zm_rm M).2.1 && (Nat.ble (su + (v1.2 + v1.2 * v2.2)) (zm_rm M).2.2.1 && (zokL G.length L && zokA G.length rest))))))) (zN G.length fun n => zapp G ((Nat.succ (zx x 1), 0, zrowsN (n + 1) v1.2) :: List.replicate v1.2 (Nat.succ (zx x 2), 0, List.replicate v2.2 (zadf (zx x 2)))) fun G' => zN (cu + 1 + v1.2) fun cu' => zN (su + v1.2 + v1.2 * v2.2) fun su' => znx pc 4 L ((3, n) :: rest) G' cu' su' k) none
      | [] => none
    | [] => none
def zmna_ok (x : List Nat) : Bool := (Nat.beq (zx x 1) 6 && Nat.beq (zx x 2) 0) || (Nat.beq (zx x 1) 7 && Nat.beq (zx x 2) 8)
theorem zmna_ty {x : List Nat} (h : zmna_ok x = true) : zT (zx x 1) = .array (zT (zx x 2)) ∧ 5 ≤ zx x 1 ∧ ((zT (zx x 2) = .int) ∨ zT (zx x 2) = .object "FormRiverModel$Version") := by
  simp only [zmna_ok, Bool.or_eq_true, Bool.and_eq_true] at h
  rcases h with ⟨h1, h2⟩ | ⟨h1, h2⟩ <;> rw [Nat.eq_of_beq_eq_true h1, Nat.eq_of_beq_eq_true h2]
  · exact ⟨rfl, by omega, Or.inl rfl⟩
  · exact ⟨rfl, by omega, Or.inr rfl⟩
theorem zW_rep {ρ : Nat → Int32} {ad : Nat → Nat} {ca : Nat → ClassId} {b td : Nat} {c : zCell} {cy : ClassId} {e : va_E} : ∀ (n p : Nat), (∀ i, i < n → zE ρ ad ca b td (p + i) c = e) → zW ρ ad ca b td p (List.replicate n c) = (List.range n).map fun i => (ad (p + i), e)
  | 0, p, _ => rfl
  | n + 1, p, h => by
    rw [List.replicate_succ, List.range_succ_eq_map, List.map_cons, List.map_map]
    show (ad p, zE ρ ad ca b td p c) :: zW ρ ad ca b td (p + 1) (List.replicate n c) = _
    rw [zW_rep (cy := cy) n (p + 1) (fun i hi => by have := h (i + 1) (by omega); rwa [show p + (i + 1) = p + 1 + i by omega] at this)]
    have h0 := h 0 (by omega)
    rw [Nat.add_zero] at h0
    rw [h0, Nat.add_zero]
    congr 1
    apply List.map_congr_left
    intro i _
    show (ad (p + 1 + i), e) = (ad (p + (i + 1)), e)
    rw [show p + 1 + i = p + (i + 1) by omega]
theorem zs_mna : zSnd (fun _ x => .multianewarray (zx x 0) 2) 4 (fun M x => zmna_ok x && (hasW (zx x 3) (.classLink (zm_y M).cls (zx x 0) ("[" ++ (FieldType.array (zT (zx x 2))).toString)) && (Nat.beq (zx x 2) 8 || hasW (zx x 4) (.arrayClass .int)))) zo_mna := by
  intro p l e R s m args below meth c Q M ev X n0 ad0 cx x pc L stk G cu su k r hd hf hs
  have hx := cx.1
  have hb := cx.2.1
  have hown := cx.2.2.2.1
  have hts := cx.2.2.2.2.1
  have hRm := cx.2.2.2.2.2.1
  have hbase := cx.2.2.2.2.2.2.1
  dsimp only [zo_mna] at hs
  cases stk with
  | nil => cases hs
  | cons v2 rest1 =>
  cases rest1 with
  | nil => cases hs
  | cons v1 rest =>
  have hc := (zc hs).1
  have hs := (zc hs).2
  simp only [zN_eq, zapp_eq] at hs
  simp only [Bool.and_eq_true] at hc hf
  obtain ⟨hv1, hv2, hn1, hn2, hc1, hc2, hc3, hc4⟩ := hc
  obtain ⟨hm, hf1, hf2⟩ := hf
  obtain ⟨hty, hx5, hel⟩ := zmna_ty hm
  have hn1 : v1.2 ≤ 65536 := by simpa using hn1
  have hn2 : v2.2 ≤ 65536 := by simpa using hn2
  have hcb := zcb (zx x 2)
  have hAO := cx.2.2.2.2.2.2.2.2.2.2.2.2.1
  have hov : va_AOA (zT (zx x 2)) s := by
    rcases hel with h | h <;> rw [h]
    · exact (zAOA hAO).1
    · exact (zAOA hAO).2
  have hAOV : va_AO "FormRiverModel$Version" s := hAO.1 (.arrayOver (.object "FormRiverModel$Version")) (by decide +kernel)
  have harr : (Cond.arrayClass (zT (zx x 2))).before args s = true := by
    rcases hel with h | h
    · rw [h]
      have h8 : Nat.beq (zx x 2) 8 = false := by
        cases hq : Nat.beq (zx x 2) 8 with
        | true => rw [Nat.eq_of_beq_eq_true hq] at h; cases h
        | false => rfl
      rw [h8, Bool.false_or] at hf2
      exact zw (M := M) hts hf2
    · rw [h]
      exact zarrC hAOV
  refine ⟨_, znx_eq hs, fun hgo => ?_⟩
  intro ad ca tys H locs ls hR
  subst hRm
  obtain ⟨cy, hcy, hKy⟩ := zrowK hR.2.1.1 harr (fun C hC => by
    rcases hel with h | h
    · rw [h] at hC; cases hC
    · rw [h] at hC; cases hC; exact hAOV)
  simp only [List.map_cons]
  rw [zV_0 hv1, zV_0 hv2]
  have hdf : fits (zT (zx x 2)) (defaultValue (zT (zx x 2))) = true ∧ (defaultValue (zT (zx x 2))).isDefault = true := by
    rcases hel with h | h <;> rw [h] <;> exact ⟨rfl, rfl⟩
  have hP0 : va_P (zxD X) vwCl (zW (zxr X) ad ca (zxb X) (zxt X) 0 G ++ va_pl [] (fun _ => .inr (0, []))) H := by rw [show va_pl [] (fun _ => (.inr (0, []) : va_E)) = [] from rfl, List.append_nil]; exact hR.2.1.2.1
  have hD0 : va_D (fun q => zx0 X ≤ q) (zW (zxr X) ad ca (zxb X) (zxt X) 0 G ++ va_pl [] (fun _ => .inr (0, []))) := by rw [show va_pl [] (fun _ => (.inr (0, []) : va_E)) = [] from rfl, List.append_nil]; exact hR.2.1.2.2.1
  have hz : ∀ cA : ClassId, Jvm.Free.Multi.innerC cA v2.2 (defaultValue (zT (zx x 2))) = vp_cell cA (zC (zxr X) ad (zxb X) (zxt X) (zx x 2) (List.replicate v2.2 (zadf (zx x 2)))) := fun cA => by
    rw [zC_rep]
    unfold Jvm.Free.Multi.innerC arrV
    congr 1
    apply Array.ext
    · simp
    · intro i h1 h2
      simp
  refine va_mna (ty := zT (zx x 2)) (N' := v1.2) (K' := v2.2) hx hb hown (zw (M := M) hts hf1) hov harr hcy hKy hP0 hD0 hR.2.2.1 (fun q' h' => Nat.le_trans hbase h') (nI_pos (by omega)) (nI_pos (by omega)) (nI_clamp (by omega)) (nI_clamp (by omega)) (by omega) (Nat.le_trans (Nat.mul_le_mul hn2 hcb) (by decide)) (by omega) hdf.1 hdf.2 (show cu + (1 + v1.2) ≤ (zm_rm M).2.1 by simpa using hc1) (show su + (v1.2 + v1.2 * v2.2) ≤ (zm_rm M).2.2.1 by simpa using hc2) hz hd (fun q r cA H1 hr hrL hK1 hP1 hD1 hS1 => ?_)
  -- where the new ones lie, and of what class they are
  let ad' : Nat → Nat := fun k => if k < G.length then ad k else if k = G.length then q else r (k - (G.length + 1))
  let ca' : Nat → ClassId := fun k => if k < G.length then ca k else if k = G.length then cA else cy
  have ha : ∀ k, k < G.length → ad' k = ad k := fun k hk => if_pos hk
  have hca : ∀ k, k < G.length → ca' k = ca k := fun k hk => if_pos hk
  have haq : ad' G.length = q := by show (if G.length < G.length then _ else _) = q; rw [if_neg (Nat.lt_irrefl _), if_pos rfl]
  have hcq : ca' G.length = cA := by show (if G.length < G.length then _ else _) = cA; rw [if_neg (Nat.lt_irrefl _), if_pos rfl]
  have har : ∀ i, ad' (G.length + 1 + i) = r i := fun i => by
    show (if G.length + 1 + i < G.length then _ else if G.length + 1 + i = G.length then _ else _) = r i
    rw [if_neg (by omega), if_neg (by omega)]
    congr 1
    omega
  have hcr : ∀ i, ca' (G.length + 1 + i) = cy := fun i => by
    show (if G.length + 1 + i < G.length then _ else if G.length + 1 + i = G.length then _ else _) = cy
    rw [if_neg (by omega), if_neg (by omega)]
  have hlen0 : (zrowsN (G.length + 1) v1.2).length = v1.2 := by rw [zrowsN_eq]; simp
  have hE0 : zE (zxr X) ad' ca' (zxb X) (zxt X) G.length (Nat.succ (zx x 1), 0, zrowsN (G.length + 1) v1.2) = .inl (cA, v1.2, .inr (.inr (.inr (.inr (fun i => if i < v1.2 then some (r i) else none))))) := by
    show Sum.inl (ca' G.length, zC (zxr X) ad' (zxb X) (zxt X) (zx x 1) (zrowsN (G.length + 1) v1.2)) = _
    rw [hcq]
    obtain ⟨t5, ht5⟩ : ∃ t5, zx x 1 = t5 + 5 := ⟨zx x 1 - 5, by omega⟩
    rw [ht5]
    show Sum.inl (cA, (zrowsN (G.length + 1) v1.2).length, Sum.inr (Sum.inr (Sum.inr (Sum.inr fun j => zR ad' (zxb X) (zxt X) ((zrowsN (G.length + 1) v1.2).getD j (2, 0)))))) = _
    rw [hlen0]
    congr 6
    refine congrArg Sum.inr ?_
    funext j
    rw [zrowsN_eq, List.getD_eq_getElem?_getD, List.getElem?_map]
    by_cases hj : j < v1.2
    · rw [List.getElem?_range hj, if_pos hj]
      show some (ad' (G.length + 1 + j)) = some (r j)
      rw [har]
    · rw [if_neg hj, List.getElem?_eq_none (by simpa using Nat.le_of_not_lt hj)]
      rfl
  have hE1 : ∀ i, i < v1.2 → zE (zxr X) ad' ca' (zxb X) (zxt X) (G.length + 1 + i) (Nat.succ (zx x 2), 0, List.replicate v2.2 (zadf (zx x 2))) = .inl (cy, zC (zxr X) ad (zxb X) (zxt X) (zx x 2) (List.replicate v2.2 (zadf (zx x 2)))) := fun i _ => by
    have h1 := zE_congr (ρ := zxr X) (ad := ad) (ad' := ad') (ca := fun _ => cy) (ca' := ca') (b := zxb X) (td := zxt X) (n := 0) (p := G.length + 1 + i) (c := (Nat.succ (zx x 2), 0, List.replicate v2.2 (zadf (zx x 2)))) (fun v hv => by
      rw [List.eq_of_mem_replicate hv]
      refine zok_no3 ?_
      cases hq : Nat.beq (zadf (zx x 2)).1 3 with
      | true => exact absurd (Nat.eq_of_beq_eq_true hq) (zadf_3 _)
      | false => rfl) (fun k h => absurd h (Nat.not_lt_zero k)) (hcr i)
    rw [h1]
    rfl
  have hWn : zW (zxr X) ad' ca' (zxb X) (zxt X) G.length ((Nat.succ (zx x 1), 0, zrowsN (G.length + 1) v1.2) :: List.replicate v1.2 (Nat.succ (zx x 2), 0, List.replicate v2.2 (zadf (zx x 2)))) = (q, .inl (cA, v1.2, .inr (.inr (.inr (.inr (fun i => if i < v1.2 then some (r i) else none)))))) :: (List.range v1.2).map fun i => (r i, .inl (cy, zC (zxr X) ad (zxb X) (zxt X) (zx x 2) (List.replicate v2.2 (zadf (zx x 2))))) := by
    show (ad' G.length, _) :: zW (zxr X) ad' ca' (zxb X) (zxt X) (G.length + 1) _ = _
    rw [hE0, haq, zW_rep (cy := cy) v1.2 (G.length + 1) hE1]
    congr 1
    apply List.map_congr_left
    intro i _
    rw [har]
  have hpl : ∀ e : va_E, va_pl ([] ++ (List.range v1.2).map r) (vr_up (fun _ => (.inr (0, []) : va_E)) ((List.range v1.2).map r) e) = (List.range v1.2).map fun i => (r i, e) := fun e => by
    rw [List.nil_append]
    unfold va_pl
    rw [List.map_map]
    apply List.map_congr_left
    intro i hi
    show (r i, vr_up _ _ e (r i)) = (r i, e)
    rw [vr_up_in (List.mem_map.mpr ⟨i, hi, rfl⟩)]
  rw [hpl, List.append_assoc, List.singleton_append] at hP1 hD1
  rw [← hWn] at hP1 hD1
  have hS9 := hgo ad' ca' (tys ++ ([(cy, zT (zx x 2))] ++ [(cA, .array (zT (zx x 2)))])) H1 locs ls ⟨by
      show lv_has ls (zm_L M) (L.map _)
      rw [zLc hc3 ha]
      exact hR.1, zHp_app hR.2.1 (by rw [← List.append_assoc]; exact hK1) ha hca (fun c' hc' v' hv' => ?_) (fun k t ci vs hk => ?_) hP1 hD1, hS1, by
      show n0 ≤ (G ++ _).length
      rw [List.length_append]
      exact Nat.le_trans hR.2.2.2.1 (Nat.le_add_right _ _), fun k hk => by rw [ha k (Nat.lt_of_lt_of_le hk hR.2.2.2.1)]; exact hR.2.2.2.2 k hk⟩
  · simp only [List.map_cons] at hS9
    rw [zSc hc4 ha] at hS9
    rw [show zV (zxr X) ad' (zxb X) (zxt X) (3, G.length) = .ref q from congrArg Value.ref haq] at hS9
    exact hS9
  · rw [List.length_cons, List.length_replicate]
    rcases List.mem_cons.mp hc' with h | h
    · subst h
      have hv' : v' ∈ zrowsN (G.length + 1) v1.2 := hv'
      rw [zrowsN_eq] at hv'
      obtain ⟨i, hi, rfl⟩ := List.mem_map.mp hv'
      have hi : i < v1.2 := List.mem_range.mp hi
      have : G.length + 1 + i < G.length + (v1.2 + 1) := by omega
      simp [zok, this]
    · rw [List.eq_of_mem_replicate h] at hv'
      have hv' : v' ∈ List.replicate v2.2 (zadf (zx x 2)) := hv'
      rw [List.eq_of_mem_replicate hv']
      refine zok_no3 ?_
      cases hq : Nat.beq (zadf (zx x 2)).1 3 with
      | true => exact absurd (Nat.eq_of_beq_eq_true hq) (zadf_3 _)
      | false => rfl
  · cases k with
    | zero =>
      have hk : (Nat.succ (zx x 1), 0, zrowsN (G.length + 1) v1.2) = (Nat.succ t, ci, vs) := by simpa using hk
      have h1 : zx x 1 = t := Nat.succ.inj (congrArg Prod.fst hk)
      rw [← h1, hty, Nat.add_zero, hcq]
      exact ⟨tys.length + 1, by rw [List.getElem?_append_right (by omega)]; simp⟩
    | succ k =>
      have hk : (List.replicate v1.2 (Nat.succ (zx x 2), 0, List.replicate v2.2 (zadf (zx x 2))))[k]? = some (Nat.succ t, ci, vs) := by simpa using hk
      have hk2 := List.eq_of_mem_replicate (List.mem_of_getElem? hk)
      have h1 : t = zx x 2 := Nat.succ.inj (congrArg Prod.fst hk2)
      rw [h1, show G.length + (k + 1) = G.length + 1 + k by omega, hcr]
      exact ⟨tys.length, by rw [List.getElem?_append_right (by omega)]; simp⟩
def zo_mmax : zSem := fun x M ev st k => match st with
  | (pc, L, stk, G, cu, su) => match stk with
    | v2 :: rest1 => match rest1 with
      | v1 :: rest => cond (Nat.beq v1.1 0 && (Nat.beq v2.1 0 && (Nat.blt v1.2 2147483648 && (Nat.blt v2.2 2147483648 && (Nat.ble 1 (zm_rm M).1 && (Nat.ble (zcats rest + 13) (zm_rm M).2.2.2 && (Nat.ble cu (zm_rm M).2.1 && Nat.ble su (zm_rm M).2.2.1))))))) (cond (Nat.ble v1.2 v2.2) (znx pc 3 L (v2 :: rest) G cu su k) (znx pc 3 L (v1 :: rest) G cu su k)) none
      | [] => none
    | [] => none
theorem zs_mmax : zSnd (fun _ x => .invokestatic (zx x 0)) 3 (fun M x => hasW (zx x 1) (.methodLink (zm_y M).cls (zx x 0) Lib.Math.max.name) && (hasW (zx x 2) (.static Lib.Math.max.name) && (hasW (zx x 3) (.initialized "java/lang/Math") && hasW (zx x 4) (.code Lib.Math.max.name Lib.Math.max.code 2 (some .int))))) zo_mmax := by
  intro p l e R s m args below meth c Q M ev X n0 ad0 cx x pc L stk G cu su k r hd hf hs
  have hx := cx.1
  have hb := cx.2.1
  have hown := cx.2.2.2.1
  have hts := cx.2.2.2.2.1
  have hRm := cx.2.2.2.2.2.1
  have hbase := cx.2.2.2.2.2.2.1
  dsimp only [zo_mmax] at hs
  cases stk with
  | nil => cases hs
  | cons v2 rest1 =>
  cases rest1 with
  | nil => cases hs
  | cons v1 rest =>
  have hc := (zc hs).1
  have hs := (zc hs).2
  simp only [Bool.and_eq_true] at hc hf
  obtain ⟨hv1, hv2, hn1, hn2, hfr, hlo, hcu, hsu⟩ := hc
  obtain ⟨hf1, hf2, hf3, hf4⟩ := hf
  have hn1 : v1.2 < 2147483648 := by simpa using hn1
  have hn2 : v2.2 < 2147483648 := by simpa using hn2
  subst hRm
  cases hle : Nat.ble v1.2 v2.2 with
  | true =>
    rw [hle] at hs
    have hle : v1.2 ≤ v2.2 := by simpa using hle
    refine ⟨_, znx_eq hs, fun hgo => ?_⟩
    intro ad ca tys H locs ls hR
    have H1 := hgo ad ca tys H locs ls hR
    simp only [List.map_cons] at H1 ⊢
    rw [zV_0 hv2] at H1 ⊢
    rw [zV_0 hv1]
    refine va_mmax hx hb (cx.2.2.1.trans hR.1.1.symm) hown (zw (M := M) hts hf1) (zw (M := M) hts hf2) (zw (M := M) hts hf3) (zw (M := M) hts hf4) (show 1 ≤ (zm_rm M).1 by simpa using hfr) (by rw [zcats_eq]; show zcats rest + 13 ≤ (zm_rm M).2.2.2; simpa using hlo) (show cu ≤ (zm_rm M).2.1 by simpa using hcu) (show su ≤ (zm_rm M).2.2.1 by simpa using hsu) hd ?_
    have e : (if nI v1.2 < nI v2.2 then nI v2.2 else nI v1.2) = nI v2.2 := by
      by_cases h : v1.2 = v2.2
      · rw [h]; simp
      · rw [if_pos (nI_lt (by omega) hn2)]
    rw [e]
    exact H1
  | false =>
    rw [hle] at hs
    have hle : v2.2 < v1.2 := Nat.lt_of_not_le fun h => by rw [Nat.ble_eq_true_of_le h] at hle; cases hle
    refine ⟨_, znx_eq hs, fun hgo => ?_⟩
    intro ad ca tys H locs ls hR
    have H1 := hgo ad ca tys H locs ls hR
    simp only [List.map_cons] at H1 ⊢
    rw [zV_0 hv1] at H1 ⊢
    rw [zV_0 hv2]
    refine va_mmax hx hb (cx.2.2.1.trans hR.1.1.symm) hown (zw (M := M) hts hf1) (zw (M := M) hts hf2) (zw (M := M) hts hf3) (zw (M := M) hts hf4) (show 1 ≤ (zm_rm M).1 by simpa using hfr) (by rw [zcats_eq]; show zcats rest + 13 ≤ (zm_rm M).2.2.2; simpa using hlo) (show cu ≤ (zm_rm M).2.1 by simpa using hcu) (show su ≤ (zm_rm M).2.2.1 by simpa using hsu) hd ?_
    have e : (if nI v1.2 < nI v2.2 then nI v2.2 else nI v1.2) = nI v1.2 := by
      rw [if_neg (nI_nlt (by omega) hn1)]
    rw [e]
    exact H1
def zo_tsw : zSem := fun x M ev st k => match st with
  | (pc, L, stk, G, cu, su) => match stk with
    | v :: rest => cond (Nat.beq v.1 0 && Nat.blt v.2 2147483648) (match zat x (v.2 + 1) with
      | some t => zN t fun t' => k (t', L, rest, G, cu, su)
      | none => zN (zx x 0) fun t' => k (t', L, rest, G, cu, su)) none
    | [] => none
theorem zs_tsw (len : Nat) : zSnd (fun pc x => .tableswitch ((zx x 0 : Int) - (pc : Int)) 0 ((x.length : Int) - 2) (((x.drop 1).map fun (t : Nat) => (t : Int) - (pc : Int)).toArray)) len (fun _ x => Nat.blt 1 x.length) zo_tsw := by
  intro p l e R s m args below meth c Q M ev X n0 ad0 cx x pc L stk G cu su k r hd hf hs
  have hx := cx.1
  have hb := cx.2.1
  have hown := cx.2.2.2.1
  have hts := cx.2.2.2.2.1
  have hRm := cx.2.2.2.2.2.1
  have hbase := cx.2.2.2.2.2.2.1
  dsimp only [zo_tsw] at hs
  cases stk with
  | nil => cases hs
  | cons v rest =>
  have hc := (zc hs).1
  have hs := (zc hs).2
  simp only [Bool.and_eq_true] at hc
  obtain ⟨hv, hn⟩ := hc
  have hn : v.2 < 2147483648 := by simpa using hn
  have hl : 1 < x.length := by simpa using hf
  have hi : (nI v.2).toInt = (v.2 : Int) := nI_toInt hn
  cases ht : zat x (v.2 + 1) with
  | some t =>
    rw [ht] at hs
    simp only [zN_eq] at hs
    have hlt := zat_lt ht
    refine ⟨_, hs, fun hgo => ?_⟩
    intro ad ca tys H locs ls hR
    have H1 := hgo ad ca tys H locs ls hR
    simp only [List.map_cons] at H1 ⊢
    rw [zV_0 hv]
    refine lv_tableIn (off := (t : Int) - (pc : Int)) (tgt := t) hx hb hd (by rw [hi]; omega) (by rw [hi]; omega) ?_ (by omega) H1
    rw [hi]
    have e : ((v.2 : Int) - 0).toNat = v.2 := by omega
    rw [e, List.getElem?_toArray, List.getElem?_map, List.getElem?_drop, Nat.add_comm, zat_some ht]
    rfl
  | none =>
    rw [ht] at hs
    simp only [zN_eq] at hs
    have hge : x.length ≤ v.2 + 1 := by
      rw [zat_eq] at ht
      exact List.getElem?_eq_none_iff.mp ht
    refine ⟨_, hs, fun hgo => ?_⟩
    intro ad ca tys H locs ls hR
    have H1 := hgo ad ca tys H locs ls hR
    simp only [List.map_cons] at H1 ⊢
    rw [zV_0 hv]
    exact lv_tableOut (tgt := zx x 0) hx hb hd (Or.inr (by rw [hi]; omega)) (by omega) H1
