/-! ARRAYS, statics, Object's constructor -/
def zaty (t : Nat) : ArrayType := match t with
  | 0 => .int
  | 1 => .boolean
  | 2 => .long
  | 3 => .char
  | _ => .double
def zadf (t : Nat) : zAV := match t with
  | 2 => (4, 0)
  | 4 => (6, 0)
  | 0 => (0, 0)
  | 1 => (0, 0)
  | 3 => (0, 0)
  | _ => (2, 0)
theorem zadf_3 (t : Nat) : (zadf t).1 ≠ 3 := by
  match t with
  | 0 => intro h; cases h
  | 1 => intro h; cases h
  | 2 => intro h; cases h
  | 3 => intro h; cases h
  | 4 => intro h; cases h
  | t + 5 => intro h; cases h
theorem zrep {d : zAV} {n j : Nat} : (List.replicate n d).getD j d = d := by
  rw [List.getD_eq_getElem?_getD, List.getElem?_replicate]
  by_cases h : j < n <;> simp [h]
theorem zC_rep {ρ : Nat → Int32} {ad : Nat → Nat} {b td t n : Nat} (cA : ClassId) : vp_cell cA (zC ρ ad b td t (List.replicate n (zadf t))) = arrV cA n (fun _ => defaultValue (zT t)) := by
  match t with
  | 0 => simp only [zC, vp_cell, zadf, zrep, List.length_replicate]; rfl
  | 1 => simp only [zC, vp_cell, zadf, zrep, List.length_replicate]; rfl
  | 2 => simp only [zC, vp_cell, zadf, zrep, List.length_replicate]; rfl
  | 3 => simp only [zC, vp_cell, zadf, zrep, List.length_replicate]; rfl
  | 4 => simp only [zC, vp_cell, zadf, zrep, List.length_replicate]; rfl
  | 5 => simp only [zC, vp_cell, zadf, zrep, List.length_replicate]; rfl
  | 6 => simp only [zC, vp_cell, zadf, zrep, List.length_replicate]; rfl
  | 7 => simp only [zC, vp_cell, zadf, zrep, List.length_replicate]; rfl
  | 8 => simp only [zC, vp_cell, zadf, zrep, List.length_replicate]; rfl
  | t + 9 => simp only [zC, vp_cell, zadf, zrep, List.length_replicate]; rfl
theorem zcb (t : Nat) : componentBytes (zT t) ≤ 8 := by
  match t with
  | 0 => decide
  | 1 => decide
  | 2 => decide
  | 3 => decide
  | 4 => decide
  | 5 => decide
  | 6 => decide
  | 7 => decide
  | 8 => decide
  | t + 9 => exact (by decide : componentBytes (.object "FormRiverModel$Submission") ≤ 8)
theorem ztyo (t : Nat) (h : t ≤ 4) : newarray.typeOf (zaty t) = zT t := by
  match t with
  | 0 => rfl
  | 1 => rfl
  | 2 => rfl
  | 3 => rfl
  | 4 => rfl
  | t + 5 => omega
def zo_newarray : zSem := fun x M ev st k => match st with
  | (pc, L, stk, G, cu, su) => match stk with
    | v :: rest => cond (Nat.beq v.1 0 && (Nat.ble v.2 65536 && (Nat.ble (zx x 0) 4 && (Nat.blt cu (zm_rm M).2.1 && (Nat.ble (su + v.2) (zm_rm M).2.2.1 && (zokL G.length L && zokA G.length rest)))))) (zN G.length fun n => zapp G [(Nat.succ (zx x 0), 0, List.replicate v.2 (zadf (zx x 0)))] fun G' => zN (cu + 1) fun cu' => zN (su + v.2) fun su' => znx pc 2 L ((3, n) :: rest) G' cu' su' k) none
    | [] => none
theorem zs_newarray : zSnd (fun _ x => .newarray (zaty (zx x 0))) 2 (fun _ x => hasW (zx x 1) (.arrayClass (zT (zx x 0)))) zo_newarray := by
  intro p l e R s m args below meth c Q M ev X n0 ad0 cx x pc L stk G cu su k r hd hf hs
  have hx := cx.1
  have hb := cx.2.1
  have hown := cx.2.2.2.1
  have hts := cx.2.2.2.2.1
  have hRm := cx.2.2.2.2.2.1
  have hbase := cx.2.2.2.2.2.2.1
  dsimp only [zo_newarray] at hs
  cases stk with
  | nil => cases hs
  | cons v rest =>
  have hc := (zc hs).1
  have hs := (zc hs).2
  simp only [zN_eq, zapp_eq] at hs
  simp only [Bool.and_eq_true] at hc
  obtain ⟨hv, hn, ht4, hc1, hc2, hc3, hc4⟩ := hc
  have hn : v.2 ≤ 65536 := by simpa using hn
  have ht4 : zx x 0 ≤ 4 := by simpa using ht4
  have hcb := zcb (zx x 0)
  refine ⟨_, znx_eq hs, fun hgo => ?_⟩
  intro ad ca tys H locs ls hR
  subst hRm
  simp only [List.map_cons]
  rw [zV_0 hv]
  refine va_newa (ty := zT (zx x 0)) (a0 := zC (zxr X) ad (zxb X) (zxt X) (zx x 0) (List.replicate v.2 (zadf (zx x 0)))) (N' := v.2) hx hb (by rw [ztyo _ ht4]; exact zw (M := M) hts hf) (ztyo _ ht4) hR.2.1.1 hR.2.1.2.1 hR.2.1.2.2.1 hR.2.2.1 (fun q' h' => Nat.le_trans hbase h') (fun cA => zC_rep cA) (nI_pos (by omega)) (nI_clamp (by omega)) (Nat.le_trans (Nat.mul_le_mul hn hcb) (by decide)) (Nat.succ_le_of_lt (show cu < (zm_rm M).2.1 by simpa using hc1)) (show su + v.2 ≤ (zm_rm M).2.2.1 by simpa using hc2) hd (fun q1 cA H1 hK1 hP1 hD1 hS1 => ?_)
  have H9 := hgo _ _ _ H1 locs ls (zRp_push hR (c := (Nat.succ (zx x 0), 0, List.replicate v.2 (zadf (zx x 0)))) (q := q1) (cA := cA) (tys' := [(cA, zT (zx x 0))]) hc3 hK1 (fun v' hv' => by
    rw [List.eq_of_mem_replicate hv']
    exact zadf_3 _) (fun t ci vs h => by
    have h1 : zx x 0 = t := Nat.succ.inj (congrArg Prod.fst h)
    subst h1
    exact ⟨tys.length, by simp⟩) hP1 hD1 hS1)
  simp only [List.map_cons] at H9
  rw [zSc hc4 fun k hk => zup_lt k hk] at H9
  rw [show zV (zxr X) (zup ad G.length q1) (zxb X) (zxt X) (3, G.length) = .ref q1 from congrArg Value.ref zup_eq] at H9
  exact H9
def zcn (t : Nat) : String := match t with
  | 5 => "java/lang/Object"
  | 8 => "FormRiverModel$Version"
  | _ => "FormRiverModel$Submission"
def zo_anew : zSem := fun x M ev st k => match st with
  | (pc, L, stk, G, cu, su) => match stk with
    | v :: rest => cond (Nat.beq v.1 0 && (Nat.ble v.2 65536 && ((Nat.beq (zx x 1) 5 || (Nat.beq (zx x 1) 8 || Nat.beq (zx x 1) 9)) && (Nat.blt cu (zm_rm M).2.1 && (Nat.ble (su + v.2) (zm_rm M).2.2.1 && (zokL G.length L && zokA G.length rest)))))) (zN G.length fun n => zapp G [(Nat.succ (zx x 1), 0, List.replicate v.2 (2, 0))] fun G' => zN (cu + 1) fun cu' => zN (su + v.2) fun su' => znx pc 3 L ((3, n) :: rest) G' cu' su' k) none
    | [] => none
theorem zs_anew : zSnd (fun _ x => .anewarray (zx x 0)) 3 (fun M x => hasW (zx x 2) (.classLink (zm_y M).cls (zx x 0) (zcn (zx x 1)))) zo_anew := by
  intro p l e R s m args below meth c Q M ev X n0 ad0 cx x pc L stk G cu su k r hd hf hs
  have hx := cx.1
  have hb := cx.2.1
  have hown := cx.2.2.2.1
  have hts := cx.2.2.2.2.1
  have hRm := cx.2.2.2.2.2.1
  have hbase := cx.2.2.2.2.2.2.1
  dsimp only [zo_anew] at hs
  cases stk with
  | nil => cases hs
  | cons v rest =>
  have hc := (zc hs).1
  have hs := (zc hs).2
  simp only [zN_eq, zapp_eq] at hs
  simp only [Bool.and_eq_true] at hc
  obtain ⟨hv, hn, ht, hc1, hc2, hc3, hc4⟩ := hc
  have hn : v.2 ≤ 65536 := by simpa using hn
  have hAO := cx.2.2.2.2.2.2.2.2.2.2.2.2.1.1
  have ht : zT (zx x 1) = .object (zcn (zx x 1)) ∧ va_AO (zcn (zx x 1)) s ∧ (zC (zxr X) (fun _ => 0) (zxb X) (zxt X) (zx x 1) (List.replicate v.2 (2, 0))) = (v.2, .inr (.inr (.inr (.inr (fun _ => none))))) ∧ ∀ ad : Nat → Nat, (zC (zxr X) ad (zxb X) (zxt X) (zx x 1) (List.replicate v.2 (2, 0))) = (v.2, .inr (.inr (.inr (.inr (fun _ => none))))) := by
    simp only [Bool.or_eq_true] at ht
    have hr : ∀ (ad : Nat → Nat) (j : Nat), zR ad (zxb X) (zxt X) ((List.replicate v.2 ((2, 0) : zAV)).getD j (2, 0)) = none := fun ad j => by rw [zrep]; rfl
    rcases ht with h | h | h <;> (rw [Nat.eq_of_beq_eq_true h]; refine ⟨rfl, ?_, ?_, ?_⟩)
    · exact hAO (.arrayOver (.object "java/lang/Object")) (by decide +kernel)
    · simp only [zC, hr, List.length_replicate]
    · intro ad; simp only [zC, hr, List.length_replicate]
    · exact hAO (.arrayOver (.object "FormRiverModel$Version")) (by decide +kernel)
    · simp only [zC, hr, List.length_replicate]
    · intro ad; simp only [zC, hr, List.length_replicate]
    · exact hAO (.arrayOver (.object "FormRiverModel$Submission")) (by decide +kernel)
    · simp only [zC, hr, List.length_replicate]
    · intro ad; simp only [zC, hr, List.length_replicate]
  refine ⟨_, znx_eq hs, fun hgo => ?_⟩
  intro ad ca tys H locs ls hR
  subst hRm
  simp only [List.map_cons]
  rw [zV_0 hv]
  refine va_newq (C := zcn (zx x 1)) (N' := v.2) hx hb hown (zw (M := M) hts hf) ht.2.1 hR.2.1.1 hR.2.1.2.1 hR.2.1.2.2.1 hR.2.2.1 (fun q' h' => Nat.le_trans hbase h') (nI_pos (by omega)) (nI_clamp (by omega)) (by omega) (Nat.succ_le_of_lt (show cu < (zm_rm M).2.1 by simpa using hc1)) (show su + v.2 ≤ (zm_rm M).2.2.1 by simpa using hc2) hd (fun q1 cA H1 hK1 hP1 hD1 hS1 => ?_)
  rw [← ht.2.2.2 ad] at hP1 hD1
  have H9 := hgo _ _ _ H1 locs ls (zRp_push hR (c := (Nat.succ (zx x 1), 0, List.replicate v.2 (2, 0))) (q := q1) (cA := cA) (tys' := [(cA, .object (zcn (zx x 1)))]) hc3 hK1 (fun v' hv' => by
    rw [List.eq_of_mem_replicate hv']
    intro h
    cases h) (fun t ci vs h => by
    have h1 : zx x 1 = t := Nat.succ.inj (congrArg Prod.fst h)
    rw [← h1, ht.1]
    exact ⟨tys.length, by simp⟩) hP1 hD1 hS1)
  simp only [List.map_cons] at H9
  rw [zSc hc4 fun k hk => zup_lt k hk] at H9
  rw [show zV (zxr X) (zup ad G.length q1) (zxb X) (zxt X) (3, G.length) = .ref q1 from congrArg Value.ref zup_eq] at H9
  exact H9
def zo_alen : zSem := fun x M ev st k => match st with
  | (pc, L, stk, G, cu, su) => match stk with
    | v :: rest => cond (Nat.beq v.1 3) (zob (zat G v.2) fun c => cond (Nat.blt 0 c.1) (zN c.2.2.length fun n => znx pc 1 L ((0, n) :: rest) G cu su k) none) (cond (Nat.beq v.1 10) (znx pc 1 L ((0, 0) :: rest) G cu su k) (cond (Nat.beq v.1 8 && Nat.blt ev.2.2 8) (znx pc 1 L ((0, ev.2.2) :: rest) G cu su k) none))
    | [] => none
theorem zs_alen : zSnd (fun _ _ => .arraylength) 1 ztrue zo_alen := by
  intro p l e R s m args below meth c Q M ev X n0 ad0 cx x pc L stk G cu su k r hd hf hs
  have hx := cx.1
  have hb := cx.2.1
  have hown := cx.2.2.2.1
  have hts := cx.2.2.2.2.1
  have hRm := cx.2.2.2.2.2.1
  have hbase := cx.2.2.2.2.2.2.1
  dsimp only [zo_alen] at hs
  cases stk with
  | nil => cases hs
  | cons v rest =>
  dsimp only at hs
  cases hv : Nat.beq v.1 3 with
  | true =>
    rw [hv] at hs
    obtain ⟨⟨kd, ci, vs⟩, hc0, hs⟩ := zat_cases hs
    have hc := (zc hs).1
    have hs := (zc hs).2
    rw [zN_eq] at hs
    cases kd with
    | zero => simp at hc
    | succ t =>
    refine ⟨_, znx_eq hs, fun hgo => ?_⟩
    intro ad ca tys H locs ls hR
    have H1 := hgo ad ca tys H locs ls hR
    simp only [List.map_cons] at H1 ⊢
    rw [zV_3 hv]
    have hg := zW_get (ρ := zxr X) (ad := ad) (ca := ca) (b := zxb X) (td := zxt X) G 0 v.2 _ (zat_some hc0)
    rw [Nat.zero_add] at hg
    obtain ⟨t0, h0⟩ := hR.2.1.2.2.2.2 v.2 t ci vs (zat_some hc0)
    exact va_alen hx hb hR.2.1.1 hR.2.1.2.1 v.2 t0 hg h0 (v := nI vs.length) rfl hd H1
  | false =>
  rw [hv] at hs
  simp only [cond] at hs
  cases hv2 : Nat.beq v.1 10 with
  | true =>
    rw [hv2] at hs
    refine ⟨_, znx_eq hs, fun hgo => ?_⟩
    intro ad ca tys H locs ls hR
    have H1 := hgo ad ca tys H locs ls hR
    simp only [List.map_cons] at H1 ⊢
    rw [zV_10 hv2]
    obtain ⟨f, hT⟩ := cx.2.2.2.2.2.2.2.2.2.2.1.2.2.2.1
    exact va_tlen hx hb hT hR.2.2.1 (v := nI 0) rfl hd H1
  | false =>
    rw [hv2] at hs
    have hv3 := (zc hs).1
    have hs := (zc hs).2
    simp only [Bool.and_eq_true] at hv3
    obtain ⟨hv3, hL8⟩ := hv3
    have hLe := cx.2.2.2.2.2.2.2.1.2.2 (by simpa using hL8)
    refine ⟨_, znx_eq hs, fun hgo => ?_⟩
    intro ad ca tys H locs ls hR
    have H1 := hgo ad ca tys H locs ls hR
    simp only [List.map_cons] at H1 ⊢
    rw [zV_8 hv3]
    have hX := cx.2.2.2.2.2.2.2.2.2.2.1.2.2.2.2
    rw [← hLe] at hX
    exact va_slen hx hb hX.1 (Nat.lt_of_lt_of_le hX.2 hbase) (Nat.not_le.mpr hX.2) hR.2.2.1 hd H1
def zo_iaload : zSem := fun x M ev st k => match st with
  | (pc, L, stk, G, cu, su) => match stk with
    | i :: rest1 => match rest1 with
      | v :: rest => cond (Nat.beq i.1 0 && Nat.blt i.2 2147483648) (cond (Nat.beq v.1 3) (zob (zat G v.2) fun c => cond (Nat.beq c.1 1) (zob (zat c.2.2 i.2) fun u => cond (zisI u) (znx pc 1 L (u :: rest) G cu su k) none) none) (cond (Nat.beq v.1 8 && (Nat.blt i.2 ev.2.2 && Nat.blt ev.2.2 8)) (zob (zat ev.1 i.2) fun q => cond (Nat.beq q.1 q.2 && Nat.blt q.1 4294967296) (zN ((q.1 + 2147483648) % 4294967296) fun n => znx pc 1 L ((0, n) :: rest) G cu su k) (zN i.2 fun j => znx pc 1 L ((1, j) :: rest) G cu su k)) none)) none
      | [] => none
    | [] => none
theorem zs_iaload : zSnd (fun _ _ => .iaload) 1 ztrue zo_iaload := by
  intro p l e R s m args below meth c Q M ev X n0 ad0 cx x pc L stk G cu su k r hd hf hs
  have hx := cx.1
  have hb := cx.2.1
  have hown := cx.2.2.2.1
  have hts := cx.2.2.2.2.1
  have hRm := cx.2.2.2.2.2.1
  have hbase := cx.2.2.2.2.2.2.1
  dsimp only [zo_iaload] at hs
  cases stk with
  | nil => cases hs
  | cons i rest1 =>
  cases rest1 with
  | nil => cases hs
  | cons v rest =>
  have hi := (zc hs).1
  have hs := (zc hs).2
  simp only [Bool.and_eq_true] at hi
  obtain ⟨hi, hi2⟩ := hi
  have hi2 : i.2 < 2147483648 := by simpa using hi2
  cases hv : Nat.beq v.1 3 with
  | true =>
    rw [hv] at hs
    obtain ⟨⟨kd, ci, vs⟩, hc0, hs⟩ := zat_cases hs
    have hc := (zc hs).1
    obtain ⟨u, hu, hs⟩ := zat_cases (zc hs).2
    have hpu := (zc hs).1
    have hs := (zc hs).2
    refine ⟨_, znx_eq hs, fun hgo => ?_⟩
    intro ad ca tys H locs ls hR
    have H1 := hgo ad ca tys H locs ls hR
    simp only [List.map_cons] at H1 ⊢
    rw [zV_3 hv, zV_0 hi]
    have hg := zW_get (ρ := zxr X) (ad := ad) (ca := ca) (b := zxb X) (td := zxt X) G 0 v.2 _ (zat_some hc0)
    rw [Nat.zero_add] at hg
    have hin := zin (zat_lt hu) hi2
    have hcl : (nI i.2).toNatClampNeg = i.2 := nI_clamp hi2
    have hgd : vs.getD i.2 (0, 0) = u := by rw [List.getD_eq_getElem?_getD, zat_some hu]; rfl
    have hk : kd = 1 := Nat.eq_of_beq_eq_true hc
    subst hk
    obtain ⟨t0, h0⟩ := hR.2.1.2.2.2.2 v.2 0 ci vs (zat_some hc0)
    rw [zV_I hpu, ← hgd, ← hcl] at H1
    exact va_iald hx hb hR.2.1.1 hR.2.1.2.1 v.2 t0 hg h0 hin hd H1
  | false =>
    rw [hv] at hs
    have hc := (zc hs).1
    obtain ⟨q, hq, hs⟩ := zat_cases (zc hs).2
    simp only [zN_eq] at hs
    simp only [Bool.and_eq_true] at hc
    obtain ⟨hv8, hiL, hL8⟩ := hc
    have hiL : i.2 < ev.2.2 := by simpa using hiL
    have hLe := cx.2.2.2.2.2.2.2.1.2.2 (by simpa using hL8)
    have hX := cx.2.2.2.2.2.2.2.2.2.2.1.2.2.2.2
    rw [← hLe] at hX
    have hcl : (nI i.2).toNatClampNeg = i.2 := nI_clamp hi2
    cases hqq : (Nat.beq q.1 q.2 && Nat.blt q.1 4294967296) with
    | true =>
      rw [hqq] at hs
      simp only [Bool.and_eq_true] at hqq
      have hq1 : q.1 = q.2 := Nat.eq_of_beq_eq_true hqq.1
      have hq2 : q.1 < 4294967296 := by simpa using hqq.2
      have hrg := cx.2.2.2.2.2.2.2.1.1 i.2 q.1 q.2 (zat_some hq)
      have hval : zxr X i.2 = nI ((q.1 + 2147483648) % 4294967296) := by
        rw [zbi_eq, zbi_nI]
        unfold zbm
        omega
      refine ⟨_, znx_eq hs, fun hgo => ?_⟩
      intro ad ca tys H locs ls hR
      have H1 := hgo ad ca tys H locs ls hR
      simp only [List.map_cons] at H1 ⊢
      rw [zV_8 hv8, zV_0 hi]
      refine va_sld hx hb hX.1 (Nat.lt_of_lt_of_le hX.2 hbase) (Nat.not_le.mpr hX.2) hR.2.2.1 (zin hiL hi2) hd ?_
      rw [hcl, hval]
      exact H1
    | false =>
    rw [hqq] at hs
    refine ⟨_, znx_eq hs, fun hgo => ?_⟩
    intro ad ca tys H locs ls hR
    have H1 := hgo ad ca tys H locs ls hR
    simp only [List.map_cons] at H1 ⊢
    rw [zV_8 hv8, zV_0 hi]
    refine va_sld hx hb hX.1 (Nat.lt_of_lt_of_le hX.2 hbase) (Nat.not_le.mpr hX.2) hR.2.2.1 (zin hiL hi2) hd ?_
    rw [hcl]
    exact H1
def zo_zaload : zSem := fun x M ev st k => match st with
  | (pc, L, stk, G, cu, su) => match stk with
    | i :: rest1 => match rest1 with
      | v :: rest => cond (Nat.beq i.1 0 && Nat.blt i.2 2147483648) (cond (Nat.beq v.1 3) (zob (zat G v.2) fun c => cond (Nat.beq c.1 2) (zob (zat c.2.2 i.2) fun u => cond (zisI u) (znx pc 1 L (u :: rest) G cu su k) none) none) none) none
      | [] => none
    | [] => none
theorem zs_zaload : zSnd (fun _ _ => .baload) 1 ztrue zo_zaload := by
  intro p l e R s m args below meth c Q M ev X n0 ad0 cx x pc L stk G cu su k r hd hf hs
  have hx := cx.1
  have hb := cx.2.1
  have hown := cx.2.2.2.1
  have hts := cx.2.2.2.2.1
  have hRm := cx.2.2.2.2.2.1
  have hbase := cx.2.2.2.2.2.2.1
  dsimp only [zo_zaload] at hs
  cases stk with
  | nil => cases hs
  | cons i rest1 =>
  cases rest1 with
  | nil => cases hs
  | cons v rest =>
  have hi := (zc hs).1
  have hs := (zc hs).2
  simp only [Bool.and_eq_true] at hi
  obtain ⟨hi, hi2⟩ := hi
  have hi2 : i.2 < 2147483648 := by simpa using hi2
  have hv := (zc hs).1
  have hs := (zc hs).2
  have hvz : True := trivial
  obtain ⟨⟨kd, ci, vs⟩, hc0, hs⟩ := zat_cases hs
  have hc := (zc hs).1
  obtain ⟨u, hu, hs⟩ := zat_cases (zc hs).2
  have hpu := (zc hs).1
  have hs := (zc hs).2
  refine ⟨_, znx_eq hs, fun hgo => ?_⟩
  intro ad ca tys H locs ls hR
  have H1 := hgo ad ca tys H locs ls hR
  simp only [List.map_cons] at H1 ⊢
  rw [zV_3 hv, zV_0 hi]
  have hg := zW_get (ρ := zxr X) (ad := ad) (ca := ca) (b := zxb X) (td := zxt X) G 0 v.2 _ (zat_some hc0)
  rw [Nat.zero_add] at hg
  have hin := zin (zat_lt hu) hi2
  have hcl : (nI i.2).toNatClampNeg = i.2 := nI_clamp hi2
  have hgd : vs.getD i.2 (0, 0) = u := by rw [List.getD_eq_getElem?_getD, zat_some hu]; rfl
  have hk : kd = 2 := Nat.eq_of_beq_eq_true hc
  subst hk
  obtain ⟨t0, h0⟩ := hR.2.1.2.2.2.2 v.2 1 ci vs (zat_some hc0)
  rw [zV_I hpu, ← hgd, ← hcl] at H1
  exact va_zald hx hb hR.2.1.1 hR.2.1.2.1 v.2 t0 hg h0 hin hd H1
def zo_caload : zSem := fun x M ev st k => match st with
  | (pc, L, stk, G, cu, su) => match stk with
    | i :: rest1 => match rest1 with
      | v :: rest => cond (Nat.beq i.1 0 && Nat.blt i.2 2147483648) (cond (Nat.beq v.1 3) (zob (zat G v.2) fun c => cond (Nat.beq c.1 4) (zob (zat c.2.2 i.2) fun u => cond (zisI u) (znx pc 1 L (u :: rest) G cu su k) none) none) none) none
      | [] => none
    | [] => none
theorem zs_caload : zSnd (fun _ _ => .caload) 1 ztrue zo_caload := by
  intro p l e R s m args below meth c Q M ev X n0 ad0 cx x pc L stk G cu su k r hd hf hs
  have hx := cx.1
  have hb := cx.2.1
  have hown := cx.2.2.2.1
  have hts := cx.2.2.2.2.1
  have hRm := cx.2.2.2.2.2.1
  have hbase := cx.2.2.2.2.2.2.1
  dsimp only [zo_caload] at hs
  cases stk with
  | nil => cases hs
  | cons i rest1 =>
  cases rest1 with
  | nil => cases hs
  | cons v rest =>
  have hi := (zc hs).1
  have hs := (zc hs).2
  simp only [Bool.and_eq_true] at hi
  obtain ⟨hi, hi2⟩ := hi
  have hi2 : i.2 < 2147483648 := by simpa using hi2
  have hv := (zc hs).1
  have hs := (zc hs).2
  have hvz : True := trivial
  obtain ⟨⟨kd, ci, vs⟩, hc0, hs⟩ := zat_cases hs
  have hc := (zc hs).1
  obtain ⟨u, hu, hs⟩ := zat_cases (zc hs).2
  have hpu := (zc hs).1
  have hs := (zc hs).2
  refine ⟨_, znx_eq hs, fun hgo => ?_⟩
  intro ad ca tys H locs ls hR
  have H1 := hgo ad ca tys H locs ls hR
  simp only [List.map_cons] at H1 ⊢
  rw [zV_3 hv, zV_0 hi]
  have hg := zW_get (ρ := zxr X) (ad := ad) (ca := ca) (b := zxb X) (td := zxt X) G 0 v.2 _ (zat_some hc0)
  rw [Nat.zero_add] at hg
  have hin := zin (zat_lt hu) hi2
  have hcl : (nI i.2).toNatClampNeg = i.2 := nI_clamp hi2
  have hgd : vs.getD i.2 (0, 0) = u := by rw [List.getD_eq_getElem?_getD, zat_some hu]; rfl
  have hk : kd = 4 := Nat.eq_of_beq_eq_true hc
  subst hk
  obtain ⟨t0, h0⟩ := hR.2.1.2.2.2.2 v.2 3 ci vs (zat_some hc0)
  rw [zV_I hpu, ← hgd, ← hcl] at H1
  exact va_cald hx hb hR.2.1.1 hR.2.1.2.1 v.2 t0 hg h0 hin hd H1
def zo_laload : zSem := fun x M ev st k => match st with
  | (pc, L, stk, G, cu, su) => match stk with
    | i :: rest1 => match rest1 with
      | v :: rest => cond (Nat.beq i.1 0 && Nat.blt i.2 2147483648) (cond (Nat.beq v.1 3) (zob (zat G v.2) fun c => cond (Nat.beq c.1 3) (zob (zat c.2.2 i.2) fun u => cond (zisJ u) (znx pc 1 L (u :: rest) G cu su k) none) none) none) none
      | [] => none
    | [] => none
theorem zs_laload : zSnd (fun _ _ => .laload) 1 ztrue zo_laload := by
  intro p l e R s m args below meth c Q M ev X n0 ad0 cx x pc L stk G cu su k r hd hf hs
  have hx := cx.1
  have hb := cx.2.1
  have hown := cx.2.2.2.1
  have hts := cx.2.2.2.2.1
  have hRm := cx.2.2.2.2.2.1
  have hbase := cx.2.2.2.2.2.2.1
  dsimp only [zo_laload] at hs
  cases stk with
  | nil => cases hs
  | cons i rest1 =>
  cases rest1 with
  | nil => cases hs
  | cons v rest =>
  have hi := (zc hs).1
  have hs := (zc hs).2
  simp only [Bool.and_eq_true] at hi
  obtain ⟨hi, hi2⟩ := hi
  have hi2 : i.2 < 2147483648 := by simpa using hi2
  have hv := (zc hs).1
  have hs := (zc hs).2
  have hvz : True := trivial
  obtain ⟨⟨kd, ci, vs⟩, hc0, hs⟩ := zat_cases hs
  have hc := (zc hs).1
  obtain ⟨u, hu, hs⟩ := zat_cases (zc hs).2
  have hpu := (zc hs).1
  have hs := (zc hs).2
  refine ⟨_, znx_eq hs, fun hgo => ?_⟩
  intro ad ca tys H locs ls hR
  have H1 := hgo ad ca tys H locs ls hR
  simp only [List.map_cons] at H1 ⊢
  rw [zV_3 hv, zV_0 hi]
  have hg := zW_get (ρ := zxr X) (ad := ad) (ca := ca) (b := zxb X) (td := zxt X) G 0 v.2 _ (zat_some hc0)
  rw [Nat.zero_add] at hg
  have hin := zin (zat_lt hu) hi2
  have hcl : (nI i.2).toNatClampNeg = i.2 := nI_clamp hi2
  have hgd : vs.getD i.2 (4, 0) = u := by rw [List.getD_eq_getElem?_getD, zat_some hu]; rfl
  have hk : kd = 3 := Nat.eq_of_beq_eq_true hc
  subst hk
  obtain ⟨t0, h0⟩ := hR.2.1.2.2.2.2 v.2 2 ci vs (zat_some hc0)
  rw [zV_J hpu, ← hgd, ← hcl] at H1
  exact va_lald hx hb hR.2.1.1 hR.2.1.2.1 v.2 t0 hg h0 hin hd H1
def zo_aaload : zSem := fun x M ev st k => match st with
  | (pc, L, stk, G, cu, su) => match stk with
    | i :: rest1 => match rest1 with
      | v :: rest => cond (Nat.beq i.1 0 && Nat.blt i.2 2147483648) (cond (Nat.beq v.1 3) (zob (zat G v.2) fun c => cond (Nat.ble 6 c.1) (zob (zat c.2.2 i.2) fun u => cond (zisR u) (znx pc 1 L (u :: rest) G cu su k) none) none) none) none
      | [] => none
    | [] => none
theorem zs_aaload : zSnd (fun _ _ => .aaload) 1 ztrue zo_aaload := by
  intro p l e R s m args below meth c Q M ev X n0 ad0 cx x pc L stk G cu su k r hd hf hs
  have hx := cx.1
  have hb := cx.2.1
  have hown := cx.2.2.2.1
  have hts := cx.2.2.2.2.1
  have hRm := cx.2.2.2.2.2.1
  have hbase := cx.2.2.2.2.2.2.1
  dsimp only [zo_aaload] at hs
  cases stk with
  | nil => cases hs
  | cons i rest1 =>
  cases rest1 with
  | nil => cases hs
  | cons v rest =>
  have hi := (zc hs).1
  have hs := (zc hs).2
  simp only [Bool.and_eq_true] at hi
  obtain ⟨hi, hi2⟩ := hi
  have hi2 : i.2 < 2147483648 := by simpa using hi2
  have hv := (zc hs).1
  have hs := (zc hs).2
  have hvz : True := trivial
  obtain ⟨⟨kd, ci, vs⟩, hc0, hs⟩ := zat_cases hs
  have hc := (zc hs).1
  obtain ⟨u, hu, hs⟩ := zat_cases (zc hs).2
  have hpu := (zc hs).1
  have hs := (zc hs).2
  refine ⟨_, znx_eq hs, fun hgo => ?_⟩
  intro ad ca tys H locs ls hR
  have H1 := hgo ad ca tys H locs ls hR
  simp only [List.map_cons] at H1 ⊢
  rw [zV_3 hv, zV_0 hi]
  have hg := zW_get (ρ := zxr X) (ad := ad) (ca := ca) (b := zxb X) (td := zxt X) G 0 v.2 _ (zat_some hc0)
  rw [Nat.zero_add] at hg
  have hin := zin (zat_lt hu) hi2
  have hcl : (nI i.2).toNatClampNeg = i.2 := nI_clamp hi2
  have hgd : vs.getD i.2 (2, 0) = u := by rw [List.getD_eq_getElem?_getD, zat_some hu]; rfl
  have hk : 6 ≤ kd := by simpa using hc
  obtain ⟨t, rfl⟩ : ∃ t, kd = Nat.succ (t + 5) := ⟨kd - 6, by omega⟩
  obtain ⟨t0, h0⟩ := hR.2.1.2.2.2.2 v.2 (t + 5) ci vs (zat_some hc0)
  rw [zV_R hpu, ← hgd, ← hcl] at H1
  have hE : zE (zxr X) ad ca (zxb X) (zxt X) v.2 (Nat.succ (t + 5), ci, vs) = .inl (ca v.2, vs.length, .inr (.inr (.inr (.inr (fun j => zR ad (zxb X) (zxt X) (vs.getD j (2, 0))))))) := rfl
  rw [hE] at hg
  have hlt : (nI i.2).toNatClampNeg < vs.length := by rw [hcl]; exact zat_lt hu
  have hrf : (zT (t + 5)).isReference = true ∧ zT (t + 5) ≠ .int := by
    match t with
    | 0 => exact ⟨rfl, fun h => by cases h⟩
    | 1 => exact ⟨rfl, fun h => by cases h⟩
    | 2 => exact ⟨rfl, fun h => by cases h⟩
    | 3 => exact ⟨rfl, fun h => by cases h⟩
    | t + 4 => exact ⟨rfl, fun h => by cases h⟩
  exact W.aald (v := va_rf (zR ad (zxb X) (zxt X) (vs.getD (nI i.2).toNatClampNeg (2, 0)))) (ty := zT (t + 5)) hx hb (hR.2.1.2.1 v.2 _ hg) ((hR.2.1.1.2 t0 _ h0).1 vs.length (fun j => va_rf (zR ad (zxb X) (zxt X) (vs.getD j (2, 0))))) hrf.1 (fun q => by cases q) (by show ¬ (nI i.2 < 0 ∨ (arrV _ _ _).slots.size ≤ _); rw [arrV_size]; exact hin) (by show (arrV _ _ _).slots[_]? = _; rw [arrV_read _ _ hlt]) rfl rfl hd H1
theorem zC_upd {ρ : Nat → Int32} {vs : List zAV} {i : Nat} {u : zAV} (h : i < vs.length) : (fun j => zI ρ ((vs.set i u).getD j (0, 0))) = upd (fun j => zI ρ (vs.getD j (0, 0))) i (zI ρ u) := by
  funext j
  show zI ρ ((vs.set i u).getD j (0, 0)) = if j = i then zI ρ u else zI ρ (vs.getD j (0, 0))
  rw [List.getD_eq_getElem?_getD, List.getD_eq_getElem?_getD, List.getElem?_set]
  by_cases hj : i = j
  · subst hj; rw [if_pos rfl, if_pos h, if_pos rfl]; rfl
  · rw [if_neg hj, if_neg (fun q => hj q.symm)]
theorem zC_updJ {vs : List zAV} {i : Nat} {u : zAV} (h : i < vs.length) : (fun j => zJ ((vs.set i u).getD j (4, 0))) = vp_updL (fun j => zJ (vs.getD j (4, 0))) i (zJ u) := by
  funext j
  show zJ ((vs.set i u).getD j (4, 0)) = if j = i then zJ u else zJ (vs.getD j (4, 0))
  rw [List.getD_eq_getElem?_getD, List.getD_eq_getElem?_getD, List.getElem?_set]
  by_cases hj : i = j
  · subst hj; rw [if_pos rfl, if_pos h, if_pos rfl]; rfl
  · rw [if_neg hj, if_neg (fun q => hj q.symm)]
theorem zC_updR {ad : Nat → Nat} {b td : Nat} {vs : List zAV} {i : Nat} {u : zAV} (h : i < vs.length) : (fun j => zR ad b td ((vs.set i u).getD j (2, 0))) = va_up (fun j => zR ad b td (vs.getD j (2, 0))) i (zR ad b td u) := by
  funext j
  show zR ad b td ((vs.set i u).getD j (2, 0)) = if j = i then zR ad b td u else zR ad b td (vs.getD j (2, 0))
  rw [List.getD_eq_getElem?_getD, List.getD_eq_getElem?_getD, List.getElem?_set]
  by_cases hj : i = j
  · subst hj; rw [if_pos rfl, if_pos h, if_pos rfl]; rfl
  · rw [if_neg hj, if_neg (fun q => hj q.symm)]
theorem zok_no3 {n : Nat} {v : zAV} (h : Nat.beq v.1 3 = false) : zok n v = true := by
  unfold zok
  rw [h]
  rfl
theorem zI_no3 {v : zAV} (h : zisI v = true) : Nat.beq v.1 3 = false := by
  obtain ⟨t, n⟩ := v
  simp only [zisI, Bool.or_eq_true] at h
  rcases h with h | h | h <;> rw [Nat.eq_of_beq_eq_true h] <;> rfl
theorem zJ_no3 {v : zAV} (h : zisJ v = true) : Nat.beq v.1 3 = false := by
  obtain ⟨t, n⟩ := v
  rw [Nat.eq_of_beq_eq_true h]
  rfl
def zisB (v : zAV) : Bool := Nat.beq v.1 0 && Nat.ble v.2 1
theorem zb_I {v : zAV} (h : zisB v = true) : zisI v = true := by
  simp only [zisB, Bool.and_eq_true] at h
  simp [zisI, h.1]
theorem zb_nar {ρ : Nat → Int32} {v : zAV} (h : zisB v = true) : vp_nar .boolean (zI ρ v) = zI ρ v := by
  simp only [zisB, Bool.and_eq_true] at h
  have h2 : v.2 ≤ 1 := by simpa using h.2
  rw [zI_0 h.1]
  rcases (show v.2 = 0 ∨ v.2 = 1 by omega) with e | e <;> rw [e] <;> decide
def zo_iastore : zSem := fun x M ev st k => match st with
  | (pc, L, stk, G, cu, su) => match stk with
    | u :: rest2 => match rest2 with
      | i :: rest1 => match rest1 with
        | v :: rest => cond (Nat.beq i.1 0 && (Nat.blt i.2 2147483648 && Nat.beq v.1 3)) (zob (zat G v.2) fun c => cond (Nat.beq c.1 1 && (Nat.blt i.2 c.2.2.length && zisI u)) (zset c.2.2 i.2 u fun vs => zset G v.2 (c.1, c.2.1, vs) fun G' => znx pc 1 L rest G' cu su k) none) none
        | [] => none
      | [] => none
    | [] => none
theorem zs_iastore : zSnd (fun _ _ => .iastore) 1 (ztrue) zo_iastore := by
  intro p l e R s m args below meth c Q M ev X n0 ad0 cx x pc L stk G cu su k r hd hf hs
  have hx := cx.1
  have hb := cx.2.1
  have hown := cx.2.2.2.1
  have hts := cx.2.2.2.2.1
  have hRm := cx.2.2.2.2.2.1
  have hbase := cx.2.2.2.2.2.2.1
  dsimp only [zo_iastore] at hs
  cases stk with
  | nil => cases hs
  | cons u rest2 =>
  cases rest2 with
  | nil => cases hs
  | cons i rest1 =>
  cases rest1 with
  | nil => cases hs
  | cons v rest =>
  have hi := (zc hs).1
  obtain ⟨⟨kd, ci, vs⟩, hc0, hs⟩ := zat_cases (zc hs).2
  simp only [Bool.and_eq_true] at hi
  obtain ⟨hi, hi2, hv⟩ := hi
  have hi2 : i.2 < 2147483648 := by simpa using hi2
  have hc := (zc hs).1
  have hs := (zc hs).2
  rw [zset_eq, zset_eq] at hs
  simp only [Bool.and_eq_true] at hc
  obtain ⟨hk, hlen, hu⟩ := hc
  have hlen : i.2 < vs.length := by simpa using hlen
  refine ⟨_, znx_eq hs, fun hgo => ?_⟩
  intro ad ca tys H locs ls hR
  simp only [List.map_cons]
  have hg := zW_get (ρ := zxr X) (ad := ad) (ca := ca) (b := zxb X) (td := zxt X) G 0 v.2 _ (zat_some hc0)
  rw [Nat.zero_add] at hg
  have hin := zin hlen hi2
  have hcl : (nI i.2).toNatClampNeg = i.2 := nI_clamp hi2
  have hall : zok G.length u = true → ∀ v' ∈ vs.set i.2 u, zok G.length v' = true := fun h0 v' hv' => by
    rcases List.mem_or_eq_of_mem_set hv' with h2 | h2
    · exact hR.2.1.2.2.2.1 _ (List.mem_of_getElem? (zat_some hc0)) v' h2
    · rw [h2]; exact h0
  have hk : kd = 1 := Nat.eq_of_beq_eq_true hk
  subst hk
  obtain ⟨t0, h0⟩ := hR.2.1.2.2.2.2 v.2 0 ci vs (zat_some hc0)
  rw [zV_3 hv, zV_0 hi, zV_I hu]
  refine va_iast hx hb hR.2.1.1 hR.2.1.2.1 hR.2.1.2.2.1 hR.2.2.1 v.2 t0 hg h0 hin hd (fun H1 locs1 hP1 hD1 hS1 => ?_)
  refine hgo ad ca tys H1 locs1 ls ⟨hR.1, ?_, hS1, by rw [List.length_set]; exact hR.2.2.2.1, hR.2.2.2.2⟩
  rw [hcl, ← zC_upd hlen] at hP1 hD1
  have e : (Sum.inl (ca v.2, vs.length, Sum.inl fun j => zI (zxr X) ((vs.set i.2 u).getD j (0, 0))) : va_E) = zE (zxr X) ad ca (zxb X) (zxt X) v.2 (1, ci, vs.set i.2 u) := by
    show _ = Sum.inl (ca v.2, (vs.set i.2 u).length, _)
    rw [List.length_set]
    try rfl
  rw [e] at hP1 hD1
  exact zHp_set hR.2.1 hc0 rfl (hall (zok_no3 (zI_no3 hu))) hP1 hD1
def zo_zastore : zSem := fun x M ev st k => match st with
  | (pc, L, stk, G, cu, su) => match stk with
    | u :: rest2 => match rest2 with
      | i :: rest1 => match rest1 with
        | v :: rest => cond (Nat.beq i.1 0 && (Nat.blt i.2 2147483648 && Nat.beq v.1 3)) (zob (zat G v.2) fun c => cond (Nat.beq c.1 2 && (Nat.blt i.2 c.2.2.length && zisB u)) (zset c.2.2 i.2 u fun vs => zset G v.2 (c.1, c.2.1, vs) fun G' => znx pc 1 L rest G' cu su k) none) none
        | [] => none
      | [] => none
    | [] => none
theorem zs_zastore : zSnd (fun _ _ => .bastore) 1 (ztrue) zo_zastore := by
  intro p l e R s m args below meth c Q M ev X n0 ad0 cx x pc L stk G cu su k r hd hf hs
  have hx := cx.1
  have hb := cx.2.1
  have hown := cx.2.2.2.1
  have hts := cx.2.2.2.2.1
  have hRm := cx.2.2.2.2.2.1
  have hbase := cx.2.2.2.2.2.2.1
  dsimp only [zo_zastore] at hs
  cases stk with
  | nil => cases hs
  | cons u rest2 =>
  cases rest2 with
  | nil => cases hs
  | cons i rest1 =>
  cases rest1 with
  | nil => cases hs
  | cons v rest =>
  have hi := (zc hs).1
  obtain ⟨⟨kd, ci, vs⟩, hc0, hs⟩ := zat_cases (zc hs).2
  simp only [Bool.and_eq_true] at hi
  obtain ⟨hi, hi2, hv⟩ := hi
  have hi2 : i.2 < 2147483648 := by simpa using hi2
  have hc := (zc hs).1
  have hs := (zc hs).2
  rw [zset_eq, zset_eq] at hs
  simp only [Bool.and_eq_true] at hc
  obtain ⟨hk, hlen, hu⟩ := hc
  have hlen : i.2 < vs.length := by simpa using hlen
  refine ⟨_, znx_eq hs, fun hgo => ?_⟩
  intro ad ca tys H locs ls hR
  simp only [List.map_cons]
  have hg := zW_get (ρ := zxr X) (ad := ad) (ca := ca) (b := zxb X) (td := zxt X) G 0 v.2 _ (zat_some hc0)
  rw [Nat.zero_add] at hg
  have hin := zin hlen hi2
  have hcl : (nI i.2).toNatClampNeg = i.2 := nI_clamp hi2
  have hall : zok G.length u = true → ∀ v' ∈ vs.set i.2 u, zok G.length v' = true := fun h0 v' hv' => by
    rcases List.mem_or_eq_of_mem_set hv' with h2 | h2
    · exact hR.2.1.2.2.2.1 _ (List.mem_of_getElem? (zat_some hc0)) v' h2
    · rw [h2]; exact h0
  have hk : kd = 2 := Nat.eq_of_beq_eq_true hk
  subst hk
  obtain ⟨t0, h0⟩ := hR.2.1.2.2.2.2 v.2 1 ci vs (zat_some hc0)
  rw [zV_3 hv, zV_0 hi, zV_I (zb_I hu)]
  refine va_zast hx hb hR.2.1.1 hR.2.1.2.1 hR.2.1.2.2.1 hR.2.2.1 v.2 t0 hg h0 hin hd (fun H1 locs1 hP1 hD1 hS1 => ?_)
  refine hgo ad ca tys H1 locs1 ls ⟨hR.1, ?_, hS1, by rw [List.length_set]; exact hR.2.2.2.1, hR.2.2.2.2⟩
  rw [hcl, zb_nar hu, ← zC_upd hlen] at hP1 hD1
  have e : (Sum.inl (ca v.2, vs.length, Sum.inl fun j => zI (zxr X) ((vs.set i.2 u).getD j (0, 0))) : va_E) = zE (zxr X) ad ca (zxb X) (zxt X) v.2 (2, ci, vs.set i.2 u) := by
    show _ = Sum.inl (ca v.2, (vs.set i.2 u).length, _)
    rw [List.length_set]
    try rfl
  rw [e] at hP1 hD1
  exact zHp_set hR.2.1 hc0 rfl (hall (zok_no3 (zI_no3 (zb_I hu)))) hP1 hD1
def zo_lastore : zSem := fun x M ev st k => match st with
  | (pc, L, stk, G, cu, su) => match stk with
    | u :: rest2 => match rest2 with
      | i :: rest1 => match rest1 with
        | v :: rest => cond (Nat.beq i.1 0 && (Nat.blt i.2 2147483648 && Nat.beq v.1 3)) (zob (zat G v.2) fun c => cond (Nat.beq c.1 3 && (Nat.blt i.2 c.2.2.length && zisJ u)) (zset c.2.2 i.2 u fun vs => zset G v.2 (c.1, c.2.1, vs) fun G' => znx pc 1 L rest G' cu su k) none) none
        | [] => none
      | [] => none
    | [] => none
theorem zs_lastore : zSnd (fun _ _ => .lastore) 1 (ztrue) zo_lastore := by
  intro p l e R s m args below meth c Q M ev X n0 ad0 cx x pc L stk G cu su k r hd hf hs
  have hx := cx.1
  have hb := cx.2.1
  have hown := cx.2.2.2.1
  have hts := cx.2.2.2.2.1
  have hRm := cx.2.2.2.2.2.1
  have hbase := cx.2.2.2.2.2.2.1
  dsimp only [zo_lastore] at hs
  cases stk with
  | nil => cases hs
  | cons u rest2 =>
  cases rest2 with
  | nil => cases hs
  | cons i rest1 =>
  cases rest1 with
  | nil => cases hs
  | cons v rest =>
  have hi := (zc hs).1
  obtain ⟨⟨kd, ci, vs⟩, hc0, hs⟩ := zat_cases (zc hs).2
  simp only [Bool.and_eq_true] at hi
  obtain ⟨hi, hi2, hv⟩ := hi
  have hi2 : i.2 < 2147483648 := by simpa using hi2
  have hc := (zc hs).1
  have hs := (zc hs).2
  rw [zset_eq, zset_eq] at hs
  simp only [Bool.and_eq_true] at hc
  obtain ⟨hk, hlen, hu⟩ := hc
  have hlen : i.2 < vs.length := by simpa using hlen
  refine ⟨_, znx_eq hs, fun hgo => ?_⟩
  intro ad ca tys H locs ls hR
  simp only [List.map_cons]
  have hg := zW_get (ρ := zxr X) (ad := ad) (ca := ca) (b := zxb X) (td := zxt X) G 0 v.2 _ (zat_some hc0)
  rw [Nat.zero_add] at hg
  have hin := zin hlen hi2
  have hcl : (nI i.2).toNatClampNeg = i.2 := nI_clamp hi2
  have hall : zok G.length u = true → ∀ v' ∈ vs.set i.2 u, zok G.length v' = true := fun h0 v' hv' => by
    rcases List.mem_or_eq_of_mem_set hv' with h2 | h2
    · exact hR.2.1.2.2.2.1 _ (List.mem_of_getElem? (zat_some hc0)) v' h2
    · rw [h2]; exact h0
  have hk : kd = 3 := Nat.eq_of_beq_eq_true hk
  subst hk
  obtain ⟨t0, h0⟩ := hR.2.1.2.2.2.2 v.2 2 ci vs (zat_some hc0)
  rw [zV_3 hv, zV_0 hi, zV_J hu]
  refine va_last hx hb hR.2.1.1 hR.2.1.2.1 hR.2.1.2.2.1 hR.2.2.1 v.2 t0 hg h0 hin hd (fun H1 locs1 hP1 hD1 hS1 => ?_)
  refine hgo ad ca tys H1 locs1 ls ⟨hR.1, ?_, hS1, by rw [List.length_set]; exact hR.2.2.2.1, hR.2.2.2.2⟩
  rw [hcl, ← zC_updJ hlen] at hP1 hD1
  have e : (Sum.inl (ca v.2, vs.length, Sum.inr (Sum.inl fun j => zJ ((vs.set i.2 u).getD j (4, 0)))) : va_E) = zE (zxr X) ad ca (zxb X) (zxt X) v.2 (3, ci, vs.set i.2 u) := by
    show _ = Sum.inl (ca v.2, (vs.set i.2 u).length, _)
    rw [List.length_set]
    try rfl
  rw [e] at hP1 hD1
  exact zHp_set hR.2.1 hc0 rfl (hall (zok_no3 (zJ_no3 hu))) hP1 hD1
def zo_aastV : zSem := fun x M ev st k => match st with
  | (pc, L, stk, G, cu, su) => match stk with
    | u :: rest2 => match rest2 with
      | i :: rest1 => match rest1 with
        | v :: rest => cond (Nat.beq i.1 0 && (Nat.blt i.2 2147483648 && Nat.beq v.1 3)) (zob (zat G v.2) fun c => cond (Nat.beq c.1 9 && (Nat.blt i.2 c.2.2.length && (Nat.beq u.1 3 && (match zat G u.2 with | some c1 => Nat.beq c1.1 0 && Nat.beq c1.2.1 (zx x 0) | none => false)))) (zset c.2.2 i.2 u fun vs => zset G v.2 (c.1, c.2.1, vs) fun G' => znx pc 1 L rest G' cu su k) none) none
        | [] => none
      | [] => none
    | [] => none
theorem zs_aastV : zSnd (fun _ _ => .aastore) 1 (fun _ x => match zat vwCl (zx x 0) with | some q => decide (q.1 = "FormRiverModel$Version") | none => false) zo_aastV := by
  intro p l e R s m args below meth c Q M ev X n0 ad0 cx x pc L stk G cu su k r hd hf hs
  have hx := cx.1
  have hb := cx.2.1
  have hown := cx.2.2.2.1
  have hts := cx.2.2.2.2.1
  have hRm := cx.2.2.2.2.2.1
  have hbase := cx.2.2.2.2.2.2.1
  dsimp only [zo_aastV] at hs
  cases stk with
  | nil => cases hs
  | cons u rest2 =>
  cases rest2 with
  | nil => cases hs
  | cons i rest1 =>
  cases rest1 with
  | nil => cases hs
  | cons v rest =>
  have hi := (zc hs).1
  obtain ⟨⟨kd, ci, vs⟩, hc0, hs⟩ := zat_cases (zc hs).2
  simp only [Bool.and_eq_true] at hi
  obtain ⟨hi, hi2, hv⟩ := hi
  have hi2 : i.2 < 2147483648 := by simpa using hi2
  have hc := (zc hs).1
  have hs := (zc hs).2
  rw [zset_eq, zset_eq] at hs
  simp only [Bool.and_eq_true] at hc
  obtain ⟨hk, hlen, hu⟩ := hc
  have hlen : i.2 < vs.length := by simpa using hlen
  refine ⟨_, znx_eq hs, fun hgo => ?_⟩
  intro ad ca tys H locs ls hR
  simp only [List.map_cons]
  have hg := zW_get (ρ := zxr X) (ad := ad) (ca := ca) (b := zxb X) (td := zxt X) G 0 v.2 _ (zat_some hc0)
  rw [Nat.zero_add] at hg
  have hin := zin hlen hi2
  have hcl : (nI i.2).toNatClampNeg = i.2 := nI_clamp hi2
  have hall : zok G.length u = true → ∀ v' ∈ vs.set i.2 u, zok G.length v' = true := fun h0 v' hv' => by
    rcases List.mem_or_eq_of_mem_set hv' with h2 | h2
    · exact hR.2.1.2.2.2.1 _ (List.mem_of_getElem? (zat_some hc0)) v' h2
    · rw [h2]; exact h0
  have hk : kd = Nat.succ 8 := Nat.eq_of_beq_eq_true hk
  subst hk
  obtain ⟨hu3, hu⟩ := hu
  obtain ⟨t0, h0⟩ := hR.2.1.2.2.2.2 v.2 8 ci vs (zat_some hc0)
  cases hc1 : zat G u.2 with
  | none => rw [hc1] at hu; cases hu
  | some c1 =>
  rw [hc1] at hu
  have hcc := zcell0 hu
  dsimp only at hf
  cases hq : zat vwCl (zx x 0) with
  | none => rw [hq] at hf; cases hf
  | some q =>
  rw [hq] at hf
  have hqn : q.1 = "FormRiverModel$Version" := of_decide_eq_true hf
  have h0 : tys[t0]? = some (ca v.2, .object q.1) := by rw [hqn]; exact h0
  have hg1 := zW_get (ρ := zxr X) (ad := ad) (ca := ca) (b := zxb X) (td := zxt X) G 0 u.2 c1 (zat_some hc1)
  rw [Nat.zero_add, hcc] at hg1
  rw [zV_3 hv, zV_0 hi, zV_3 hu3]
  refine va_astq (r := q) hx hb hR.2.1.1 hR.2.1.2.1 hR.2.1.2.2.1 hR.2.2.1 v.2 t0 u.2 (zx x 0) hg h0 hg1 (zat_some hq) hin hd (fun H1 locs1 hP1 hD1 hS1 => ?_)
  refine hgo ad ca tys H1 locs1 ls ⟨hR.1, ?_, hS1, by rw [List.length_set]; exact hR.2.2.2.1, hR.2.2.2.2⟩
  have hzr : zR ad (zxb X) (zxt X) u = some (ad u.2) := by
    obtain ⟨ut, un⟩ := u
    cases Nat.eq_of_beq_eq_true hu3
    rfl
  have hup := zC_updR (ad := ad) (b := zxb X) (td := zxt X) (u := u) hlen
  rw [hzr] at hup
  rw [hcl] at hP1 hD1
  rw [← hup] at hP1 hD1
  have e : (Sum.inl (ca v.2, vs.length, Sum.inr (Sum.inr (Sum.inr (Sum.inr fun j => zR ad (zxb X) (zxt X) ((vs.set i.2 u).getD j (2, 0)))))) : va_E) = zE (zxr X) ad ca (zxb X) (zxt X) v.2 (Nat.succ 8, ci, vs.set i.2 u) := by
    show _ = Sum.inl (ca v.2, (vs.set i.2 u).length, _)
    rw [List.length_set]
    try rfl
  rw [e] at hP1 hD1
  refine zHp_set hR.2.1 hc0 rfl (hall ?_) hP1 hD1
  have hlt := zat_lt hc1
  simp [zok, hlt]
def zo_aastO : zSem := fun x M ev st k => match st with
  | (pc, L, stk, G, cu, su) => match stk with
    | u :: rest2 => match rest2 with
      | i :: rest1 => match rest1 with
        | v :: rest => cond (Nat.beq i.1 0 && (Nat.blt i.2 2147483648 && Nat.beq v.1 3)) (zob (zat G v.2) fun c => cond (Nat.beq c.1 6 && (Nat.blt i.2 c.2.2.length && (Nat.beq u.1 3 && (match zat G u.2 with | some c1 => Nat.beq c1.1 0 && x.any (fun ci => Nat.beq c1.2.1 ci) | none => false)))) (zset c.2.2 i.2 u fun vs => zset G v.2 (c.1, c.2.1, vs) fun G' => znx pc 1 L rest G' cu su k) none) none
        | [] => none
      | [] => none
    | [] => none
theorem zs_aastO : zSnd (fun _ _ => .aastore) 1 (fun _ x => x.all fun ci => match zat vwCl ci with | some q => decide (Cond.castable q.1 "java/lang/Object" ∈ zNws) | none => false) zo_aastO := by
  intro p l e R s m args below meth c Q M ev X n0 ad0 cx x pc L stk G cu su k r hd hf hs
  have hx := cx.1
  have hb := cx.2.1
  have hown := cx.2.2.2.1
  have hts := cx.2.2.2.2.1
  have hRm := cx.2.2.2.2.2.1
  have hbase := cx.2.2.2.2.2.2.1
  dsimp only [zo_aastO] at hs
  cases stk with
  | nil => cases hs
  | cons u rest2 =>
  cases rest2 with
  | nil => cases hs
  | cons i rest1 =>
  cases rest1 with
  | nil => cases hs
  | cons v rest =>
  have hi := (zc hs).1
  obtain ⟨⟨kd, ci, vs⟩, hc0, hs⟩ := zat_cases (zc hs).2
  simp only [Bool.and_eq_true] at hi
  obtain ⟨hi, hi2, hv⟩ := hi
  have hi2 : i.2 < 2147483648 := by simpa using hi2
  have hc := (zc hs).1
  have hs := (zc hs).2
  rw [zset_eq, zset_eq] at hs
  simp only [Bool.and_eq_true] at hc
  obtain ⟨hk, hlen, hu⟩ := hc
  have hlen : i.2 < vs.length := by simpa using hlen
  refine ⟨_, znx_eq hs, fun hgo => ?_⟩
  intro ad ca tys H locs ls hR
  simp only [List.map_cons]
  have hg := zW_get (ρ := zxr X) (ad := ad) (ca := ca) (b := zxb X) (td := zxt X) G 0 v.2 _ (zat_some hc0)
  rw [Nat.zero_add] at hg
  have hin := zin hlen hi2
  have hcl : (nI i.2).toNatClampNeg = i.2 := nI_clamp hi2
  have hall : zok G.length u = true → ∀ v' ∈ vs.set i.2 u, zok G.length v' = true := fun h0 v' hv' => by
    rcases List.mem_or_eq_of_mem_set hv' with h2 | h2
    · exact hR.2.1.2.2.2.1 _ (List.mem_of_getElem? (zat_some hc0)) v' h2
    · rw [h2]; exact h0
  have hk : kd = Nat.succ 5 := Nat.eq_of_beq_eq_true hk
  subst hk
  obtain ⟨hu3, hu⟩ := hu
  obtain ⟨t0, h0⟩ := hR.2.1.2.2.2.2 v.2 5 ci vs (zat_some hc0)
  cases hc1 : zat G u.2 with
  | none => rw [hc1] at hu; cases hu
  | some c1 =>
  rw [hc1] at hu
  simp only [Bool.and_eq_true] at hu
  obtain ⟨hu0, hua⟩ := hu
  have hcc := zcell0 (c := c1) (ci := c1.2.1) (by simp only [Bool.and_eq_true]; exact ⟨hu0, Nat.beq_refl _⟩)
  obtain ⟨ci1, hci, hcb⟩ := List.any_eq_true.mp hua
  have hci1 : c1.2.1 = ci1 := Nat.eq_of_beq_eq_true hcb
  have hf := List.all_eq_true.mp hf ci1 hci
  rw [← hci1] at hf
  cases hq : zat vwCl (c1.2.1) with
  | none => rw [hq] at hf; cases hf
  | some q =>
  rw [hq] at hf
  have hca : va_Nw (.castable q.1 "java/lang/Object") s := cx.2.2.2.2.2.2.2.2.2.2.2.2.1.1 _ (of_decide_eq_true hf)
  have hg1 := zW_get (ρ := zxr X) (ad := ad) (ca := ca) (b := zxb X) (td := zxt X) G 0 u.2 c1 (zat_some hc1)
  rw [Nat.zero_add, hcc] at hg1
  rw [zV_3 hv, zV_0 hi, zV_3 hu3]
  refine va_astqO (r := q) hx hb hR.2.1.1 hR.2.1.2.1 hR.2.1.2.2.1 hR.2.2.1 v.2 t0 u.2 c1.2.1 hg h0 hca hg1 (zat_some hq) hin hd (fun H1 locs1 hP1 hD1 hS1 => ?_)
  refine hgo ad ca tys H1 locs1 ls ⟨hR.1, ?_, hS1, by rw [List.length_set]; exact hR.2.2.2.1, hR.2.2.2.2⟩
  have hzr : zR ad (zxb X) (zxt X) u = some (ad u.2) := by
    obtain ⟨ut, un⟩ := u
    cases Nat.eq_of_beq_eq_true hu3
    rfl
  have hup := zC_updR (ad := ad) (b := zxb X) (td := zxt X) (u := u) hlen
  rw [hzr] at hup
  rw [hcl] at hP1 hD1
  rw [← hup] at hP1 hD1
  have e : (Sum.inl (ca v.2, vs.length, Sum.inr (Sum.inr (Sum.inr (Sum.inr fun j => zR ad (zxb X) (zxt X) ((vs.set i.2 u).getD j (2, 0)))))) : va_E) = zE (zxr X) ad ca (zxb X) (zxt X) v.2 (Nat.succ 5, ci, vs.set i.2 u) := by
    show _ = Sum.inl (ca v.2, (vs.set i.2 u).length, _)
    rw [List.length_set]
    try rfl
  rw [e] at hP1 hD1
  refine zHp_set hR.2.1 hc0 rfl (hall ?_) hP1 hD1
  have hlt := zat_lt hc1
  simp [zok, hlt]
def zo_gets : zSem := fun x M ev st k => match st with
  | (pc, L, stk, G, cu, su) => znx pc 3 L ((10, 0) :: stk) G cu su k
theorem zs_gets : zSnd (fun _ x => .getstatic (zx x 0)) 3 (fun M x => hasW (zx x 1) (.fieldLink (zm_y M).cls (zx x 0) "java/util/ArrayList" "DEFAULTCAPACITY_EMPTY_ELEMENTDATA" "[Ljava/lang/Object;")) zo_gets := by
  intro p l e R s m args below meth c Q M ev X n0 ad0 cx x pc L stk G cu su k r hd hf hs
  have hx := cx.1
  have hb := cx.2.1
  have hown := cx.2.2.2.1
  have hts := cx.2.2.2.2.1
  have hRm := cx.2.2.2.2.2.1
  have hbase := cx.2.2.2.2.2.2.1
  dsimp only [zo_gets] at hs
  refine ⟨_, znx_eq hs, fun hgo => ?_⟩
  intro ad ca tys H locs ls hR
  exact va_gets hx hb cx.2.2.2.2.2.2.2.2.2.2.1.2.2.1 hR.2.2.1 hown (zw (M := M) hts hf) (fun _ h => h) hd (hgo ad ca tys H locs ls hR)
def zcats (l : List zAV) : Nat := (l.map zcat).sum
theorem zcats_eq {ρ : Nat → Int32} {ad : Nat → Nat} {b td : Nat} (l : List zAV) : ((l.map (zV ρ ad b td)).map fun v => v.category).sum = zcats l := by
  unfold zcats
  rw [List.map_map]
  congr 1
  apply List.map_congr_left
  intro v _
  exact zV_cat v
def zo_objI : zSem := fun x M ev st k => match st with
  | (pc, L, stk, G, cu, su) => match stk with
    | v :: rest => cond (Nat.beq v.1 3 && (Nat.ble 1 (zm_rm M).1 && Nat.ble (zcats rest + 12) (zm_rm M).2.2.2)) (znx pc 3 L rest G cu su k) none
    | [] => none
theorem zs_objI : zSnd (fun _ x => .invokespecial (zx x 0)) 3 (fun M x => hasW (zx x 1) (.methodLink (zm_y M).cls (zx x 0) Lib.objectInit) && (hasW (zx x 2) (.instanceMethod Lib.objectInit) && hasW (zx x 3) (.code Lib.objectInit ⟨#[0xb1]⟩ 1 none))) zo_objI := by
  intro p l e R s m args below meth c Q M ev X n0 ad0 cx x pc L stk G cu su k r hd hf hs
  have hx := cx.1
  have hb := cx.2.1
  have hown := cx.2.2.2.1
  have hts := cx.2.2.2.2.1
  have hRm := cx.2.2.2.2.2.1
  have hbase := cx.2.2.2.2.2.2.1
  dsimp only [zo_objI] at hs
  cases stk with
  | nil => cases hs
  | cons v rest =>
  have hc := (zc hs).1
  have hs := (zc hs).2
  simp only [Bool.and_eq_true] at hc hf
  obtain ⟨hv, hfr, hlo⟩ := hc
  obtain ⟨hf1, hf2, hf3⟩ := hf
  refine ⟨_, znx_eq hs, fun hgo => ?_⟩
  intro ad ca tys H locs ls hR
  have H1 := hgo ad ca tys H locs ls hR
  subst hRm
  simp only [List.map_cons]
  rw [zV_3 hv]
  exact W.objInit hx hb hown (zw (M := M) hts hf1) (zw (M := M) hts hf2) (zw (M := M) hts hf3) (g := F0 m pc ls _) rfl (by show ls.size = _; rw [cx.2.2.1]; exact hR.1.1) rfl hd (show 1 ≤ (zm_rm M).1 by simpa using hfr) (by
    show 2 * 0 + _ + 12 ≤ (zm_rm M).2.2.2
    rw [zcats_eq]
    have : zcats rest + 12 ≤ (zm_rm M).2.2.2 := by simpa using hlo
    omega) H1
