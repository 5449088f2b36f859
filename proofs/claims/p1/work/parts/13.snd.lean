/-! THE RUN IS SOUND: the calls, and the whole -/
theorem zfit4_ok {M M' : zMeth} {R : Room} {cu su : Nat} (hR : R = zroom M) (h : zfit4 M M' cu su = true) : ((zroom M').frames + 1 ≤ R.frames ∧ 8 + (zm_L M' + 11) + (zroom M').locals ≤ R.locals) ∧ (cu + (zm_rm M').2.1 ≤ R.cells ∧ su + (zm_rm M').2.2.1 ≤ R.slots) := by
  subst hR
  simp only [zfit4, Bool.and_eq_true] at h
  obtain ⟨h1, h2, h3, h4⟩ := h
  exact ⟨⟨Nat.le_of_ble_eq_true h1, Nat.le_of_ble_eq_true h2⟩, ⟨Nat.le_of_ble_eq_true h3, Nat.le_of_ble_eq_true h4⟩⟩
theorem zdsc_ok {y : MethodName} {n : Nat} (h : zdsc y n = true) : y.cls ≠ "java/lang/invoke/MethodHandle" ∧ y.cls ≠ "java/lang/invoke/VarHandle" ∧ (parseMethodDescriptor y.desc).map (fun d => d.parameters.length) = some n := by
  simp only [zdsc, Bool.and_eq_true] at h
  exact ⟨of_decide_eq_true h.1, of_decide_eq_true h.2.1, of_decide_eq_true h.2.2⟩
/-- the callee's run at a call -/
theorem zcall_run {P : List zMeth} {ev : zEv} {X : zX} {l : Launch} {f : Nat} (IH : zSound P ev X l f) {M M' : zMeth} {p : Program} {e : Env} {R : Room} {s : State} {m : MethodId} {args : Array Value} {below : List Frame} {meth : Method} {c : Code} {x : List Nat} {pc cu su : Nat} {a rest : List zAV} {G : zH} {r : zRes}
    (cx : zCx p l R s m args meth c M ev X) (hM' : zat P (zx x 2) = some M') (hc' : zchk P M') (hi : zchkC P M pc x = true) (hlen : a.length = zx x 3 + zhasr (zx x 1)) (hrc : zrcv (zx x 1) (zx x 4) G a.reverse = true) (hf4 : zfit4 M M' cu su = true) (hcr : zcats rest ≤ 8) (hca : zcats a.reverse ≤ zm_L M')
    (hr : zrun P ev f M' (0, zargL 0 a.reverse, [], G, 0, 0) = some r) (h0 : r.1 = 0 → zretok (zm_rt M') r.2.2.2.2.1 = true ∧ r.2.2.2.2.2.2.1 ≤ (zm_rm M').2.1 ∧ r.2.2.2.2.2.2.2 ≤ (zm_rm M').2.2.1) (h4 : zx x 1 = 4 → r.1 = 0)
    {ad : Nat → Nat} {ca : Nat → ClassId} {tys : List (ClassId × FieldType)} {H : Heap} {locs : List Loc} {ls : Array Slot} {n0 : Nat} {ad0 : Nat → Nat} {L : zL} (hR : zRp X s (zm_L M) n0 ad0 L G ad ca tys H locs ls) :
    vx_Run p l e R s m args below meth c H locs cu su (zm_rm M').2.1 (zm_rm M').2.2.1 (F0 m pc ls ((a ++ rest).map (zV (zxr X) ad (zxb X) (zxt X)))) (rest.map (zV (zxr X) ad (zxb X) (zxt X))) (zQr X G.length ad r (a.reverse.map (zV (zxr X) ad (zxb X) (zxt X))).toArray) (zXr X G.length ad r) (fun q => zx0 X ≤ q) := by
  have hS5 : zS5 X ev s := ⟨cx.2.2.2.2.2.2.1, cx.2.2.2.2.2.2.2.2.2.2.1, cx.2.2.2.2.2.2.2.2.2.2.2.1, cx.2.2.2.2.2.2.2.2.2.2.2.2.1⟩
  have hev := cx.2.2.2.2.2.2.2.1
  have hl := cx.2.2.2.2.2.2.2.2.2.2.2.2.2.1
  have hts := cx.2.2.2.2.1
  have hAO := cx.2.2.2.2.2.2.2.2.2.2.2.2.1
  have hPc : ∀ U : State, U.heap = H → s.WarmedH U.vm → zPc X ev a.reverse G ad (a.reverse.map (zV (zxr X) ad (zxb X) (zxt X))).toArray U := fun U hU hW => ⟨rfl, ⟨ca, tys, by rw [hU]; exact zHp_to hR.2.1 hW.alike⟩, zS5_to hS5 hR.2.2.1 hU hW⟩
  have hF : CallFix p m c (zm_b M) (zm_L M) s args tblG (zm_y M).cls := ⟨cx.1, cx.2.1, cx.2.2.1, cx.2.2.2.1, hts⟩
  obtain ⟨hRr, hfc⟩ := zfit4_ok cx.2.2.2.2.2.1 hf4
  have hsz : ls.size = zm_L M := hR.1.1
  have hW8 : 2 * (F0 m pc ls ((a ++ rest).map (zV (zxr X) ad (zxb X) (zxt X)))).monitorRoom + ((rest.map (zV (zxr X) ad (zxb X) (zxt X))).map fun v => v.category).sum ≤ 8 := by
    show 2 * 0 + _ ≤ 8
    rw [zcats_eq]
    omega
  have hst : (a ++ rest).map (zV (zxr X) ad (zxb X) (zxt X)) = (a.reverse.map (zV (zxr X) ad (zxb X) (zxt X))).reverse ++ rest.map (zV (zxr X) ad (zxb X) (zxt X)) := by
    rw [List.map_append, List.map_reverse, List.reverse_reverse]
  generalize has : a.reverse = as at hrc hca hr hPc hst ⊢
  have hln : as.length = zx x 3 + zhasr (zx x 1) := by rw [← has, List.length_reverse]; exact hlen
  unfold zchkC at hi
  rw [hM'] at hi
  dsimp only at hi
  rw [Bool.and_eq_true, Bool.and_eq_true] at hi
  obtain ⟨hds, hini, hi⟩ := hi
  have hd3 := zdsc_ok hds
  have hini := zw (M := M) hts hini
  -- by the kind of the call
  generalize hk : zx x 1 = kd at hi hrc hln h4
  match kd, hi, hrc, hln, h4 with
  | 0, hi, hrc, hln, _ =>
    simp only [Bool.and_eq_true] at hi
    obtain ⟨g1, g2, g3, g4, g5, g6, g7⟩ := hi
    have hM := zmet IH hev hl hc' (List.isEmpty_iff.mp g7) hr hca h0 ad
    cases as with
    | nil => cases hrc
    | cons v0 As =>
    simp only [zrcv, Bool.and_eq_true] at hrc
    obtain ⟨hv3, hrc⟩ := hrc
    cases hc0 : zat G v0.2 with
    | none => rw [hc0] at hrc; cases hrc
    | some c0 =>
    rw [hc0] at hrc
    have hcc := zcell0 hrc
    cases hq : zat vwCl (zx x 4) with
    | none => rw [hq] at g6; cases g6
    | some q =>
    rw [hq] at g6
    have hqn : q.1 = (zm_y M').cls := of_decide_eq_true g6
    have hg := zW_get (ρ := zxr X) (ad := ad) (ca := ca) (b := zxb X) (td := zxt X) G 0 v0.2 c0 (zat_some hc0)
    rw [Nat.zero_add, hcc] at hg
    have hrv := va_recv hR.2.1.1 hR.2.1.2.1 (zat_some hq) hg
    rw [hqn] at hrv
    have hvv := zV_3 (ρ := zxr X) (ad := ad) (b := zxb X) (td := zxt X) hv3
    simp only [List.map_cons] at hPc hst ⊢
    rw [hvv] at hPc hst ⊢
    have hcw : CallW R s args (zm_y M).cls (zm_y M').cls (zx x 0) (zm_y M') (zm_b M') (zm_L M') (zm_ret M') (zws M') (zroom M') (zm_rm M').2.1 (zm_rm M').2.2.1 (zx x 3) :=
      ⟨callB_of (zx x 3) hts (zwsG (hasW_in g2)) rfl rfl rfl hini (zw (M := M) hts g3) hd3 hRr, zw (M := M) hts g4, zw (M := M) hts g5⟩
    exact vx_runV (As := As.map (zV (zxr X) ad (zxb X) (zxt X))) hF hM hcw ⟨zPc_blind, hrv, hPc⟩ rfl (by rw [List.length_map]; have : (v0 :: As).length = As.length + 1 := rfl; rw [this] at hln; have h1 : zhasr 0 = 1 := rfl; omega) hsz (by
      show (a ++ rest).map _ = _
      rw [hst, List.reverse_cons, List.append_assoc]
      rfl) hW8 (of_decide_eq_true g1) hfc
  | 1, hi, hrc, hln, _ =>
    simp only [Bool.and_eq_true] at hi
    obtain ⟨g1, g2, g3, g4, g7⟩ := hi
    have hM := zmet IH hev hl hc' (List.isEmpty_iff.mp g7) hr hca h0 ad
    exact vx_runS hF hM ⟨callB_of (zx x 3) hts (zwsG (hasW_in g2)) rfl rfl rfl hini (zw (M := M) hts g3) hd3 hRr, zw (M := M) hts g4⟩ ⟨zPc_blind, hPc⟩ rfl (by rw [List.length_map]; exact hln) hsz hst hW8 (of_decide_eq_true g1) hfc
  | 2, hi, hrc, hln, _ =>
    simp only [Bool.and_eq_true] at hi
    obtain ⟨g1, g2, g3, g4, g5, g6, g7⟩ := hi
    have hrn : zm_ret M' = none := of_decide_eq_true g3
    have hM := zmet IH hev hl hc' (List.isEmpty_iff.mp g7) hr hca h0 ad
    cases as with
    | nil => cases hrc
    | cons v0 As =>
    have hv3 : Nat.beq v0.1 3 = true := hrc
    have hvv := zV_3 (ρ := zxr X) (ad := ad) (b := zxb X) (td := zxt X) hv3
    simp only [List.map_cons] at hPc hst ⊢
    rw [hvv] at hPc hst ⊢
    have hcode : Cond.code (zm_y M') (zm_b M') (zm_L M') (zm_ret M') ∈ tblG := by rw [hrn]; exact hasW_in g2
    have hcb : CallB R s args (zm_y M).cls (zx x 0) (zm_y M') (zm_b M') (zm_L M') (zm_ret M') (zws M') (zroom M') (zm_rm M').2.1 (zm_rm M').2.2.1 (zx x 3) := callB_of (zx x 3) hts (zwsG hcode) rfl rfl rfl hini (zw (M := M) hts g4) hd3 hRr
    rw [hrn] at hcb
    exact vx_runI (As := As.map (zV (zxr X) ad (zxb X) (zxt X))) hF hM ⟨hcb, of_decide_eq_true g6, zw (M := M) hts g5⟩ ⟨zPc_blind, hPc⟩ rfl (by rw [List.length_map]; have : (v0 :: As).length = As.length + 1 := rfl; rw [this] at hln; have h1 : zhasr 2 = 1 := rfl; omega) hsz (by
      show (a ++ rest).map _ = _
      rw [hst, List.reverse_cons, List.append_assoc]
      rfl) hW8 (of_decide_eq_true g1) hfc
  | 3, hi, hrc, hln, _ =>
    simp only [Bool.and_eq_true] at hi
    obtain ⟨g1, g2, g3, g4, g5, g6, g7⟩ := hi
    have hrn : zm_ret M' = none := of_decide_eq_true g3
    have hM := zmet IH hev hl hc' (List.isEmpty_iff.mp g7) hr hca h0 ad
    cases as with
    | nil => cases hrc
    | cons v0 As =>
    have hv3 : Nat.beq v0.1 3 = true := hrc
    have hvv := zV_3 (ρ := zxr X) (ad := ad) (b := zxb X) (td := zxt X) hv3
    simp only [List.map_cons] at hPc hst ⊢
    rw [hvv] at hPc hst ⊢
    have hcode : Cond.code (zm_y M') (zm_b M') (zm_L M') (zm_ret M') ∈ tblG := by rw [hrn]; exact hasW_in g2
    have hcn : va_CN R s args (zm_y M).cls (zx x 0) (zm_y M') "FormRiverModel" (zm_b M') (zm_L M') (zm_ret M') (zws M') (zroom M') (zm_rm M').2.1 (zm_rm M').2.2.1 (zx x 3) := va_cnB (zx x 3) hts (zwsG hcode) rfl rfl rfl (hAO.1 _ (of_decide_eq_true g4)) hini hd3 hRr
    rw [hrn] at hcn
    exact vx_runIN (As := As.map (zV (zxr X) ad (zxb X) (zxt X))) hF hM ⟨hcn, of_decide_eq_true g6, zw (M := M) hts g5⟩ ⟨zPc_blind, hPc⟩ rfl (by rw [List.length_map]; have : (v0 :: As).length = As.length + 1 := rfl; rw [this] at hln; have h1 : zhasr 3 = 1 := rfl; omega) hsz (by
      show (a ++ rest).map _ = _
      rw [hst, List.reverse_cons, List.append_assoc]
      rfl) hW8 (of_decide_eq_true g1) hfc
  | 4, hi, hrc, hln, h4 =>
    simp only [Bool.and_eq_true] at hi
    obtain ⟨g1, g2, g3, g4⟩ := hi
    have hr0 := h4 rfl
    have hM := zmet4 IH hev hl hc' hr hca hr0 (h0 hr0) ad
    have hcw : vx_CSW R s args (zm_y M).cls (zx x 0) (zm_y M') (zm_b M') (zm_L M') (zm_ret M') (zh4 M') (zws4 M') (zroom M') (zm_rm M').2.1 (zm_rm M').2.2.1 (zx x 3) := by
      refine ⟨⟨rfl, rfl, hRr.1, hRr.2, pay_in hts (zws4G (hasW_in g2)), List.mem_cons_self⟩, zw (M := M) hts g2, hini, ⟨hd3.1, hd3.2.1⟩, fun sig h => ?_, zw (M := M) hts g3, zw (M := M) hts g4⟩
      have h2 := hd3.2.2
      rw [h] at h2
      exact (Option.some.inj h2).symm
    exact zhas_run (vx_runSW hF hM hcw ⟨zPc_blind, hPc⟩ rfl (by rw [List.length_map]; exact hln) hsz hst hW8 (of_decide_eq_true g1) hfc)
  | n + 5, hi, _, _, _ => cases hi
theorem zcall_ok {P : List zMeth} {ev : zEv} {X : zX} {l : Launch} {f : Nat} (IH : zSound P ev X l f) (hP : ∀ M ∈ P, zchk P M) {M : zMeth} (hc : zchk P M) {p : Program} {e : Env} {R : Room} {s : State} {m : MethodId} {args : Array Value} {below : List Frame} {meth : Method} {c : Code} {Q : State → Prop} {n0 : Nat} {ad0 : Nat → Nat} {x : List Nat} {pc cu su : Nat} {L : zL} {stk : List zAV} {G : zH} {r : zRes}
    (hins : zins (zm_code M) pc = some (2, x)) (h : zcall P (zrun P ev f) M (pc, L, stk, G, cu, su) x = some r) (cx : zCx p l R s m args meth c M ev X)
    (hE0 : r.1 = 0 → ∀ x, zins (zm_code M) r.2.2.1 = some (0, x) → zGo p l e R s m args below meth c Q X (zm_L M) n0 ad0 r.2.2)
    (hE1 : r.1 ≠ 0 → ∃ (Qc : Array Value → State → Outcome → State → Prop) (XC : String → State → State → Prop), Q = vx_MQ below Qc XC args s R.cells R.slots (fun q => zx0 X ≤ q) ∧ zXh X n0 ad0 s r XC) :
    zGo p l e R s m args below meth c Q X (zm_L M) n0 ad0 (pc, L, stk, G, cu, su) := by
  unfold zcall at h
  dsimp only at h
  obtain ⟨M', hM', h⟩ := zat_cases h
  obtain ⟨a, rest, hstk, hlen, h⟩ := ztk_ok _ _ _ _ h
  rw [List.append_nil] at h
  have hcd := (zc h).1
  have h := (zc h).2
  simp only [Bool.and_eq_true] at hcd
  obtain ⟨hrc, hf4, hL, hS, hcr, hca⟩ := hcd
  have hcr : zcats rest ≤ 8 := by simpa using hcr
  have hca : zcats a.reverse ≤ zm_L M' := by simpa using hca
  rw [zargs_eq] at h
  obtain ⟨r', hr', h⟩ := zat_cases h
  have hc' := hP M' (List.mem_of_getElem? (zat_some hM'))
  have hi : zchkC P M pc x = true := hc.1 _ (zins_mem hins)
  obtain ⟨-, hfc⟩ := zfit4_ok cx.2.2.2.2.2.1 hf4
  intro ad ca tys H locs ls hR
  show W p l e R s m args below meth c H locs cu su Q (F0 m pc ls (stk.map _))
  rw [hstk]
  cases hk0 : r'.1 with
  | zero =>
    rw [hk0] at h
    try dsimp only at h
    have hok := (zc h).1
    have h := (zc h).2
    simp only [zN_eq, zapp_eq] at h
    simp only [Bool.and_eq_true] at hok
    have h0 : r'.1 = 0 → zretok (zm_rt M') r'.2.2.2.2.1 = true ∧ r'.2.2.2.2.2.2.1 ≤ (zm_rm M').2.1 ∧ r'.2.2.2.2.2.2.2 ≤ (zm_rm M').2.2.1 := fun _ => ⟨hok.1, by simpa using hok.2.1, by simpa using hok.2.2⟩
    refine zafter (zcall_run (below := below) (e := e) (rest := rest) IH cx hM' hc' hi hlen hrc hf4 hcr hca hr' h0 (fun _ => hk0) hR) hR.2.2.1 (fun _ ad' ca' tys' H1 locs1 ha hn hH hS1 => ?_) (fun hne => absurd hk0 hne)
    have hgo := IH M hc _ r h p e R s m args below meth c Q n0 ad0 cx hE0 hE1 ad' ca' tys' H1 locs1 ls ⟨by
      show lv_has ls (zm_L M) (L.map _)
      rw [zLc hL ha]
      exact hR.1, hH, hS1, Nat.le_trans hR.2.2.2.1 hn, fun k hk => by rw [ha k (Nat.lt_of_lt_of_le hk hR.2.2.2.1)]; exact hR.2.2.2.2 k hk⟩
    have hst : (r'.2.2.2.2.1 ++ rest).map (zV (zxr X) ad' (zxb X) (zxt X)) = (zrv X ad' r'.2.2.2.2.1).toList ++ rest.map (zV (zxr X) ad (zxb X) (zxt X)) := by
      rw [List.map_append, zSc hS ha]
      congr 1
      have hrk := (h0 hk0).1
      generalize r'.2.2.2.2.1 = sk at hrk
      cases sk with
      | nil => rfl
      | cons v tl =>
      cases tl with
      | nil => rfl
      | cons _ _ => cases hrk
    rw [← hst]
    exact hgo
  | succ nk =>
    rw [hk0] at h
    try dsimp only at h
    have hne : r'.1 ≠ 0 := fun z => by rw [z] at hk0; cases hk0
    cases h4 : Nat.beq (zx x 1) 4 with
    | true => rw [h4] at h; cases h
    | false =>
    rw [h4] at h
    simp only [cond] at h
    have h4n : zx x 1 = 4 → r'.1 = 0 := fun z => by rw [z] at h4; cases h4
    refine zafter (zcall_run (below := below) (e := e) (rest := rest) IH cx hM' hc' hi hlen hrc hf4 hcr hca hr' (fun z => absurd z hne) h4n hR) hR.2.2.1 (fun z => absurd z hne) (fun _ ad' ca' tys' H1 locs1 q9 ce ha hn hH hS1 hce hcv hcl => ?_)
    have hR' : zRp X s (zm_L M) n0 ad0 L r'.2.2.2.2.2.1 ad' ca' tys' H1 locs1 ls := ⟨by
      rw [zLc hL ha]
      exact hR.1, hH, hS1, Nat.le_trans hR.2.2.2.1 hn, fun k hk => by rw [ha k (Nat.lt_of_lt_of_le hk hR.2.2.2.1)]; exact hR.2.2.2.2 k hk⟩
    cases hhh : zm_hh M with
    | nil =>
      rw [hhh] at h
      simp only [zN_eq] at h
      have hr := (Option.some.inj h).symm
      obtain ⟨Qc, XC, hQ, hX⟩ := hE1 (by rw [hr]; exact Nat.succ_ne_zero 0)
      rw [hQ]
      have htb := cx.2.2.2.2.2.2.2.2.2.2.2.2.2.2.2
      rw [hhh] at htb
      rw [hr] at hX
      refine vx_out (E := zEx r'.2.1) (fun y hy => ?_) cx.2.2.2.2.2.2.2.2.1 hce hcv hcl (fun t ht hA => ?_) hS1.2.2 hfc.1 hfc.2
      · rw [htb] at hy
        cases hy
      · exact hX ad' ca' tys' H1 locs1 t hR'.2.1 hS1 hR'.2.2.2.1 hR'.2.2.2.2 hA (by rw [ht]; exact Nat.le_refl _) (fun q _ => by rw [ht])
    | cons y0 yt =>
      rw [hhh] at h
      dsimp only at h
      obtain ⟨hpc, hh2, h⟩ := zat_cases h
      simp only [zN_eq] at h
      rw [← hhh] at hh2
      exact zcaught cx hc hh2 h (fun st' hk => IH M hc st' r hk p e R s m args below meth c Q n0 ad0 cx hE0 hE1) hR' hce hcv hcl
/-- the whole: what a run of the abstract machine says, the machine does -/
theorem zrun_ok {P : List zMeth} {ev : zEv} {X : zX} {l : Launch} (hP : ∀ M ∈ P, zchk P M) : ∀ f, zSound P ev X l f
  | 0 => fun M hc st r h => by cases h
  | f + 1 => by
    intro M hc st r h p e R s m args below meth c Q n0 ad0 cx hE0 hE1
    have IH : zSound P ev X l f := zrun_ok hP f
    obtain ⟨pc, L, stk, G, cu, su⟩ := st
    have h : (zob (zins (zm_code M) pc) fun u => match u.1 with
      | 0 => some (0, 0, (pc, L, stk, G, cu, su))
      | 1 => cond (Nat.blt 5 (zm_rm M).1 && (Nat.ble (zcats stk + 82) (zm_rm M).2.2.2 && (Nat.ble (cu + 1) (zm_rm M).2.1 && Nat.ble (su + 6) (zm_rm M).2.2.1))) (some (1, zx u.2 0, (pc, L, stk, G, cu, su))) none
      | 2 => zcall P (zrun P ev f) M (pc, L, stk, G, cu, su) u.2
      | Nat.succ (Nat.succ (Nat.succ o)) => zob (zat zopT o) fun q => q.2.2.2 u.2 M ev (pc, L, stk, G, cu, su) (zrun P ev f M)) = some r := h
    obtain ⟨u, hu, h⟩ := zat_cases h
    obtain ⟨op, x⟩ := u
    have hi := hc.1 _ (zins_mem hu)
    match op, h, hu, hi with
    | 0, h, hu, hi =>
      have hr := (Option.some.inj h).symm
      have h9 := hE0 (by rw [hr]) x (by rw [hr]; exact hu)
      rw [hr] at h9
      exact h9
    | 1, h, hu, hi =>
      have hcd := (zc h).1
      have hr := (Option.some.inj (zc h).2).symm
      simp only [Bool.and_eq_true] at hcd
      obtain ⟨k1, k2, k3, k4⟩ := hcd
      obtain ⟨Qc, XC, hQ, hX⟩ := hE1 (by rw [hr]; exact Nat.succ_ne_zero 0)
      rw [hQ]
      rw [hr] at hX
      have hRm := cx.2.2.2.2.2.1
      refine zthrow (P := P) cx (show zchkT M pc x = true from hi) ?_ ?_ ?_ ?_ hX
      · rw [hRm]; show 5 < (zm_rm M).1; simpa using k1
      · rw [hRm]; show _ ≤ (zm_rm M).2.2.2; simpa using k2
      · rw [hRm]; show _ ≤ (zm_rm M).2.1; exact Nat.le_of_ble_eq_true k3
      · rw [hRm]; show _ ≤ (zm_rm M).2.2.1; exact Nat.le_of_ble_eq_true k4
    | 2, h, hu, hi => exact zcall_ok IH hP hc hu h cx hE0 hE1
    | o + 3, h, hu, hi =>
      obtain ⟨q, hq, h⟩ := zat_cases h
      have hi : (match zat zopT o with
        | some q => decide (decode (zm_b M) pc = .ok (q.1 pc x, q.2.1)) && q.2.2.1 M x
        | none => false) = true := hi
      rw [hq] at hi
      simp only [Bool.and_eq_true] at hi
      obtain ⟨st', hk, himp⟩ := zopT_ok q (List.mem_of_getElem? (zat_some hq)) p l e R s m args below meth c Q M ev X n0 ad0 cx x pc L stk G cu su _ r (of_decide_eq_true hi.1) hi.2 h
      exact himp (IH M hc st' r hk p e R s m args below meth c Q n0 ad0 cx hE0 hE1)
