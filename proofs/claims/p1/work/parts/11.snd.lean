/-! THE RUN IS SOUND -/
def zNk : Cond → Bool
  | .castable _ _ => true
  | .methodLinkNest _ _ _ _ => true
  | .declares _ => true
  | .arrayOver _ => true
  | _ => false
theorem zNk_ok : ∀ w ∈ zNws, zNk w = true := by decide +kernel
theorem zNk_warm {w : Cond} (hk : zNk w = true) {s U : State} (hW : s.WarmedH U.vm) (h : va_Nw w s) : va_Nw w U := by
  match w, hk with
  | .castable C T, _ => exact va_Nw.warmC hW h
  | .methodLinkNest a i x hh, _ => exact va_Nw.warmM hW h
  | .declares x, _ => exact va_Nw.warmD hW h
  | .arrayOver t, _ =>
    have h1 : (Cond.arrayOver t).before #[] (s.setVm U.vm) = true := by rw [Cond.arrayOver_setVmC hW.alike t]; exact h
    exact h1
theorem zNk_same {w : Cond} (hk : zNk w = true) {s U : State} (hv : s.vm = U.vm) (h : va_Nw w s) : va_Nw w U := by
  match w, hk with
  | .castable C T, _ => exact va_Nw.same rfl hv h
  | .methodLinkNest a i x hh, _ => exact va_Nw.same rfl hv h
  | .declares x, _ => exact va_Nw.same rfl hv h
  | .arrayOver t, _ =>
    have h1 : (Cond.arrayOver t).before #[] (s.setVm U.vm) = true := by rw [← hv]; exact h
    exact h1
def zS5 (X : zX) (ev : zEv) (U : State) : Prop := zx0 X ≤ U.heap.size ∧ zStat (zxb X) (zxL X) (zxt X) (zx0 X) (zxr X) U U.heap ∧ zStrOK (zxs X) U ∧ zAO U
theorem zS5_same {X : zX} {ev : zEv} {s U : State} (hv : s.vm = U.vm) (hh : s.heap = U.heap) (h : zS5 X ev s) : zS5 X ev U := by
  have hA : s.vm.Alike U.vm := by rw [hv]; exact Vm.Alike.refl _
  obtain ⟨h1, ⟨a1, a2, a3, ⟨f, a4⟩, a5, a6⟩, h3, h4⟩ := h
  rw [hh] at h1 a1 a2 a3 a4 a5
  exact ⟨h1, ⟨a1.moved hA, a2.moved hA, a3.moved hA, ⟨f, a4.moved hA⟩, a5.moved hA, a6⟩, fun i q hq => vk_R.same hv.symm (h3 i q hq), fun w hw => zNk_same (zNk_ok w hw) hv (h4.1 w hw), fun q hq => (h4.2 q hq).moved hA⟩
theorem zS5_to {X : zX} {ev : zEv} {s U : State} {H : Heap} {locs : List Loc} (h : zS5 X ev s) (hS : va_S (fun q => zx0 X ≤ q) s.heap H locs) (hH : U.heap = H) (hW : s.WarmedH U.vm) : zS5 X ev U := by
  obtain ⟨h1, ⟨a1, a2, a3, ⟨f, a4⟩, a5, a6⟩, h3, h4⟩ := h
  have hA := hW.alike
  subst hH
  refine ⟨Nat.le_trans h1 hS.1, ⟨(a1.moved hA).kept hS.2.1, (a2.moved hA).kept hS.2.1, (a3.moved hA).kept hS.2.1, ⟨f, (a4.moved hA).kept hS.2.1⟩, (a5.moved hA).kept (hS.2.1 _ (Nat.lt_of_lt_of_le a6 h1) (Nat.not_le.mpr a6)), a6⟩, fun i q hq => vk_R.warm hW (h3 i q hq), fun w hw => zNk_warm (zNk_ok w hw) hW (h4.1 w hw), fun q hq => (h4.2 q hq).moved hA⟩
theorem zHp_to {X : zX} {s U : State} {G : zH} {ad : Nat → Nat} {ca : Nat → ClassId} {tys : List (ClassId × FieldType)} {H : Heap} (h : zHp X s G ad ca tys H) (hA : s.vm.Alike U.vm) : zHp X U G ad ca tys H := ⟨va_K.moved hA h.1, h.2⟩
def zPc (X : zX) (ev : zEv) (av : List zAV) (G : zH) (ad0 : Nat → Nat) : Array Value → State → Prop := fun a U => a = (av.map (zV (zxr X) ad0 (zxb X) (zxt X))).toArray ∧ (∃ ca tys, zHp X U G ad0 ca tys U.heap) ∧ zS5 X ev U
theorem zPc_blind {X : zX} {ev : zEv} {av : List zAV} {G : zH} {ad0 : Nat → Nat} : FrameBlind (zPc X ev av G ad0) := by
  intro a U g mk h
  obtain ⟨h1, ⟨ca, tys, h2⟩, h3⟩ := h
  exact ⟨h1, ⟨ca, tys, zHp_to h2 (Vm.Alike.refl U.vm)⟩, zS5_same (s := U) rfl rfl h3⟩
def zrv (X : zX) (ad : Nat → Nat) (stk : List zAV) : Option Value := match stk with
  | [] => none
  | v :: _ => some (zV (zxr X) ad (zxb X) (zxt X) v)
def zB (X : zX) (n0 : Nat) (ad0 : Nat → Nat) (G : zH) (st t : State) (ad : Nat → Nat) : Prop := (∀ k, k < n0 → ad k = ad0 k) ∧ n0 ≤ G.length ∧ (∃ ca tys, zHp X t G ad ca tys t.heap) ∧ va_F (fun q => zx0 X ≤ q) st t
def zQr (X : zX) (n0 : Nat) (ad0 : Nat → Nat) (r : zRes) : Array Value → State → Outcome → State → Prop := fun _ st o t => r.1 = 0 ∧ ∃ ad, o = .returned (zrv X ad r.2.2.2.2.1) ∧ zB X n0 ad0 r.2.2.2.2.2.1 st t ad
def zXr (X : zX) (n0 : Nat) (ad0 : Nat → Nat) (r : zRes) : String → State → State → Prop := fun E st t => r.1 ≠ 0 ∧ E = zEx r.2.1 ∧ ∃ ad, zB X n0 ad0 r.2.2.2.2.2.1 st t ad
/-- what an end by an exception must meet -/
def zXh (X : zX) (n0 : Nat) (ad0 : Nat → Nat) (s : State) (r : zRes) (XC : String → State → State → Prop) : Prop :=
  ∀ ad ca tys H locs (t : State), zHp X s r.2.2.2.2.2.1 ad ca tys H → va_S (fun q => zx0 X ≤ q) s.heap H locs → n0 ≤ r.2.2.2.2.2.1.length → (∀ k, k < n0 → ad k = ad0 k) → s.vm.Alike t.vm → H.size ≤ t.heap.size → (∀ q : Nat, q < H.size → t.heap[q]? = H[q]?) → XC (zEx r.2.1) s t
theorem zB_of {X : zX} {n0 : Nat} {ad0 ad : Nat → Nat} {s t : State} {G : zH} {ca : Nat → ClassId} {tys : List (ClassId × FieldType)} {H : Heap} {locs : List Loc} (h : zHp X s G ad ca tys H) (hS : va_S (fun q => zx0 X ≤ q) s.heap H locs) (hn : n0 ≤ G.length) (ha : ∀ k, k < n0 → ad k = ad0 k) (hA : s.vm.Alike t.vm) (hz : H.size ≤ t.heap.size) (hq : ∀ q : Nat, q < H.size → t.heap[q]? = H[q]?) : zB X n0 ad0 G s t ad :=
  ⟨ha, hn, ⟨ca, tys, va_K.moved hA h.1, h.2.1.kept (fun k q hk => hq q.1 (vx_lt h.2.1 hk)), h.2.2⟩, Nat.le_trans hS.1 hz, fun q h1 h2 => (hq q (Nat.lt_of_lt_of_le h1 hS.1)).trans (hS.2.1 q h1 h2)⟩
theorem zXh_r {X : zX} {n0 : Nat} {ad0 : Nat → Nat} {s : State} {r : zRes} (hr : r.1 ≠ 0) : zXh X n0 ad0 s r (zXr X n0 ad0 r) :=
  fun ad _ _ _ _ _ h1 h2 h3 h4 h5 h6 h7 => ⟨hr, rfl, ad, zB_of h1 h2 h3 h4 h5 h6 h7⟩
/-- the words of a method: its code, and all that the tables say -/
def zws (M : zMeth) : List Cond := Cond.code (zm_y M) (zm_b M) (zm_L M) (zm_ret M) :: tblG
theorem zgood {w : Cond} (h : w ∈ tblG) : (w.onTables && w.keeps) = true ∨ ∃ ty, w = .arrayClass ty := good_of_word (List.mem_filter.mp h).2
theorem zwsG {M : zMeth} (h : Cond.code (zm_y M) (zm_b M) (zm_L M) (zm_ret M) ∈ tblG) : GoodIn tblG (zws M) := fun w hw => by
  rcases List.mem_cons.mp hw with e | e
  · rw [e]; exact ⟨h, zgood h⟩
  · exact ⟨e, zgood e⟩
def zws4 (M : zMeth) : List Cond := Cond.codeWith (zm_y M) (zm_b M) (zm_L M) (zm_ret M) (zh4 M) :: tblG
theorem zws4G {M : zMeth} (h : Cond.codeWith (zm_y M) (zm_b M) (zm_L M) (zm_ret M) (zh4 M) ∈ tblG) : GoodIn tblG (zws4 M) := fun w hw => by
  rcases List.mem_cons.mp hw with e | e
  · rw [e]; exact ⟨h, zgood h⟩
  · exact ⟨e, zgood e⟩
/-- a body's run: what is to be shown of it -/
def zSound (P : List zMeth) (ev : zEv) (X : zX) (l : Launch) (f : Nat) : Prop := ∀ (M : zMeth), zchk P M → ∀ (st : zSt) (r : zRes), zrun P ev f M st = some r →
  ∀ (p : Program) (e : Env) (R : Room) (s : State) (m : MethodId) (args : Array Value) (below : List Frame) (meth : Method) (c : Code) (Q : State → Prop) (n0 : Nat) (ad0 : Nat → Nat), zCx p l R s m args meth c M ev X →
    (r.1 = 0 → ∀ x, zins (zm_code M) r.2.2.1 = some (0, x) → zGo p l e R s m args below meth c Q X (zm_L M) n0 ad0 r.2.2) →
    (r.1 ≠ 0 → ∃ (Qc : Array Value → State → Outcome → State → Prop) (XC : String → State → State → Prop), Q = vx_MQ below Qc XC args s R.cells R.slots (fun q => zx0 X ≤ q) ∧ zXh X n0 ad0 s r XC) →
    zGo p l e R s m args below meth c Q X (zm_L M) n0 ad0 st
/-- a return -/
theorem zret {P : List zMeth} {M : zMeth} {ev : zEv} {X : zX} {p : Program} {l : Launch} {e : Env} {R : Room} {s : State} {m : MethodId} {args : Array Value} {below : List Frame} {meth : Method} {c : Code} {n0 : Nat} {ad0 : Nat → Nat} {Qc : Array Value → State → Outcome → State → Prop} {XC : String → State → State → Prop} {r : zRes} {x : List Nat}
    (cx : zCx p l R s m args meth c M ev X) (hc : zchk P M) (hx : zins (zm_code M) r.2.2.1 = some (0, x)) (h0 : zretok (zm_rt M) r.2.2.2.2.1 = true) (hcu : r.2.2.2.2.2.2.1 ≤ R.cells) (hsu : r.2.2.2.2.2.2.2 ≤ R.slots)
    (hQ : ∀ ad (t : State), zB X n0 ad0 r.2.2.2.2.2.1 s t ad → Qc args s (.returned (zrv X ad r.2.2.2.2.1)) t) :
    zGo p l e R s m args below meth c (MQ below Qc args s R.cells R.slots (fun q => zx0 X ≤ q)) X (zm_L M) n0 ad0 r.2.2 := by
  obtain ⟨r1, r2, pc, L, stk, G, cu, su⟩ := r
  have hTT := hc.2.2.1
  have hi0 : zchkR M pc x = true := hc.1 _ (zins_mem hx)
  simp only [zchkR, Bool.and_eq_true] at hi0
  have hrt : zx x 0 = zm_rt M := Nat.eq_of_beq_eq_true hi0.1
  have hdd := hi0.2
  rw [hrt] at hdd
  have hsig := cx.2.2.2.2.2.2.2.2.2.2.2.2.2.2.1
  have hlk := cx.2.2.2.2.2.2.2.2.1
  dsimp only at h0 hcu hsu hQ hx
  intro ad ca tys H locs ls hR
  refine W.widen hcu hsu ?_
  have hB : ∀ t : State, t.heap = H → s.WarmedH t.vm → zB X n0 ad0 G s t ad := fun t ht hW => zB_of hR.2.1 hR.2.2.1 hR.2.2.2.1 hR.2.2.2.2 hW.alike (by rw [ht]; exact Nat.le_refl _) (fun q _ => by rw [ht])
  have hf := hR.2.2.1.2.2
  generalize hrtv : zm_rt M = rt at h0 hTT hdd
  cases stk with
  | nil =>
    have h0 : rt = 0 := Nat.eq_of_beq_eq_true h0
    subst h0
    have hT : zm_ret M = none := of_decide_eq_true hTT
    rw [hT] at hsig
    simp only [Bool.or_eq_true] at hdd
    have hi : decode (zm_b M) pc = .ok (.return_, 1) := by
      rcases hdd with h | h
      · cases h
      · exact of_decide_eq_true h
    exact W.vret cx.1 cx.2.1 hsig (fun t ht hW => hQ ad t (hB t ht hW)) hf hi hlk
  | cons v tl =>
  cases tl with
  | cons _ _ => cases h0
  | nil =>
  match rt, h0, hTT, hdd with
  | 1, g0, gT, gi =>
    have hT : zm_ret M = some .int := of_decide_eq_true gT
    rw [hT] at hsig
    have hdg : decode (zm_b M) pc = .ok (.ireturn, 1) := of_decide_eq_true gi
    have hv := zV_I (ρ := zxr X) (ad := ad) (b := zxb X) (td := zxt X) g0
    simp only [List.map_cons, List.map_nil]
    rw [hv]
    exact W.iret cx.1 cx.2.1 hsig (fun t ht hW => by have h9 := hQ ad t (hB t ht hW); simp only [zrv] at h9; rw [hv] at h9; exact h9) hf hdg hlk
  | 2, g0, gT, gi =>
    have hT : zm_ret M = some .boolean := of_decide_eq_true gT
    rw [hT] at hsig
    have hdg : decode (zm_b M) pc = .ok (.ireturn, 1) := of_decide_eq_true gi
    have hv := zV_I (ρ := zxr X) (ad := ad) (b := zxb X) (td := zxt X) (zb_I g0)
    have hfit := (zfit_ok (ρ := zxr X) (ad := ad) (b := zxb X) (td := zxt X) (ty := .boolean) g0).1
    rw [hv] at hfit
    simp only [List.map_cons, List.map_nil]
    rw [hv]
    exact W.zret cx.1 cx.2.1 hsig hfit (fun t ht hW => by have h9 := hQ ad t (hB t ht hW); simp only [zrv] at h9; rw [hv] at h9; exact h9) hf hdg hlk
  | 3, g0, gT, gi =>
    have hT : zm_ret M = some .char := of_decide_eq_true gT
    rw [hT] at hsig
    have hdg : decode (zm_b M) pc = .ok (.ireturn, 1) := of_decide_eq_true gi
    simp only [zretok, Bool.and_eq_true] at g0
    have hv := zV_0 (ρ := zxr X) (ad := ad) (b := zxb X) (td := zxt X) g0.1
    have hlt : v.2 < 65536 := by simpa using g0.2
    have hnar : narrow .char (.int (nI v.2)) = .int (nI v.2) := by
      have h9 : narrow .char (.int (nI v.2)) = .int (nI v.2).toUInt32.toUInt16.toUInt32.toInt32 := rfl
      have h8 : (nI v.2).toUInt32.toNat = v.2 := by simp [nI]; omega
      have h7 : (nI v.2).toUInt32.toUInt16.toUInt32 = (nI v.2).toUInt32 := by
        apply UInt32.toNat_inj.mp
        simp only [UInt32.toNat_toUInt16, UInt16.toNat_toUInt32, h8]
        omega
      rw [h9, h7]
      simp
    simp only [List.map_cons, List.map_nil]
    rw [hv]
    exact W.zret cx.1 cx.2.1 hsig hnar (fun t ht hW => by have h9 := hQ ad t (hB t ht hW); simp only [zrv] at h9; rw [hv] at h9; exact h9) hf hdg hlk
  | 4, g0, gT, gi =>
    have hT : zm_ret M = some .long := of_decide_eq_true gT
    rw [hT] at hsig
    have hdg : decode (zm_b M) pc = .ok (.lreturn, 1) := of_decide_eq_true gi
    have hv := zV_J (ρ := zxr X) (ad := ad) (b := zxb X) (td := zxt X) g0
    simp only [List.map_cons, List.map_nil]
    rw [hv]
    exact W.lret cx.1 cx.2.1 hsig (fun t ht hW => by have h9 := hQ ad t (hB t ht hW); simp only [zrv] at h9; rw [hv] at h9; exact h9) hf hdg hlk
  | 5, g0, gT, gi =>
    have hdg : decode (zm_b M) pc = .ok (.areturn, 1) := of_decide_eq_true gi
    have hv := zV_R (ρ := zxr X) (ad := ad) (b := zxb X) (td := zxt X) g0
    obtain ⟨rtt, hrt1, hrt2⟩ : ∃ rtt, zm_ret M = some rtt ∧ ((∃ n, rtt = .object n) ∨ ∃ t, rtt = .array t) := by
      generalize zm_ret M = q at gT
      match q, gT with
      | some (.object n), _ => exact ⟨_, rfl, Or.inl ⟨n, rfl⟩⟩
      | some (.array t), _ => exact ⟨_, rfl, Or.inr ⟨t, rfl⟩⟩
    rw [hrt1] at hsig
    simp only [List.map_cons, List.map_nil]
    rw [hv]
    have hvv : va_rf (zR ad (zxb X) (zxt X) v) = .null ∨ ∃ a, va_rf (zR ad (zxb X) (zxt X) v) = .ref a := by
      cases zR ad (zxb X) (zxt X) v with
      | none => exact Or.inl rfl
      | some a => exact Or.inr ⟨a, rfl⟩
    exact W.aret cx.1 cx.2.1 hsig hrt2 hvv (fun t ht hW => by have h9 := hQ ad t (hB t ht hW); simp only [zrv] at h9; rw [hv] at h9; exact h9) hf hdg hlk
  | 6, g0, gT, gi =>
    have hT : zm_ret M = some .double := of_decide_eq_true gT
    rw [hT] at hsig
    have hdg : decode (zm_b M) pc = .ok (.dreturn, 1) := of_decide_eq_true gi
    have hv := zV_D (ρ := zxr X) (ad := ad) (b := zxb X) (td := zxt X) g0
    simp only [List.map_cons, List.map_nil]
    rw [hv]
    exact W.dret cx.1 cx.2.1 hsig (fun t ht hW => by have h9 := hQ ad t (hB t ht hW); simp only [zrv] at h9; rw [hv] at h9; exact h9) hf hdg hlk
  | 7, g0, gT, gi =>
    have hT : zm_ret M = some .float := of_decide_eq_true gT
    rw [hT] at hsig
    have hdg : decode (zm_b M) pc = .ok (.freturn, 1) := of_decide_eq_true gi
    have hv := zV_F (ρ := zxr X) (ad := ad) (b := zxb X) (td := zxt X) g0
    simp only [List.map_cons, List.map_nil]
    rw [hv]
    exact W.fret cx.1 cx.2.1 hsig (fun t ht hW => by have h9 := hQ ad t (hB t ht hW); simp only [zrv] at h9; rw [hv] at h9; exact h9) hf hdg hlk
/-- the start of a body -/
theorem zentry {X : zX} {s : State} {nL : Nat} {as : List zAV} {G : zH} {ad0 : Nat → Nat} {ca : Nat → ClassId} {tys : List (ClassId × FieldType)} (hfit : zcats as ≤ nL) (hH : zHp X s G ad0 ca tys s.heap) :
    ∃ ls : Array Slot, (∀ m : MethodId, entryFrame m (as.map (zV (zxr X) ad0 (zxb X) (zxt X))).toArray nL = F0 m 0 ls []) ∧ zRp X s nL G.length ad0 (zargL 0 as) G ad0 ca tys s.heap [] ls := by
  have hl := lv_entry (as.map (zV (zxr X) ad0 (zxb X) (zxt X))) (n := nL) (by rw [zlgsl]; exact hfit)
  refine ⟨_, fun m => lg_entry_eq m _ nL, ?_, hH, va_S.rf, Nat.le_refl _, fun _ _ => rfl⟩
  rw [zlvargs] at hl
  exact hl
theorem zmet {P : List zMeth} {ev : zEv} {X : zX} {l : Launch} {f : Nat} (IH : zSound P ev X l f) (hev : zEvOK X ev) (hl : l.stackTraces = false) {M : zMeth} (hc : zchk P M) (hh : zm_hh M = []) {as : List zAV} {G : zH} {r : zRes} (hr : zrun P ev f M (0, zargL 0 as, [], G, 0, 0) = some r) (hfit : zcats as ≤ zm_L M)
    (h0 : r.1 = 0 → zretok (zm_rt M) r.2.2.2.2.1 = true ∧ r.2.2.2.2.2.2.1 ≤ (zm_rm M).2.1 ∧ r.2.2.2.2.2.2.2 ≤ (zm_rm M).2.2.1) (ad0 : Nat → Nat) :
    vx_Met l (zm_y M) (zws M) (zroom M) (zPc X ev as G ad0) (zQr X G.length ad0 r) (zXr X G.length ad0 r) (zm_rm M).2.1 (zm_rm M).2.2.1 (fun q => zx0 X ≤ q) := by
  refine vx_ofW (cc := zm_b M) (maxL := zm_L M) (ret := zm_ret M) hc.2.1 rfl ?_
  intro p e s m args below meth c s₁ B hml htab hv
  obtain ⟨rfl, ⟨ca, tys, hH⟩, h5⟩ := hv
  have hts0 : ∀ w ∈ zws M, w.before (as.map (zV (zxr X) ad0 (zxb X) (zxt X))).toArray s = true := atoms_spec (ws := zws M) B.pre
  have htl : c.exceptionTable.toList = tableOf ((zm_hh M).map fun q => (q.1, q.2.1, q.2.2.1, q.2.2.2.1)) := by
    rw [hh]
    cases hq : c.exceptionTable.toList with
    | nil => rfl
    | cons a t => exact (htab a (by rw [hq]; exact List.mem_cons_self)).elim
  have cx : zCx p l (zroom M) s m (as.map (zV (zxr X) ad0 (zxb X) (zxt X))).toArray meth c M ev X :=
    ⟨B.exec, B.bytes, hml, findClass_of_methodNamed B.named, fun w hw => hts0 w (List.mem_cons_of_mem _ hw), rfl, h5.1, hev, B.notSynchronized, (name_of_methodNamed B.named B.method).1, h5.2.1, h5.2.2.1, h5.2.2.2, hl, B.returns, htl⟩
  obtain ⟨ls, he, hR⟩ := zentry hfit hH
  rw [he]
  refine IH M hc _ r hr p e (zroom M) s m _ below meth c _ G.length ad0 cx ?_ ?_ ad0 ca tys s.heap [] ls hR
  · intro hr0 x hx
    obtain ⟨g1, g2, g3⟩ := h0 hr0
    have hz := zret (p := p) (l := l) (e := e) (below := below) (n0 := G.length) (ad0 := ad0) (Qc := zQr X G.length ad0 r) (XC := zXr X G.length ad0 r) cx hc hx g1 g2 g3 (fun ad t hB => ⟨hr0, ad, rfl, hB⟩)
    intro ad ca tys H locs ls hR
    exact vx_ret (hz ad ca tys H locs ls hR)
  · intro hr0
    exact ⟨_, _, rfl, zXh_r hr0⟩
/-- the same of a method with handlers that lets nothing out -/
theorem zmet4 {P : List zMeth} {ev : zEv} {X : zX} {l : Launch} {f : Nat} (IH : zSound P ev X l f) (hev : zEvOK X ev) (hl : l.stackTraces = false) {M : zMeth} (hc : zchk P M) {as : List zAV} {G : zH} {r : zRes} (hr : zrun P ev f M (0, zargL 0 as, [], G, 0, 0) = some r) (hfit : zcats as ≤ zm_L M) (hr0 : r.1 = 0)
    (h0 : zretok (zm_rt M) r.2.2.2.2.1 = true ∧ r.2.2.2.2.2.2.1 ≤ (zm_rm M).2.1 ∧ r.2.2.2.2.2.2.2 ≤ (zm_rm M).2.2.1) (ad0 : Nat → Nat) :
    Met l (zm_y M) (zws4 M) (zroom M) (zPc X ev as G ad0) (zQr X G.length ad0 r) (zm_rm M).2.1 (zm_rm M).2.2.1 (fun q => zx0 X ≤ q) := by
  refine va_MetW (cc := zm_b M) (maxL := zm_L M) (ret := zm_ret M) (hh := zh4 M) hc.2.1 rfl ?_
  intro p e s m args below meth c s₁ B hml hv
  obtain ⟨rfl, ⟨ca, tys, hH⟩, h5⟩ := hv
  have hts0 : ∀ w ∈ zws4 M, w.before (as.map (zV (zxr X) ad0 (zxb X) (zxt X))).toArray s = true := atoms_spec (ws := zws4 M) B.pre
  have htl : c.exceptionTable.toList = tableOf ((zm_hh M).map fun q => (q.1, q.2.1, q.2.2.1, q.2.2.2.1)) := vx_table (x := zm_y M) B (hts0 _ List.mem_cons_self)
  have cx : zCx p l (zroom M) s m (as.map (zV (zxr X) ad0 (zxb X) (zxt X))).toArray meth c M ev X :=
    ⟨B.exec, B.bytes, hml, findClass_of_methodNamed B.named, fun w hw => hts0 w (List.mem_cons_of_mem _ hw), rfl, h5.1, hev, B.notSynchronized, (name_of_methodNamed B.named B.method).1, h5.2.1, h5.2.2.1, h5.2.2.2, hl, B.returns, htl⟩
  obtain ⟨ls, he, hR⟩ := zentry hfit hH
  rw [he]
  refine IH M hc _ r hr p e (zroom M) s m _ below meth c _ G.length ad0 cx ?_ ?_ ad0 ca tys s.heap [] ls hR
  · intro _ x hx
    exact zret (p := p) (l := l) (e := e) (below := below) (n0 := G.length) (ad0 := ad0) (Qc := zQr X G.length ad0 r) (XC := zXr X G.length ad0 r) cx hc hx h0.1 h0.2.1 h0.2.2 (fun ad t hB => ⟨hr0, ad, rfl, hB⟩)
  · intro h
    exact absurd hr0 h
