/-! THE CONTEXT of a body, and when an instruction of the abstract machine is sound -/
/-! numbers -/
theorem nI_mod (n : Nat) : nI (n % 4294967296) = nI n := by
  apply Int32.toInt_inj.mp
  simp only [nI, Int32.toInt_ofNat', Int32.size, Int.bmod_def]
  omega
theorem nI_subm (a b : Nat) (hb : b < 4294967296) : nI a - nI b = nI ((a + (4294967296 - b)) % 4294967296) := by
  rw [nI_mod]
  apply Int32.toInt_inj.mp
  rw [Int32.toInt_sub]
  simp only [nI, Int32.toInt_ofNat', Int32.size, Int.bmod_def]
  omega
def zbi (x : Int32) : Nat := (x.toInt + 2147483648).toNat
def zbm (n : Nat) : Nat := (n + 2147483648) % 4294967296
theorem zbi_nI (n : Nat) : zbi (nI n) = zbm n := by
  unfold zbi zbm
  simp only [nI, Int32.toInt_ofNat', Int32.size, Int.bmod_def]
  omega
theorem zbq (a b : Nat) : Nat.beq a b = (a == b) := by rw [Bool.eq_iff_iff]; simp
theorem zbi_lt (x y : Int32) : x < y ↔ zbi x < zbi y := by
  have h1 := Int32.le_toInt x
  have h2 := Int32.le_toInt y
  rw [Int32.lt_iff_toInt_lt]
  unfold zbi
  omega
theorem zbi_eq (x y : Int32) : x = y ↔ zbi x = zbi y := by
  have h1 := Int32.le_toInt x
  have h2 := Int32.le_toInt y
  rw [← Int32.toInt_inj]
  unfold zbi
  omega
/-! the words -/
def tblG : List Cond := lw_tbl.filter goodWord
def hasW (c : Nat) (w : Cond) : Bool := decide (zat lw_tbl c = some w) && goodWord w
theorem hasW_in {c : Nat} {w : Cond} (h : hasW c w = true) : w ∈ tblG := by
  simp only [hasW, Bool.and_eq_true] at h
  have h1 := of_decide_eq_true h.1
  rw [zat_eq] at h1
  exact List.mem_filter.mpr ⟨List.mem_of_getElem? h1, h.2⟩
/-! what is known of the script: ranges of its cells (a number's place in the order of ints), the first one's last six bits, its length -/
def zEvOK (ρ : Nat → Int32) (ev : zEv) : Prop := (∀ i lo hi, ev.1[i]? = some (lo, hi) → lo ≤ zbi (ρ i) ∧ zbi (ρ i) ≤ hi) ∧ ρ 0 &&& 63 = nI ev.2.1
def zrg (ev : zEv) (v : zAV) (k : Nat → Nat → Option zRes) : Option zRes := match v.1 with
  | 0 => zN (zbm v.2) fun n => k n n
  | 1 => match zat ev.1 v.2 with
    | some q => k q.1 q.2
    | none => none
  | _ => none
theorem zrg_ok {ρ : Nat → Int32} {ev : zEv} {v : zAV} {k : Nat → Nat → Option zRes} {r : zRes} (he : zEvOK ρ ev) (h : zrg ev v k = some r) : ∃ lo hi, k lo hi = some r ∧ lo ≤ zbi (zI ρ v) ∧ zbi (zI ρ v) ≤ hi ∧ zisI v = true := by
  obtain ⟨t, n⟩ := v
  cases t with
  | zero =>
    unfold zrg at h
    dsimp only at h
    rw [zN_eq] at h
    have e : zbi (zI ρ (0, n)) = zbm n := zbi_nI n
    exact ⟨_, _, h, Nat.le_of_eq e.symm, Nat.le_of_eq e, rfl⟩
  | succ t =>
  cases t with
  | zero =>
    unfold zrg at h
    dsimp only at h
    rw [zat_eq] at h
    cases hq : ev.1[n]? with
    | none => rw [hq] at h; cases h
    | some q =>
      rw [hq] at h
      obtain ⟨lo, hi⟩ := q
      have := he.1 n lo hi hq
      exact ⟨lo, hi, h, this.1, this.2, rfl⟩
  | succ t =>
    unfold zrg at h
    cases h
def zlt (a1 a2 b1 b2 : Nat) (k : Bool → Option zRes) : Option zRes := cond (Nat.blt a2 b1) (k true) (cond (Nat.ble b2 a1) (k false) none)
def zeq (a1 a2 b1 b2 : Nat) (k : Bool → Option zRes) : Option zRes := cond (Nat.blt a2 b1 || Nat.blt b2 a1) (k false) (cond (Nat.beq a1 a2 && (Nat.beq b1 b2 && Nat.beq a1 b1)) (k true) none)
theorem zlt_ok {a1 a2 b1 b2 : Nat} {k : Bool → Option zRes} {r : zRes} {x y : Int32} (hx : a1 ≤ zbi x ∧ zbi x ≤ a2) (hy : b1 ≤ zbi y ∧ zbi y ≤ b2) (h : zlt a1 a2 b1 b2 k = some r) : ∃ t : Bool, k t = some r ∧ (x < y ↔ t = true) := by
  unfold zlt at h
  cases h1 : Nat.blt a2 b1 with
  | true =>
    rw [h1] at h
    have : a2 < b1 := by simpa using h1
    exact ⟨true, h, by rw [zbi_lt]; simp; omega⟩
  | false =>
    rw [h1] at h
    obtain ⟨h2, h3⟩ := zc h
    have : b2 ≤ a1 := by simpa using h2
    exact ⟨false, h3, by rw [zbi_lt]; simp; omega⟩
theorem zeq_ok {a1 a2 b1 b2 : Nat} {k : Bool → Option zRes} {r : zRes} {x y : Int32} (hx : a1 ≤ zbi x ∧ zbi x ≤ a2) (hy : b1 ≤ zbi y ∧ zbi y ≤ b2) (h : zeq a1 a2 b1 b2 k = some r) : ∃ t : Bool, k t = some r ∧ (x = y ↔ t = true) := by
  unfold zeq at h
  cases h1 : (Nat.blt a2 b1 || Nat.blt b2 a1) with
  | true =>
    rw [h1] at h
    have : a2 < b1 ∨ b2 < a1 := by simpa using h1
    exact ⟨false, h, by rw [zbi_eq]; simp; omega⟩
  | false =>
    rw [h1] at h
    obtain ⟨h2, h3⟩ := zc h
    have : a1 = a2 ∧ b1 = b2 ∧ a1 = b1 := by simpa using h2
    exact ⟨true, h3, by rw [zbi_eq]; simp; omega⟩
/-! what holds in a method's body -/
def zStr : List (String × Nat × String) := []
def zStrOK (sa : Nat → Nat) (U : State) : Prop := ∀ (i : Nat) (q : String × Nat × String), zStr[i]? = some q → vk_R q.1 q.2.1 q.2.2 (sa i) U
def zAO (U : State) : Prop := va_AO "FormRiverModel$Submission" U ∧ va_AO "java/lang/Object" U ∧ va_AO "FormRiverModel$Version" U ∧ va_AOA .int U ∧ va_AOA (.object "FormRiverModel$Version") U
def zStat (b Ln td base : Nat) (ρ : Nat → Int32) (U : State) (H : Heap) : Prop :=
  vx_Zq Bundle.tN "UNASSIGNED_STACK" Bundle.steD (fun q => base ≤ q) U H ∧ vx_Zq Bundle.tN "SUPPRESSED_SENTINEL" Bundle.listD (fun q => base ≤ q) U H ∧
  va_Z "java/util/ArrayList" "DEFAULTCAPACITY_EMPTY_ELEMENTDATA" "[Ljava/lang/Object;" (.ref td) (fun q => base ≤ q) U H ∧ (∃ f, va_T (.object "java/lang/Object") td 0 f (fun q => base ≤ q) U H) ∧
  va_X b Ln ρ U H ∧ b < base
abbrev zX : Type := (Nat → Int32) × Nat × Nat × Nat × va_G × (Nat → Nat)
def zxr (X : zX) : Nat → Int32 := X.1
def zxb (X : zX) : Nat := X.2.1
def zxt (X : zX) : Nat := X.2.2.1
def zx0 (X : zX) : Nat := X.2.2.2.1
def zxD (X : zX) : va_G := X.2.2.2.2.1
def zxs (X : zX) : Nat → Nat := X.2.2.2.2.2
def zCx (p : Program) (l : Launch) (R : Room) (s : State) (m : MethodId) (args : Array Value) (meth : Method) (c : Code) (M : zMeth) (ev : zEv) (X : zX) : Prop :=
  p.tables.exec = Jvm.exec ∧ c.code = zm_b M ∧ c.maxLocals = zm_L M ∧ s.vm.findClass (zm_y M).cls = some m.cls ∧ (∀ w ∈ tblG, w.before args s = true) ∧ R = zroom M ∧ zx0 X ≤ s.heap.size ∧ zEvOK (zxr X) ev ∧
  meth.locks = false ∧ meth.name = (zm_y M).name ∧ zStat (zxb X) ev.2.2 (zxt X) (zx0 X) (zxr X) s s.heap ∧ zStrOK (zxs X) s ∧ zAO s ∧ l.stackTraces = false
def zty (tys : List (ClassId × FieldType)) (ca : Nat → ClassId) (G : zH) : Prop := ∀ (k t ci : Nat) (vs : List zAV), G[k]? = some (Nat.succ t, ci, vs) → ∃ t0 : Nat, tys[t0]? = some (ca k, zT t)
def zHp (X : zX) (U : State) (G : zH) (ad : Nat → Nat) (ca : Nat → ClassId) (tys : List (ClassId × FieldType)) (H : Heap) : Prop :=
  va_K (zxD X) vwCl tys U ∧ va_P (zxD X) vwCl (zW (zxr X) ad ca (zxb X) (zxt X) 0 G) H ∧ va_D (fun q => zx0 X ≤ q) (zW (zxr X) ad ca (zxb X) (zxt X) 0 G) ∧ zwf G.length G ∧ zty tys ca G
def zRp (X : zX) (s : State) (nL n0 : Nat) (ad0 : Nat → Nat) (L : zL) (G : zH) (ad : Nat → Nat) (ca : Nat → ClassId) (tys : List (ClassId × FieldType)) (H : Heap) (locs : List Loc) (ls : Array Slot) : Prop :=
  lv_has ls nL (L.map fun q => (q.1, zV (zxr X) ad (zxb X) (zxt X) q.2)) ∧ zHp X s G ad ca tys H ∧ va_S (fun q => zx0 X ≤ q) s.heap H locs ∧ n0 ≤ G.length ∧ ∀ k, k < n0 → ad k = ad0 k
def zGo (p : Program) (l : Launch) (e : Env) (R : Room) (s : State) (m : MethodId) (args : Array Value) (below : List Frame) (meth : Method) (c : Code) (Q : State → Prop) (X : zX) (nL n0 : Nat) (ad0 : Nat → Nat) (st : zSt) : Prop :=
  ∀ ad ca tys H locs ls, zRp X s nL n0 ad0 st.2.1 st.2.2.2.1 ad ca tys H locs ls →
    W p l e R s m args below meth c H locs st.2.2.2.2.1 st.2.2.2.2.2 Q (F0 m st.1 ls (st.2.2.1.map (zV (zxr X) ad (zxb X) (zxt X))))
abbrev zSem : Type := List Nat → zMeth → zEv → zSt → zK → Option zRes
def zSnd (bld : Nat → List Nat → Instr) (len : Nat) (fact : zMeth → List Nat → Bool) (sem : zSem) : Prop :=
  ∀ (p : Program) (l : Launch) (e : Env) (R : Room) (s : State) (m : MethodId) (args : Array Value) (below : List Frame) (meth : Method) (c : Code) (Q : State → Prop) (M : zMeth) (ev : zEv) (X : zX) (n0 : Nat) (ad0 : Nat → Nat),
    zCx p l R s m args meth c M ev X → ∀ (x : List Nat) (pc : Nat) (L : zL) (stk : List zAV) (G : zH) (cu su : Nat) (k : zK) (r : zRes), decode (zm_b M) pc = .ok (bld pc x, len) → fact M x = true → sem x M ev (pc, L, stk, G, cu, su) k = some r →
      ∃ st' : zSt, k st' = some r ∧ (zGo p l e R s m args below meth c Q X (zm_L M) n0 ad0 st' → zGo p l e R s m args below meth c Q X (zm_L M) n0 ad0 (pc, L, stk, G, cu, su))
/-- on to the next instruction -/
def znx (pc len : Nat) (L : zL) (stk : List zAV) (G : zH) (cu su : Nat) (k : zK) : Option zRes := zN (pc + len) fun pc' => k (pc', L, stk, G, cu, su)
theorem znx_eq {pc len : Nat} {L : zL} {stk : List zAV} {G : zH} {cu su : Nat} {k : zK} {r : zRes} (h : znx pc len L stk G cu su k = some r) : k (pc + len, L, stk, G, cu, su) = some r := by
  unfold znx at h
  rwa [zN_eq] at h
def ztrue (_ : zMeth) (_ : List Nat) : Bool := true
def zx (x : List Nat) (i : Nat) : Nat := match zat x i with
  | some n => n
  | none => 0
theorem zlv {X : zX} {s : State} {nL n0 : Nat} {ad0 ad : Nat → Nat} {L : zL} {G : zH} {ca tys H locs ls} (h : zRp X s nL n0 ad0 L G ad ca tys H locs ls) {i : Nat} {v : zAV} (hk : zlk i L = some v) : ls[i]? = some (.val (zV (zxr X) ad (zxb X) (zxt X) v)) :=
  h.1.2.2 (i, _) (List.mem_map.mpr ⟨(i, v), zlk_mem hk, rfl⟩)
theorem zkeep1_eq {X : zX} {ad : Nat → Nat} (i : Nat) (v : zAV) (L : zL) : (i, zV (zxr X) ad (zxb X) (zxt X) v) :: (L.map fun q => (q.1, zV (zxr X) ad (zxb X) (zxt X) q.2)).filter (fun q => !(q.1 == i) && !(q.1 + 1 == i && q.2.category == 2)) = ((i, v) :: L.filter (zkeep1 i)).map fun q => (q.1, zV (zxr X) ad (zxb X) (zxt X) q.2) := by
  rw [List.filter_map, List.map_cons]
  congr 2
  apply List.filter_congr
  intro q hq
  simp only [Function.comp, zkeep1, zV_cat, zbq]
theorem zkeep2_eq {X : zX} {ad : Nat → Nat} (i : Nat) (v : zAV) (L : zL) : (i, zV (zxr X) ad (zxb X) (zxt X) v) :: (L.map fun q => (q.1, zV (zxr X) ad (zxb X) (zxt X) q.2)).filter (fun q => !(q.1 == i) && (!(q.1 == i + 1) && !(q.1 + 1 == i && q.2.category == 2))) = ((i, v) :: L.filter (zkeep2 i)).map fun q => (q.1, zV (zxr X) ad (zxb X) (zxt X) q.2) := by
  rw [List.filter_map, List.map_cons]
  congr 2
  apply List.filter_congr
  intro q hq
  simp only [Function.comp, zkeep2, zV_cat, zbq]
