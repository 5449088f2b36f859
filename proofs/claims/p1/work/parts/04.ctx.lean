/-! THE CONTEXT of a body, and when an instruction of the abstract machine is sound -/
/-! numbers -/
theorem nI_mod (n : Nat) : nI (n % 4294967296) = nI n := by
  apply Int32.toInt_inj.mp
  simp only [nI, Int32.toInt_ofNat', Int32.size, Int.bmod_def]
  omega
theorem nI_subm (a b : Nat) (hb : b < 4294967296) : nI a - nI b = nI ((a + (4294967296 - b)) % 4294967296) := by
  rw [nI_mod]
  apply Int32.toInt_inj.mp
  rw [Int32.toInt_sub]
  simp only [nI, Int32.toInt_ofNat', Int32.size, Int.bmod_def]
  omega
def zbi (x : Int32) : Nat := (x.toInt + 2147483648).toNat
def zbm (n : Nat) : Nat := (n + 2147483648) % 4294967296
theorem zbi_nI (n : Nat) : zbi (nI n) = zbm n := by
  unfold zbi zbm
  simp only [nI, Int32.toInt_ofNat', Int32.size, Int.bmod_def]
  omega
theorem zbq (a b : Nat) : Nat.beq a b = (a == b) := by rw [Bool.eq_iff_iff]; simp
theorem zbi_lt (x y : Int32) : x < y ↔ zbi x < zbi y := by
  have h1 := Int32.le_toInt x
  have h2 := Int32.le_toInt y
  rw [Int32.lt_iff_toInt_lt]
  unfold zbi
  omega
theorem zbi_eq (x y : Int32) : x = y ↔ zbi x = zbi y := by
  have h1 := Int32.le_toInt x
  have h2 := Int32.le_toInt y
  rw [← Int32.toInt_inj]
  unfold zbi
  omega
/-! the words -/
def tblG : List Cond := lw_tbl.filter goodWord
def hasW (c : Nat) (w : Cond) : Bool := decide (zat lw_tbl c = some w) && goodWord w
theorem hasW_in {c : Nat} {w : Cond} (h : hasW c w = true) : w ∈ tblG := by
  simp only [hasW, Bool.and_eq_true] at h
  have h1 := of_decide_eq_true h.1
  rw [zat_eq] at h1
  exact List.mem_filter.mpr ⟨List.mem_of_getElem? h1, h.2⟩
abbrev zX : Type := (Nat → Int32) × Nat × Nat × Nat × va_G × (Nat → Nat) × Nat
def zxr (X : zX) : Nat → Int32 := X.1
def zxb (X : zX) : Nat := X.2.1
def zxt (X : zX) : Nat := X.2.2.1
def zx0 (X : zX) : Nat := X.2.2.2.1
def zxD (X : zX) : va_G := X.2.2.2.2.1
def zxs (X : zX) : Nat → Nat := X.2.2.2.2.2.1
def zxL (X : zX) : Nat := X.2.2.2.2.2.2
/-! what is known of the script: ranges of its cells (a number's place in the order of ints), the first one's last six bits, its length -/
def zEvOK (X : zX) (ev : zEv) : Prop := (∀ i lo hi, ev.1[i]? = some (lo, hi) → lo ≤ zbi (zxr X i) ∧ zbi (zxr X i) ≤ hi) ∧ (ev.2.1 < 64 → zxr X 0 &&& 63 = nI ev.2.1) ∧ (ev.2.2 < 8 → ev.2.2 = zxL X)
def zrg (ev : zEv) (v : zAV) (k : Nat → Nat → Option zRes) : Option zRes := match v.1 with
  | 0 => zN (zbm v.2) fun n => k n n
  | 1 => match zat ev.1 v.2 with
    | some q => k q.1 q.2
    | none => none
  | _ => none
theorem zrg_ok {X : zX} {ev : zEv} {v : zAV} {k : Nat → Nat → Option zRes} {r : zRes} (he : zEvOK X ev) (h : zrg ev v k = some r) : ∃ lo hi, k lo hi = some r ∧ lo ≤ zbi (zI (zxr X) v) ∧ zbi (zI (zxr X) v) ≤ hi ∧ zisI v = true := by
  obtain ⟨t, n⟩ := v
  cases t with
  | zero =>
    unfold zrg at h
    dsimp only at h
    rw [zN_eq] at h
    have e : zbi (zI (zxr X) (0, n)) = zbm n := zbi_nI n
    exact ⟨_, _, h, Nat.le_of_eq e.symm, Nat.le_of_eq e, rfl⟩
  | succ t =>
  cases t with
  | zero =>
    unfold zrg at h
    dsimp only at h
    rw [zat_eq] at h
    cases hq : ev.1[n]? with
    | none => rw [hq] at h; cases h
    | some q =>
      rw [hq] at h
      obtain ⟨lo, hi⟩ := q
      have := he.1 n lo hi hq
      exact ⟨lo, hi, h, this.1, this.2, rfl⟩
  | succ t =>
    unfold zrg at h
    cases h
def zlt (a1 a2 b1 b2 : Nat) (k : Bool → Option zRes) : Option zRes := cond (Nat.blt a2 b1) (k true) (cond (Nat.ble b2 a1) (k false) none)
def zeq (a1 a2 b1 b2 : Nat) (k : Bool → Option zRes) : Option zRes := cond (Nat.blt a2 b1 || Nat.blt b2 a1) (k false) (cond (Nat.beq a1 a2 && (Nat.beq b1 b2 && Nat.beq a1 b1)) (k true) none)
theorem zlt_ok {a1 a2 b1 b2 : Nat} {k : Bool → Option zRes} {r : zRes} {x y : Int32} (hx : a1 ≤ zbi x ∧ zbi x ≤ a2) (hy : b1 ≤ zbi y ∧ zbi y ≤ b2) (h : zlt a1 a2 b1 b2 k = some r) : ∃ t : Bool, k t = some r ∧ (x < y ↔ t = true) := by
  unfold zlt at h
  cases h1 : Nat.blt a2 b1 with
  | true =>
    rw [h1] at h
    have : a2 < b1 := by simpa using h1
    exact ⟨true, h, by rw [zbi_lt]; simp; omega⟩
  | false =>
    rw [h1] at h
    obtain ⟨h2, h3⟩ := zc h
    have : b2 ≤ a1 := by simpa using h2
    exact ⟨false, h3, by rw [zbi_lt]; simp; omega⟩
theorem zeq_ok {a1 a2 b1 b2 : Nat} {k : Bool → Option zRes} {r : zRes} {x y : Int32} (hx : a1 ≤ zbi x ∧ zbi x ≤ a2) (hy : b1 ≤ zbi y ∧ zbi y ≤ b2) (h : zeq a1 a2 b1 b2 k = some r) : ∃ t : Bool, k t = some r ∧ (x = y ↔ t = true) := by
  unfold zeq at h
  cases h1 : (Nat.blt a2 b1 || Nat.blt b2 a1) with
  | true =>
    rw [h1] at h
    have : a2 < b1 ∨ b2 < a1 := by simpa using h1
    exact ⟨false, h, by rw [zbi_eq]; simp; omega⟩
  | false =>
    rw [h1] at h
    obtain ⟨h2, h3⟩ := zc h
    have : a1 = a2 ∧ b1 = b2 ∧ a1 = b1 := by simpa using h2
    exact ⟨true, h3, by rw [zbi_eq]; simp; omega⟩
/-! what holds in a method's body -/
def zStr : List (String × Nat × String) := [("FormRiver", 54, "there are 3 forms"), ("FormRiver", 502, "no such form"), ("FormRiver", 79, "the form has a draft, or 4 versions"), ("FormRiver", 90, "a number is out of range"), ("FormRiver", 518, "the form has no draft"), ("FormRiver", 520, "the draft has 8 questions"), ("FormRiver", 109, "the meaning is out of range, or there is no such kind"), ("FormRiver", 117, "the draft has no such question"), ("FormRiver", 120, "there is no such kind, or the bound is out of range"), ("FormRiver", 134, "the question is computed, or the other one is not earlier"), ("FormRiver", 150, "there is no such kind, or the number is out of range"), ("FormRiver", 155, "there is no version before the version 0"), ("FormRiver", 157, "the draft, or the version before, has no such question"), ("FormRiver", 159, "the question is computed"), ("FormRiver", 173, "the stage, the desk, the bound or the patience is out of range"), ("FormRiver", 182, "the draft has 6 legs, or one with this stage and this desk"), ("FormRiver", 193, "the bound or a number of days is out of range"), ("FormRiver", 210, "the draft has no questions"), ("FormRiver", 219, "a meaning is there twice, or another form owns it"), ("FormRiver", 522, "no version was published"), ("FormRiver", 526, "the meaning is out of range"), ("FormRiver", 257, "no form owns the meaning"), ("FormRiver", 261, "no such desk"), ("FormRiver", 264, "a desk is not its own substitute"), ("FormRiver", 269, "the row of substitutes would come back to the desk"), ("FormRiver", 524, "no such person"), ("FormRiver", 277, "there are 24 submissions"), ("FormRiver", 504, "no such submission"), ("FormRiver", 289, "the submission can't be amended"), ("FormRiver", 506, "no such question"), ("FormRiver", 528, "the submission is neither drafted nor sent back"), ("FormRiver", 330, "the question is computed, not asked, or can't be changed"), ("FormRiver", 341, "the answer is out of range, or one too many"), ("FormRiver", 349, "the question is computed, or can't be changed"), ("FormRiver", 351, "the question has no answers"), ("FormRiver", 356, "the submission is not drafted"), ("FormRiver", 377, "a plain question that is asked has no answers"), ("FormRiver", 530, "the submission is not at desks"), ("FormRiver", 532, "no leg waits at the desk"), ("FormRiver", 401, "these are no plain questions of the version"), ("FormRiver", 419, "the submission is neither drafted nor at desks nor sent back"), ("FormRiver", 513, "the question has no value"), ("FormRiver", 425, "the submission is neither at desks nor sent back"), ("FormRiver", 431, "there is no such rank"), ("FormRiver", 511, "the question has a value"), ("FormRiver", 460, "the record has no such value"), ("FormRiver", 479, "the submission is not accepted"), ("FormRiver", 484, "the number of days is out of range"), ("FormRiver", 494, "no submission has a value for the meaning"), ("FormRiver", 497, "no submission is over")]
def zStrOK (sa : Nat → Nat) (U : State) : Prop := ∀ (i : Nat) (q : String × Nat × String), zStr[i]? = some q → vk_R q.1 q.2.1 q.2.2 (sa i) U
def zNws : List Cond := [.arrayOver (.array .int), .castable "java/lang/IllegalStateException" "java/lang/IllegalStateException", .declares ⟨"java/lang/RuntimeException","<init>","()V"⟩, .declares ⟨"java/lang/RuntimeException","<init>","(Ljava/lang/String;)V"⟩, .declares ⟨"java/lang/Exception","<init>","()V"⟩, .declares ⟨"java/lang/Exception","<init>","(Ljava/lang/String;)V"⟩, .declares ⟨"java/lang/Throwable","<init>","()V"⟩, .declares ⟨"java/lang/Throwable","<init>","(Ljava/lang/String;)V"⟩, .arrayOver (.object "java/lang/Object"), .declares ⟨"java/lang/IndexOutOfBoundsException","<init>","()V"⟩, .declares ⟨"java/lang/IndexOutOfBoundsException","<init>","(Ljava/lang/String;)V"⟩, .castable "java/lang/IndexOutOfBoundsException" "java/lang/IndexOutOfBoundsException", .castable "java/lang/IllegalArgumentException" "java/lang/IllegalArgumentException", .castable "java/util/NoSuchElementException" "java/util/NoSuchElementException", .castable "java/lang/UnsupportedOperationException" "java/lang/UnsupportedOperationException", .castable "java/lang/ArithmeticException" "java/lang/ArithmeticException", .arrayOver (.array (.object "FormRiverModel$Version")), .arrayOver (.object "FormRiverModel$Version"), .arrayOver (.object "FormRiverModel$Submission"), .methodLinkNest "FormRiverModel" 54 ⟨"FormRiverModel$Version","<init>","()V"⟩ "FormRiverModel", .methodLinkNest "FormRiverModel" 98 ⟨"FormRiverModel$Version","isPlain","(I)Z"⟩ "FormRiverModel", .methodLinkNest "FormRiverModel" 147 ⟨"FormRiverModel$Version","questionOf","(I)I"⟩ "FormRiverModel", .methodLinkNest "FormRiverModel" 199 ⟨"FormRiverModel$Sheet","carries","(I)C"⟩ "FormRiverModel", .methodLinkNest "FormRiverModel$Sheet" 41 ⟨"FormRiverModel$Version","isPlain","(I)Z"⟩ "FormRiverModel", .methodLinkNest "FormRiverModel$Sheet" 101 ⟨"FormRiverModel","isBetween","(III)Z"⟩ "FormRiverModel", .methodLinkNest "FormRiverModel" 264 ⟨"FormRiverModel$Sheet","hasValue","(I)Z"⟩ "FormRiverModel", .methodLinkNest "FormRiverModel" 267 ⟨"FormRiverModel$Sheet","value","(I)I"⟩ "FormRiverModel", .methodLinkNest "FormRiverModel" 206 ⟨"FormRiverModel$Submission","<init>","()V"⟩ "FormRiverModel", .methodLinkNest "FormRiverModel" 227 ⟨"FormRiverModel$Submission","isOpen","()Z"⟩ "FormRiverModel", .methodLinkNest "FormRiverModel" 249 ⟨"FormRiverModel$Sheet","isAsked","(I)Z"⟩ "FormRiverModel", .methodLinkNest "FormRiverModel" 325 ⟨"FormRiverModel$Sheet","reason","(I)C"⟩ "FormRiverModel", .methodLinkNest "FormRiverModel" 328 ⟨"FormRiverModel$Sheet","hasCause","(I)Z"⟩ "FormRiverModel", .methodLinkNest "FormRiverModel" 331 ⟨"FormRiverModel$Sheet","causeOf","(I)I"⟩ "FormRiverModel", .castable "FormRiverModel$Version" "java/lang/Object", .castable "FormRiverModel$Submission" "java/lang/Object", .castable "FormRiver" "java/lang/Object", .castable "FormRiver$Desks" "java/lang/Object", .castable "FormRiver$Records" "java/lang/Object", .castable "FormRiverModel" "java/lang/Object", .castable "FormRiver$Form" "java/lang/Object", .castable "FormRiver$Version" "java/lang/Object", .castable "FormRiver$Question" "java/lang/Object", .castable "FormRiver$Leg" "java/lang/Object", .castable "FormRiver$Sheet" "java/lang/Object", .castable "FormRiver$Slot" "java/lang/Object", .castable "FormRiverModel$Sheet" "java/lang/Object", .castable "FormRiver$Submission" "java/lang/Object", .castable "FormRiver$Visit" "java/lang/Object", .declares ⟨"java/lang/Object","getClass","()Ljava/lang/Class;"⟩]
def zEx (e : Nat) : String := match e with
  | 0 => "java/lang/IllegalStateException"
  | 1 => "java/lang/IndexOutOfBoundsException"
  | 2 => "java/lang/IllegalArgumentException"
  | 3 => "java/util/NoSuchElementException"
  | 4 => "java/lang/UnsupportedOperationException"
  | _ => "java/lang/ArithmeticException"
def zNcN : List (Nat × Nat) := [(0, 1), (0, 2), (2, 0), (2, 1), (2, 4), (3, 0), (3, 1), (3, 2), (3, 4), (4, 0), (4, 1), (4, 2), (4, 3), (5, 2)]
def zAO (U : State) : Prop := (∀ w ∈ zNws, va_Nw w U) ∧ ∀ q ∈ zNcN, va_Nc (zEx q.1) (zEx q.2) U
def zStat (b Ln td base : Nat) (ρ : Nat → Int32) (U : State) (H : Heap) : Prop :=
  vx_Zq Bundle.tN "UNASSIGNED_STACK" Bundle.steD (fun q => base ≤ q) U H ∧ vx_Zq Bundle.tN "SUPPRESSED_SENTINEL" Bundle.listD (fun q => base ≤ q) U H ∧
  va_Z "java/util/ArrayList" "DEFAULTCAPACITY_EMPTY_ELEMENTDATA" "[Ljava/lang/Object;" (.ref td) (fun q => base ≤ q) U H ∧ (∃ f, va_T (.object "java/lang/Object") td 0 f (fun q => base ≤ q) U H) ∧
  va_X b Ln ρ U H ∧ b < base
def zCx (p : Program) (l : Launch) (R : Room) (s : State) (m : MethodId) (args : Array Value) (meth : Method) (c : Code) (M : zMeth) (ev : zEv) (X : zX) : Prop :=
  p.tables.exec = Jvm.exec ∧ c.code = zm_b M ∧ c.maxLocals = zm_L M ∧ s.vm.findClass (zm_y M).cls = some m.cls ∧ (∀ w ∈ tblG, w.before args s = true) ∧ R = zroom M ∧ zx0 X ≤ s.heap.size ∧ zEvOK X ev ∧
  meth.locks = false ∧ meth.name = (zm_y M).name ∧ zStat (zxb X) (zxL X) (zxt X) (zx0 X) (zxr X) s s.heap ∧ zStrOK (zxs X) s ∧ zAO s ∧ l.stackTraces = false ∧ meth.sig.returnType = zm_ret M ∧ c.exceptionTable.toList = tableOf ((zm_hh M).map fun q => (q.1, q.2.1, q.2.2.1, q.2.2.2.1))
def zty (tys : List (ClassId × FieldType)) (ca : Nat → ClassId) (G : zH) : Prop := ∀ (k t ci : Nat) (vs : List zAV), G[k]? = some (Nat.succ t, ci, vs) → ∃ t0 : Nat, tys[t0]? = some (ca k, zT t)
def zHp (X : zX) (U : State) (G : zH) (ad : Nat → Nat) (ca : Nat → ClassId) (tys : List (ClassId × FieldType)) (H : Heap) : Prop :=
  va_K (zxD X) vwCl tys U ∧ va_P (zxD X) vwCl (zW (zxr X) ad ca (zxb X) (zxt X) 0 G) H ∧ va_D (fun q => zx0 X ≤ q) (zW (zxr X) ad ca (zxb X) (zxt X) 0 G) ∧ zwf G.length G ∧ zty tys ca G
def zRp (X : zX) (s : State) (nL n0 : Nat) (ad0 : Nat → Nat) (L : zL) (G : zH) (ad : Nat → Nat) (ca : Nat → ClassId) (tys : List (ClassId × FieldType)) (H : Heap) (locs : List Loc) (ls : Array Slot) : Prop :=
  lv_has ls nL (L.map fun q => (q.1, zV (zxr X) ad (zxb X) (zxt X) q.2)) ∧ zHp X s G ad ca tys H ∧ va_S (fun q => zx0 X ≤ q) s.heap H locs ∧ n0 ≤ G.length ∧ ∀ k, k < n0 → ad k = ad0 k
def zGo (p : Program) (l : Launch) (e : Env) (R : Room) (s : State) (m : MethodId) (args : Array Value) (below : List Frame) (meth : Method) (c : Code) (Q : State → Prop) (X : zX) (nL n0 : Nat) (ad0 : Nat → Nat) (st : zSt) : Prop :=
  ∀ ad ca tys H locs ls, zRp X s nL n0 ad0 st.2.1 st.2.2.2.1 ad ca tys H locs ls →
    W p l e R s m args below meth c H locs st.2.2.2.2.1 st.2.2.2.2.2 Q (F0 m st.1 ls (st.2.2.1.map (zV (zxr X) ad (zxb X) (zxt X))))
abbrev zSem : Type := List Nat → zMeth → zEv → zSt → zK → Option zRes
def zSnd (bld : Nat → List Nat → Instr) (len : Nat) (fact : zMeth → List Nat → Bool) (sem : zSem) : Prop :=
  ∀ (p : Program) (l : Launch) (e : Env) (R : Room) (s : State) (m : MethodId) (args : Array Value) (below : List Frame) (meth : Method) (c : Code) (Q : State → Prop) (M : zMeth) (ev : zEv) (X : zX) (n0 : Nat) (ad0 : Nat → Nat),
    zCx p l R s m args meth c M ev X → ∀ (x : List Nat) (pc : Nat) (L : zL) (stk : List zAV) (G : zH) (cu su : Nat) (k : zK) (r : zRes), decode (zm_b M) pc = .ok (bld pc x, len) → fact M x = true → sem x M ev (pc, L, stk, G, cu, su) k = some r →
      ∃ st' : zSt, k st' = some r ∧ (zGo p l e R s m args below meth c Q X (zm_L M) n0 ad0 st' → zGo p l e R s m args below meth c Q X (zm_L M) n0 ad0 (pc, L, stk, G, cu, su))
/-- on to the next instruction -/
def znx (pc len : Nat) (L : zL) (stk : List zAV) (G : zH) (cu su : Nat) (k : zK) : Option zRes := zN (pc + len) fun pc' => k (pc', L, stk, G, cu, su)
theorem znx_eq {pc len : Nat} {L : zL} {stk : List zAV} {G : zH} {cu su : Nat} {k : zK} {r : zRes} (h : znx pc len L stk G cu su k = some r) : k (pc + len, L, stk, G, cu, su) = some r := by
  unfold znx at h
  rwa [zN_eq] at h
def ztrue (_ : zMeth) (_ : List Nat) : Bool := true
def zx (x : List Nat) (i : Nat) : Nat := match zat x i with
  | some n => n
  | none => 0
theorem zlv {X : zX} {s : State} {nL n0 : Nat} {ad0 ad : Nat → Nat} {L : zL} {G : zH} {ca tys H locs ls} (h : zRp X s nL n0 ad0 L G ad ca tys H locs ls) {i : Nat} {v : zAV} (hk : zlk i L = some v) : ls[i]? = some (.val (zV (zxr X) ad (zxb X) (zxt X) v)) :=
  h.1.2.2 (i, _) (List.mem_map.mpr ⟨(i, v), zlk_mem hk, rfl⟩)
theorem zkeep1_eq {X : zX} {ad : Nat → Nat} (i : Nat) (v : zAV) (L : zL) : (i, zV (zxr X) ad (zxb X) (zxt X) v) :: (L.map fun q => (q.1, zV (zxr X) ad (zxb X) (zxt X) q.2)).filter (fun q => !(q.1 == i) && !(q.1 + 1 == i && q.2.category == 2)) = ((i, v) :: L.filter (zkeep1 i)).map fun q => (q.1, zV (zxr X) ad (zxb X) (zxt X) q.2) := by
  rw [List.filter_map, List.map_cons]
  congr 2
  apply List.filter_congr
  intro q hq
  simp only [Function.comp, zkeep1, zV_cat, zbq]
theorem zkeep2_eq {X : zX} {ad : Nat → Nat} (i : Nat) (v : zAV) (L : zL) : (i, zV (zxr X) ad (zxb X) (zxt X) v) :: (L.map fun q => (q.1, zV (zxr X) ad (zxb X) (zxt X) q.2)).filter (fun q => !(q.1 == i) && (!(q.1 == i + 1) && !(q.1 + 1 == i && q.2.category == 2))) = ((i, v) :: L.filter (zkeep2 i)).map fun q => (q.1, zV (zxr X) ad (zxb X) (zxt X) q.2) := by
  rw [List.filter_map, List.map_cons]
  congr 2
  apply List.filter_congr
  intro q hq
  simp only [Function.comp, zkeep2, zV_cat, zbq]
