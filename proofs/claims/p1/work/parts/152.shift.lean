/-! AN INSTRUCTION OF A LONG CODE, read out of a window of it -/
def zSh (A B : ByteArray) (n k : Nat) {α : Type} (d d1 : Decoder α) : Prop := ∀ (a : α) (j : Nat), Reader.runAt d1 B k = .ok (a, j) → Reader.runAt d A (n + k) = .ok (a, n + j)
theorem zSh_pure {A B : ByteArray} {n k : Nat} {α : Type} (x : α) : zSh A B n k (pure x) (pure x) := by
  intro a j h
  have h : (Except.ok (x, k) : Except DecodeError (α × Nat)) = .ok (a, j) := h
  cases h
  rfl
theorem zrun_bind {α β : Type} (d : Decoder α) (f : α → Decoder β) (B : ByteArray) (k : Nat) : Reader.runAt (d >>= f) B k = (Reader.runAt d B k).bind fun q => Reader.runAt (f q.1) B q.2 := rfl
theorem zSh_bind {A B : ByteArray} {n k : Nat} {α β : Type} {d d1 : Decoder α} {f f1 : α → Decoder β} (h1 : zSh A B n k d d1) (h2 : ∀ (a : α) (j : Nat), Reader.runAt d1 B k = .ok (a, j) → zSh A B n j (f a) (f1 a)) : zSh A B n k (d >>= f) (d1 >>= f1) := by
  intro b j h
  rw [zrun_bind] at h ⊢
  cases hq : Reader.runAt d1 B k with
  | error e => rw [hq] at h; cases h
  | ok q =>
    obtain ⟨a, i⟩ := q
    rw [hq] at h
    rw [h1 a i hq]
    exact h2 a i hq b j h
theorem zrun_map {α β : Type} (g : α → β) (d : Decoder α) (B : ByteArray) (k : Nat) : Reader.runAt (g <$> d) B k = (Reader.runAt d B k).bind fun q => .ok (g q.1, q.2) := rfl
theorem zSh_map {A B : ByteArray} {n k : Nat} {α β : Type} {d d1 : Decoder α} (g : α → β) (h1 : zSh A B n k d d1) : zSh A B n k (g <$> d) (g <$> d1) := by
  intro b j h
  rw [zrun_map] at h ⊢
  cases hq : Reader.runAt d1 B k with
  | error e => rw [hq] at h; cases h
  | ok q =>
    obtain ⟨a, i⟩ := q
    rw [hq] at h
    rw [h1 a i hq]
    cases h
    rfl
def zWin (A B : ByteArray) (n : Nat) : Prop := (A.data.toList.drop n).take 160 = B.data.toList
theorem zwin_get {A B : ByteArray} {n k : Nat} (h : zWin A B n) (hk : k < B.size) : ∃ h9 : n + k < A.size, A[n + k]'h9 = B[k]'hk := by
  have hk2 : k < B.data.toList.length := by rw [Array.length_toList]; exact hk
  have e1 : B.data.toList[k]? = some (B.data.toList[k]'hk2) := List.getElem?_eq_getElem hk2
  have e2 : ((A.data.toList.drop n).take 160)[k]? = some (B.data.toList[k]'hk2) := by
    rw [show (A.data.toList.drop n).take 160 = B.data.toList from h]
    exact e1
  have hk3 : k < 160 := by
    obtain ⟨hl, -⟩ := List.getElem?_eq_some_iff.mp e2
    rw [List.length_take] at hl
    omega
  rw [List.getElem?_take_of_lt hk3, List.getElem?_drop] at e2
  obtain ⟨hl, he⟩ := List.getElem?_eq_some_iff.mp e2
  have hl2 : n + k < A.size := by rw [Array.length_toList] at hl; exact hl
  refine ⟨hl2, ?_⟩
  show A.data[n + k]'hl2 = B.data[k]'hk
  rw [← Array.getElem_toList, ← Array.getElem_toList]
  exact he
theorem zu1_ok {B : ByteArray} {k : Nat} (h : k < B.size) : Reader.runAt (Reader.u1 : Decoder Nat) B k = .ok ((B[k]'h).toNat, k + 1) := by
  have e : Reader.runAt (Reader.u1 : Decoder Nat) B k = (if h : k < B.size then (do set (k + 1); pure (B[k]'h).toNat : Decoder Nat) else throw (HasTruncated.truncated k)) B k := rfl
  rw [e, dif_pos h]
  rfl
theorem zu1_no {B : ByteArray} {k : Nat} (h : ¬ k < B.size) : ∃ e9, Reader.runAt (Reader.u1 : Decoder Nat) B k = .error e9 := by
  have e : Reader.runAt (Reader.u1 : Decoder Nat) B k = (if h : k < B.size then (do set (k + 1); pure (B[k]'h).toNat : Decoder Nat) else throw (HasTruncated.truncated k)) B k := rfl
  rw [e, dif_neg h]
  exact ⟨_, rfl⟩
theorem zSh_u1 {A B : ByteArray} {n k : Nat} (h : zWin A B n) : zSh A B n k (Reader.u1 : Decoder Nat) Reader.u1 := by
  intro a j hj
  by_cases hk : k < B.size
  · rw [zu1_ok hk] at hj
    cases hj
    obtain ⟨h9, he⟩ := zwin_get h hk
    rw [zu1_ok h9, he]
    rfl
  · obtain ⟨e9, he⟩ := zu1_no hk
    rw [he] at hj
    cases hj
theorem zSh_u2 {A B : ByteArray} {n k : Nat} (h : zWin A B n) : zSh A B n k (Reader.u2 : Decoder Nat) Reader.u2 := zSh_bind (zSh_u1 h) fun _ _ _ => zSh_bind (zSh_u1 h) fun _ _ _ => zSh_pure _
theorem zSh_s1 {A B : ByteArray} {n k : Nat} (h : zWin A B n) : zSh A B n k (Reader.s1 : Decoder Int) Reader.s1 := zSh_map _ (zSh_u1 h)
theorem zSh_s2 {A B : ByteArray} {n k : Nat} (h : zWin A B n) : zSh A B n k (Reader.s2 : Decoder Int) Reader.s2 := zSh_map _ (zSh_u2 h)
def zops : List Nat := [0, 1, 3, 4, 5, 6, 7, 8, 9, 10, 16, 21, 22, 25, 26, 27, 28, 29, 42, 43, 44, 45, 46, 47, 54, 55, 56, 57, 58, 75, 76, 77, 78, 89, 96, 100, 126, 132, 133, 146, 148, 153, 154, 159, 160, 161, 162, 163, 164, 167, 172, 182, 183, 184, 190]
def zuse (B : ByteArray) (k : Nat) : Bool := match Reader.runAt (Reader.u1 : Decoder Nat) B k with
  | .ok q => zops.contains q.1
  | .error _ => false
theorem zuse_op {B : ByteArray} {k a j : Nat} (hu : zuse B k = true) (h : Reader.runAt (Reader.u1 : Decoder Nat) B k = .ok (a, j)) : a ∈ zops := by
  unfold zuse at hu
  rw [h] at hu
  simpa using hu
set_option maxHeartbeats 4000000 in
theorem zSh_instr {A B : ByteArray} {n k : Nat} (h : zWin A B n) (hu : zuse B k = true) : zSh A B n k (Decoder.instr (n + k)) (Decoder.instr k) := by
  unfold Decoder.instr
  refine zSh_bind (zSh_u1 h) ?_
  intro a j hj
  have ha := zuse_op hu hj
  simp only [zops, List.mem_cons, List.not_mem_nil, or_false] at ha
  rcases ha with rfl | rfl | rfl | rfl | rfl | rfl | rfl | rfl | rfl | rfl | rfl | rfl | rfl | rfl | rfl | rfl | rfl | rfl | rfl | rfl | rfl | rfl | rfl | rfl | rfl | rfl | rfl | rfl | rfl | rfl | rfl | rfl | rfl | rfl | rfl | rfl | rfl | rfl | rfl | rfl | rfl | rfl | rfl | rfl | rfl | rfl | rfl | rfl | rfl | rfl | rfl | rfl | rfl | rfl | rfl
  · exact zSh_pure _
  · exact zSh_pure _
  · exact zSh_pure _
  · exact zSh_pure _
  · exact zSh_pure _
  · exact zSh_pure _
  · exact zSh_pure _
  · exact zSh_pure _
  · exact zSh_pure _
  · exact zSh_pure _
  · exact zSh_bind (zSh_s1 h) fun _ _ _ => zSh_pure _
  · exact zSh_bind (zSh_u1 h) fun _ _ _ => zSh_pure _
  · exact zSh_bind (zSh_u1 h) fun _ _ _ => zSh_pure _
  · exact zSh_bind (zSh_u1 h) fun _ _ _ => zSh_pure _
  · exact zSh_pure _
  · exact zSh_pure _
  · exact zSh_pure _
  · exact zSh_pure _
  · exact zSh_pure _
  · exact zSh_pure _
  · exact zSh_pure _
  · exact zSh_pure _
  · exact zSh_pure _
  · exact zSh_pure _
  · exact zSh_bind (zSh_u1 h) fun _ _ _ => zSh_pure _
  · exact zSh_bind (zSh_u1 h) fun _ _ _ => zSh_pure _
  · exact zSh_bind (zSh_u1 h) fun _ _ _ => zSh_pure _
  · exact zSh_bind (zSh_u1 h) fun _ _ _ => zSh_pure _
  · exact zSh_bind (zSh_u1 h) fun _ _ _ => zSh_pure _
  · exact zSh_pure _
  · exact zSh_pure _
  · exact zSh_pure _
  · exact zSh_pure _
  · exact zSh_pure _
  · exact zSh_pure _
  · exact zSh_pure _
  · exact zSh_pure _
  · exact zSh_bind (zSh_u1 h) fun _ _ _ => zSh_bind (zSh_s1 h) fun _ _ _ => zSh_pure _
  · exact zSh_pure _
  · exact zSh_pure _
  · exact zSh_pure _
  · exact zSh_bind (zSh_s2 h) fun _ _ _ => zSh_pure _
  · exact zSh_bind (zSh_s2 h) fun _ _ _ => zSh_pure _
  · exact zSh_bind (zSh_s2 h) fun _ _ _ => zSh_pure _
  · exact zSh_bind (zSh_s2 h) fun _ _ _ => zSh_pure _
  · exact zSh_bind (zSh_s2 h) fun _ _ _ => zSh_pure _
  · exact zSh_bind (zSh_s2 h) fun _ _ _ => zSh_pure _
  · exact zSh_bind (zSh_s2 h) fun _ _ _ => zSh_pure _
  · exact zSh_bind (zSh_s2 h) fun _ _ _ => zSh_pure _
  · exact zSh_bind (zSh_s2 h) fun _ _ _ => zSh_pure _
  · exact zSh_pure _
  · exact zSh_bind (zSh_u2 h) fun _ _ _ => zSh_pure _
  · exact zSh_bind (zSh_u2 h) fun _ _ _ => zSh_pure _
  · exact zSh_bind (zSh_u2 h) fun _ _ _ => zSh_pure _
  · exact zSh_pure _
theorem zdec {A B : ByteArray} {n k len : Nat} {i : Instr} (h : zWin A B n) (hu : zuse B k = true) (hd : decode B k = .ok (i, len)) : decode A (n + k) = .ok (i, len) := by
  have e : ∀ (b : ByteArray) (q : Nat), decode b q = (Reader.runAt (Decoder.instr q) b q).bind fun z => .ok (z.1, z.2 - q) := fun _ _ => rfl
  rw [e] at hd ⊢
  cases hq : Reader.runAt (Decoder.instr k) B k with
  | error e9 => rw [hq] at hd; cases hd
  | ok z =>
    obtain ⟨a, j⟩ := z
    rw [hq] at hd
    rw [zSh_instr h hu a j hq]
    have hd : (Except.ok (a, j - k) : Except DecodeError (Instr × Nat)) = .ok (i, len) := hd
    cases hd
    show (Except.ok (_, n + j - (n + k)) : Except DecodeError (Instr × Nat)) = Except.ok (_, j - k)
    rw [Nat.add_sub_add_left]
theorem zand {a b : Bool} (h : (a && b) = true) : a = true ∧ b = true := by simpa using h
theorem zandI {a b : Bool} (h1 : a = true) (h2 : b = true) : (a && b) = true := by rw [h1, h2]; rfl
theorem zor {a b : Bool} (h : (a || b) = true) : a = true ∨ b = true := by simpa using h
def zsb (M : zMeth) (b : ByteArray) : zMeth := (M.1, b, M.2.2)
theorem zchkC_d {P : List zMeth} {M : zMeth} {pc k : Nat} {x : List Nat} {b : ByteArray} (h : zchkC P (zsb M b) k x = true) (hd : ∀ i : Instr, decode b k = .ok (i, 3) → decode (zm_b M) pc = .ok (i, 3)) : zchkC P M pc x = true := by
  unfold zchkC at h ⊢
  cases hz : zat P (zx x 2) with
  | none => rw [hz] at h; cases h
  | some M1 =>
    rw [hz] at h
    dsimp only at h ⊢
    have h1 := zand h
    have h2 := zand h1.2
    refine zandI h1.1 (zandI h2.1 ?_)
    have h3 := h2.2
    revert h3
    generalize zx x 1 = kind
    match kind with
    | 0 => exact fun h3 => zandI (decide_eq_true (hd _ (of_decide_eq_true (zand h3).1))) (zand h3).2
    | 1 => exact fun h3 => zandI (decide_eq_true (hd _ (of_decide_eq_true (zand h3).1))) (zand h3).2
    | 2 => exact fun h3 => zandI (decide_eq_true (hd _ (of_decide_eq_true (zand h3).1))) (zand h3).2
    | 3 => exact fun h3 => zandI (decide_eq_true (hd _ (of_decide_eq_true (zand h3).1))) (zand h3).2
    | 4 => exact fun h3 => zandI (decide_eq_true (hd _ (of_decide_eq_true (zand h3).1))) (zand h3).2
    | k9 + 5 => exact fun h3 => h3
/-- a row of the law, its instruction read out of the window it lies in -/
def zchkJ (P : List zMeth) (M : zMeth) (b : ByteArray) (k : Nat) (i : zIns) : Bool := zuse b k && (match i.2.1 with
  | 0 => zchkR (zsb M b) k i.2.2
  | 1 => false
  | 2 => zchkC P (zsb M b) k i.2.2
  | Nat.succ (Nat.succ (Nat.succ o)) => match zat zopT o with
    | some q => decide (decode b k = .ok (q.1 i.1 i.2.2, q.2.1)) && q.2.2.1 M i.2.2
    | none => false)
theorem zchkJ_ok {P : List zMeth} {M : zMeth} {b : ByteArray} {n k : Nat} {i : zIns} (h : zchkJ P M b k i = true) (hw : zWin (zm_b M) b n) (hn : i.1 = n + k) : zchkI P M i = true := by
  obtain ⟨hu, h⟩ := zand h
  obtain ⟨pc, op, x⟩ := i
  have hn : pc = n + k := hn
  subst hn
  match op, h with
  | 0, h =>
    have h : (Nat.beq (zx x 0) (zm_rt M) && (Nat.beq (zx x 0) 9 || decide (decode b k = .ok (zretI (zx x 0), 1)))) = true := h
    have h1 := zand h
    show (Nat.beq (zx x 0) (zm_rt M) && (Nat.beq (zx x 0) 9 || decide (decode (zm_b M) (n + k) = .ok (zretI (zx x 0), 1)))) = true
    rcases zor h1.2 with h2 | h2
    · rw [h1.1, h2]; rfl
    · rw [h1.1, decide_eq_true (zdec hw hu (of_decide_eq_true h2)), Bool.or_true]; rfl
  | 1, h => cases h
  | 2, h => exact zchkC_d (show zchkC P (zsb M b) k x = true from h) fun i9 h9 => zdec hw hu h9
  | o + 3, h =>
    have h : (match zat zopT o with
      | some q => decide (decode b k = .ok (q.1 (n + k) x, q.2.1)) && q.2.2.1 M x
      | none => false) = true := h
    show (match zat zopT o with
      | some q => decide (decode (zm_b M) (n + k) = .ok (q.1 (n + k) x, q.2.1)) && q.2.2.1 M x
      | none => false) = true
    cases hz : zat zopT o with
    | none => rw [hz] at h; cases h
    | some q =>
      rw [hz] at h
      have h1 := zand h
      exact zandI (decide_eq_true (zdec hw hu (of_decide_eq_true h1.1))) h1.2
/-- the rows by their windows of 128 bytes; those of the first two as they stand -/
def zchkK (P : List zMeth) (M : zMeth) (W9 : List ByteArray) (i : zIns) : Bool := cond (Nat.blt i.1 256) (zchkI P M i) (match zat W9 (i.1 / 128) with
  | some b => zchkJ P M b (i.1 % 128) i
  | none => false)
theorem zchkK_ok {P : List zMeth} {M : zMeth} {W9 : List ByteArray} (hw : ∀ j b, W9[j]? = some b → zWin (zm_b M) b (128 * j)) {i : zIns} (h : zchkK P M W9 i = true) : zchkI P M i = true := by
  unfold zchkK at h
  cases hb : Nat.blt i.1 256 with
  | true => rw [hb] at h; exact h
  | false =>
    rw [hb] at h
    dsimp only [cond] at h
    cases hz : zat W9 (i.1 / 128) with
    | none => rw [hz] at h; cases h
    | some b =>
      rw [hz] at h
      rw [zat_eq] at hz
      exact zchkJ_ok h (hw _ _ hz) (Nat.div_add_mod _ _).symm
