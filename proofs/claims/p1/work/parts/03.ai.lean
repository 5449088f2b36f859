/-! AN ABSTRACT MACHINE for runs whose heap is known: values (tag, number), a heap that is a list of cells (an object: 0, its class, its fields; an array of the type code t: t + 1, 0, its elements), a reference is a place of that list.
Tags: 0 an int by its 32 bits; 1 a cell of the script; 2 null; 3 a reference; 4 a long by its 64 bits; 5 the double of an int; 6 the double 0; 7 the float of an int; 8 the script; 9 a cell of the script as a char; 10 ArrayList's empty array. -/
abbrev zAV := Nat × Nat
abbrev zCell := Nat × Nat × List zAV
abbrev zH := List zCell
abbrev zL := List (Nat × zAV)
abbrev zSt := Nat × zL × List zAV × zH × Nat × Nat
abbrev zRes := Nat × Nat × zSt
abbrev zK := zSt → Option zRes
abbrev zEv := List (Nat × Nat) × Nat × Nat
abbrev zIns := Nat × Nat × List Nat
abbrev zMeth := MethodName × ByteArray × Nat × Option FieldType × Nat × List zIns × (Nat × Nat × Nat × Nat) × List (Nat × Nat × Nat × Nat × Nat)
def zm_y (M : zMeth) : MethodName := M.1
def zm_b (M : zMeth) : ByteArray := M.2.1
def zm_L (M : zMeth) : Nat := M.2.2.1
def zm_ret (M : zMeth) : Option FieldType := M.2.2.2.1
def zm_rt (M : zMeth) : Nat := M.2.2.2.2.1
def zm_code (M : zMeth) : List zIns := M.2.2.2.2.2.1
def zm_rm (M : zMeth) : Nat × Nat × Nat × Nat := M.2.2.2.2.2.2.1
def zm_hh (M : zMeth) : List (Nat × Nat × Nat × Nat × Nat) := M.2.2.2.2.2.2.2
def zroom (M : zMeth) : Room := { frames := (zm_rm M).1, cells := (zm_rm M).2.1, slots := (zm_rm M).2.2.1, locals := (zm_rm M).2.2.2 }
/-- go on with a number that is worked out -/
def zN {β : Type} (n : Nat) (k : Nat → β) : β := match n with
  | 0 => k 0
  | Nat.succ m => k (Nat.succ m)
theorem zN_eq {β : Type} (n : Nat) (k : Nat → β) : zN n k = k n := by cases n <;> rfl
def zat {α : Type} : List α → Nat → Option α
  | [], _ => none
  | a :: l, n => match n with
    | 0 => some a
    | Nat.succ m => zat l m
theorem zat_eq {α : Type} : ∀ (l : List α) (n : Nat), zat l n = l[n]?
  | [], n => by simp [zat]
  | a :: l, 0 => by simp [zat]
  | a :: l, n + 1 => by show zat l n = _; rw [zat_eq l n]; simp
def zset {α β : Type} : List α → Nat → α → (List α → β) → β
  | [], _, _, k => k []
  | a :: l, n, v, k => match n with
    | 0 => k (v :: l)
    | Nat.succ m => zset l m v (fun l' => k (a :: l'))
theorem zset_eq {α β : Type} : ∀ (l : List α) (n : Nat) (v : α) (k : List α → β), zset l n v k = k (l.set n v)
  | [], n, v, k => by simp [zset]
  | a :: l, 0, v, k => by simp [zset]
  | a :: l, n + 1, v, k => by show zset l n v _ = _; rw [zset_eq l n v]; simp
def zapp {α β : Type} : List α → List α → (List α → β) → β
  | [], m, k => k m
  | a :: l, m, k => zapp l m (fun l' => k (a :: l'))
theorem zapp_eq {α β : Type} : ∀ (l m : List α) (k : List α → β), zapp l m k = k (l ++ m)
  | [], m, k => by simp [zapp]
  | a :: l, m, k => by show zapp l m _ = _; rw [zapp_eq l m]; simp
def zlk (i : Nat) : zL → Option zAV
  | [] => none
  | q :: l => cond (Nat.beq q.1 i) (some q.2) (zlk i l)
theorem zlk_mem {i : Nat} {v : zAV} : ∀ {l : zL}, zlk i l = some v → (i, v) ∈ l
  | q :: l, h => by
    unfold zlk at h
    cases hb : Nat.beq q.1 i with
    | true =>
      rw [hb] at h
      have h1 : q.1 = i := Nat.eq_of_beq_eq_true hb
      have h2 : q.2 = v := by simpa using h
      subst h1; subst h2
      exact List.mem_cons_self
    | false =>
      rw [hb] at h
      exact List.mem_cons_of_mem _ (zlk_mem (by simpa using h))
  | [], h => by simp [zlk] at h
def zcat (v : zAV) : Nat := cond (Nat.beq v.1 4 || Nat.beq v.1 5 || Nat.beq v.1 6) 2 1
def zkeep1 (i : Nat) (q : Nat × zAV) : Bool := !(Nat.beq q.1 i) && !(Nat.beq (q.1 + 1) i && Nat.beq (zcat q.2) 2)
def zkeep2 (i : Nat) (q : Nat × zAV) : Bool := !(Nat.beq q.1 i) && (!(Nat.beq q.1 (i + 1)) && !(Nat.beq (q.1 + 1) i && Nat.beq (zcat q.2) 2))
def zfil {α β : Type} (f : α → Bool) : List α → (List α → β) → β
  | [], k => k []
  | a :: l, k => cond (f a) (zfil f l (fun l' => k (a :: l'))) (zfil f l k)
theorem zfil_eq {α β : Type} (f : α → Bool) : ∀ (l : List α) (k : List α → β), zfil f l k = k (l.filter f)
  | [], k => by simp [zfil]
  | a :: l, k => by
    unfold zfil
    cases h : f a <;> simp [h, zfil_eq f l]
theorem zc {α : Type} {c : Bool} {a : Option α} {r : α} (h : cond c a none = some r) : c = true ∧ a = some r := by
  cases c
  · simp at h
  · exact ⟨rfl, by simpa using h⟩
/-! what the values are -/
def zI (ρ : Nat → Int32) (v : zAV) : Int32 := match v.1 with
  | 0 => nI v.2
  | 1 => ρ v.2
  | 9 => ((ρ v.2).toUInt32 % 65536).toInt32
  | _ => 0
def zJ (v : zAV) : Int64 := match v.1 with
  | 4 => lN v.2
  | _ => 0
def zD (v : zAV) : UInt64 := match v.1 with
  | 5 => FP.i2d (nI v.2)
  | 6 => FP.dconst0
  | _ => 0
def zR (ad : Nat → Nat) (b td : Nat) (v : zAV) : Option Nat := match v.1 with
  | 3 => some (ad v.2)
  | 8 => some b
  | 10 => some td
  | _ => none
def zV (ρ : Nat → Int32) (ad : Nat → Nat) (b td : Nat) (v : zAV) : Value := match v.1 with
  | 0 => .int (zI ρ v)
  | 1 => .int (zI ρ v)
  | 9 => .int (zI ρ v)
  | 4 => .long (zJ v)
  | 5 => .double (zD v)
  | 6 => .double (zD v)
  | 7 => .float (FP.i2f (nI v.2))
  | _ => va_rf (zR ad b td v)
def zisI (v : zAV) : Bool := Nat.beq v.1 0 || (Nat.beq v.1 1 || Nat.beq v.1 9)
def zisJ (v : zAV) : Bool := Nat.beq v.1 4
def zisD (v : zAV) : Bool := Nat.beq v.1 5 || Nat.beq v.1 6
def zisF (v : zAV) : Bool := Nat.beq v.1 7
def zisR (v : zAV) : Bool := Nat.beq v.1 2 || (Nat.beq v.1 3 || (Nat.beq v.1 8 || Nat.beq v.1 10))
section ZV
variable {ρ : Nat → Int32} {ad : Nat → Nat} {b td : Nat} {v : zAV}
theorem zV_I (h : zisI v = true) : zV ρ ad b td v = .int (zI ρ v) := by
  obtain ⟨t, n⟩ := v
  simp only [zisI, Bool.or_eq_true] at h
  rcases h with h | h | h <;> (have h := Nat.eq_of_beq_eq_true h; (try dsimp only at h); subst h; rfl)
theorem zV_J (h : zisJ v = true) : zV ρ ad b td v = .long (zJ v) := by
  obtain ⟨t, n⟩ := v
  have h := Nat.eq_of_beq_eq_true h
  dsimp only at h; subst h; rfl
theorem zV_D (h : zisD v = true) : zV ρ ad b td v = .double (zD v) := by
  obtain ⟨t, n⟩ := v
  simp only [zisD, Bool.or_eq_true] at h
  rcases h with h | h <;> (have h := Nat.eq_of_beq_eq_true h; (try dsimp only at h); subst h; rfl)
theorem zV_F (h : zisF v = true) : zV ρ ad b td v = .float (FP.i2f (nI v.2)) := by
  obtain ⟨t, n⟩ := v
  have h := Nat.eq_of_beq_eq_true h
  dsimp only at h; subst h; rfl
theorem zV_R (h : zisR v = true) : zV ρ ad b td v = va_rf (zR ad b td v) := by
  obtain ⟨t, n⟩ := v
  simp only [zisR, Bool.or_eq_true] at h
  rcases h with h | h | h | h <;> (have h := Nat.eq_of_beq_eq_true h; (try dsimp only at h); subst h; rfl)
theorem zV_3 (h : Nat.beq v.1 3 = true) : zV ρ ad b td v = .ref (ad v.2) := by
  obtain ⟨t, n⟩ := v
  have h := Nat.eq_of_beq_eq_true h
  dsimp only at h; subst h; rfl
theorem zV_0 (h : Nat.beq v.1 0 = true) : zV ρ ad b td v = .int (nI v.2) := by
  obtain ⟨t, n⟩ := v
  have h := Nat.eq_of_beq_eq_true h
  dsimp only at h; subst h; rfl
theorem zV_2 (h : Nat.beq v.1 2 = true) : zV ρ ad b td v = .null := by
  obtain ⟨t, n⟩ := v
  have h := Nat.eq_of_beq_eq_true h
  dsimp only at h; subst h; rfl
theorem zV_4 (h : Nat.beq v.1 4 = true) : zV ρ ad b td v = .long (lN v.2) := by
  obtain ⟨t, n⟩ := v
  have h := Nat.eq_of_beq_eq_true h
  dsimp only at h; subst h; rfl
theorem zV_8 (h : Nat.beq v.1 8 = true) : zV ρ ad b td v = .ref b := by
  obtain ⟨t, n⟩ := v
  have h := Nat.eq_of_beq_eq_true h
  dsimp only at h; subst h; rfl
theorem zV_10 (h : Nat.beq v.1 10 = true) : zV ρ ad b td v = .ref td := by
  obtain ⟨t, n⟩ := v
  have h := Nat.eq_of_beq_eq_true h
  dsimp only at h; subst h; rfl
theorem zI_0 (h : Nat.beq v.1 0 = true) : zI ρ v = nI v.2 := by
  obtain ⟨t, n⟩ := v
  have h := Nat.eq_of_beq_eq_true h
  dsimp only at h; subst h; rfl
theorem zV_cat (v : zAV) : (zV ρ ad b td v).category = zcat v := by
  obtain ⟨t, n⟩ := v
  have hr : ∀ o : Option Nat, (va_rf o).category = 1 := fun o => by cases o <;> rfl
  match t with
  | 0 => rfl
  | 1 => rfl
  | 2 => rfl
  | 3 => rfl
  | 4 => rfl
  | 5 => rfl
  | 6 => rfl
  | 7 => rfl
  | 8 => rfl
  | 9 => rfl
  | 10 => rfl
  | t + 11 => rfl
end ZV
def zT (t : Nat) : FieldType := match t with
  | 0 => .int
  | 1 => .boolean
  | 2 => .long
  | 3 => .char
  | 4 => .double
  | 5 => .object "java/lang/Object"
  | 6 => .array .int
  | 7 => .array (.object "FormRiverModel$Version")
  | 8 => .object "FormRiverModel$Version"
  | _ => .object "FormRiverModel$Submission"
def zC (ρ : Nat → Int32) (ad : Nat → Nat) (b td : Nat) (t : Nat) (vs : List zAV) : vp_A := (vs.length, match t with
  | 0 => .inl (fun j => zI ρ (vs.getD j (0, 0)))
  | 1 => .inl (fun j => zI ρ (vs.getD j (0, 0)))
  | 3 => .inl (fun j => zI ρ (vs.getD j (0, 0)))
  | 2 => .inr (.inl (fun j => zJ (vs.getD j (4, 0))))
  | 4 => .inr (.inr (.inr (.inl (fun j => zD (vs.getD j (6, 0))))))
  | _ => .inr (.inr (.inr (.inr (fun j => zR ad b td (vs.getD j (2, 0)))))))
def zE (ρ : Nat → Int32) (ad : Nat → Nat) (ca : Nat → ClassId) (b td : Nat) (p : Nat) (c : zCell) : va_E := match c.1 with
  | 0 => .inr (c.2.1, c.2.2.map (zV ρ ad b td))
  | Nat.succ t => .inl (ca p, zC ρ ad b td t c.2.2)
def zW (ρ : Nat → Int32) (ad : Nat → Nat) (ca : Nat → ClassId) (b td : Nat) : Nat → zH → va_W
  | _, [] => []
  | p, c :: G => (ad p, zE ρ ad ca b td p c) :: zW ρ ad ca b td (p + 1) G
section ZW
variable {ρ : Nat → Int32} {ad : Nat → Nat} {ca : Nat → ClassId} {b td : Nat}
theorem zW_get : ∀ (G : zH) (p k : Nat) (c : zCell), G[k]? = some c → (zW ρ ad ca b td p G)[k]? = some (ad (p + k), zE ρ ad ca b td (p + k) c)
  | [], p, k, c, h => by simp at h
  | c0 :: G, p, 0, c, h => by
    have h : c0 = c := by simpa using h
    subst h
    simp [zW]
  | c0 :: G, p, k + 1, c, h => by
    have h : G[k]? = some c := by simpa using h
    have h2 := zW_get G (p + 1) k c h
    have e : p + (k + 1) = p + 1 + k := by omega
    rw [e]
    simpa [zW] using h2
theorem zW_none : ∀ (G : zH) (p k : Nat), G[k]? = none → (zW ρ ad ca b td p G)[k]? = none
  | [], p, k, h => by simp [zW]
  | c0 :: G, p, 0, h => by simp at h
  | c0 :: G, p, k + 1, h => by
    have h : G[k]? = none := by simpa using h
    have h2 := zW_none G (p + 1) k h
    simpa [zW] using h2
theorem zW_len : ∀ (G : zH) (p : Nat), (zW ρ ad ca b td p G).length = G.length
  | [], p => rfl
  | c :: G, p => by simp [zW, zW_len G (p + 1)]
theorem zW_set : ∀ (G : zH) (p k : Nat) (c : zCell), k < G.length → (zW ρ ad ca b td p G).set k (ad (p + k), zE ρ ad ca b td (p + k) c) = zW ρ ad ca b td p (G.set k c)
  | [], p, k, c, h => by simp at h
  | c0 :: G, p, 0, c, h => by simp [zW]
  | c0 :: G, p, k + 1, c, h => by
    have h2 := zW_set G (p + 1) k c (by simpa using h)
    have e : p + (k + 1) = p + 1 + k := by omega
    rw [e]
    simp [zW, h2]
theorem zW_app : ∀ (G G' : zH) (p : Nat), zW ρ ad ca b td p (G ++ G') = zW ρ ad ca b td p G ++ zW ρ ad ca b td (p + G.length) G'
  | [], G', p => by simp [zW]
  | c :: G, G', p => by
    have h := zW_app G G' (p + 1)
    have e : p + (c :: G).length = p + 1 + G.length := by simp; omega
    rw [e]
    simp [zW, h]
end ZW
def zok (n : Nat) (v : zAV) : Bool := !(Nat.beq v.1 3) || Nat.blt v.2 n
def zwf (n : Nat) (G : zH) : Prop := ∀ c ∈ G, ∀ v ∈ c.2.2, zok n v = true
theorem zok_lt {n : Nat} {v : zAV} (h : zok n v = true) (h3 : v.1 = 3) : v.2 < n := by
  obtain ⟨t, k⟩ := v
  dsimp only at h3; subst h3
  simpa [zok] using h
theorem zok_mono {n n' : Nat} {v : zAV} (hn : n ≤ n') (h : zok n v = true) : zok n' v = true := by
  by_cases h3 : v.1 = 3
  · have := zok_lt h h3
    obtain ⟨t, k⟩ := v
    dsimp only at h3 this; subst h3
    have : k < n' := by omega
    simp [zok, this]
  · obtain ⟨t, k⟩ := v
    have hb : Nat.beq t 3 = false := by
      cases hq : Nat.beq t 3 with
      | true => exact absurd (Nat.eq_of_beq_eq_true hq) h3
      | false => rfl
    simp [zok, hb]
theorem zwf_mono {n n' : Nat} {G : zH} (hn : n ≤ n') (h : zwf n G) : zwf n' G := fun c hc v hv => zok_mono hn (h c hc v hv)
theorem zR_congr {ad ad' : Nat → Nat} {b td n : Nat} {v : zAV} (h : zok n v = true) (ha : ∀ k, k < n → ad' k = ad k) : zR ad' b td v = zR ad b td v := by
  by_cases h3 : v.1 = 3
  · have := ha _ (zok_lt h h3)
    obtain ⟨t, k⟩ := v
    dsimp only at h3 this; subst h3
    show some (ad' k) = some (ad k)
    rw [this]
  · obtain ⟨t, k⟩ := v
    dsimp only at h3
    match t with
    | 0 => rfl
    | 1 => rfl
    | 2 => rfl
    | 3 => exact absurd rfl h3
    | 4 => rfl
    | 5 => rfl
    | 6 => rfl
    | 7 => rfl
    | 8 => rfl
    | 9 => rfl
    | 10 => rfl
    | t + 11 => rfl
theorem zV_congr {ρ : Nat → Int32} {ad ad' : Nat → Nat} {b td n : Nat} {v : zAV} (h : zok n v = true) (ha : ∀ k, k < n → ad' k = ad k) : zV ρ ad' b td v = zV ρ ad b td v := by
  have hr := zR_congr (b := b) (td := td) h ha
  unfold zV
  rw [hr]
theorem zE_congr {ρ : Nat → Int32} {ad ad' : Nat → Nat} {ca ca' : Nat → ClassId} {b td n p : Nat} {c : zCell} (h : ∀ v ∈ c.2.2, zok n v = true) (ha : ∀ k, k < n → ad' k = ad k) (hc : ca' p = ca p) : zE ρ ad' ca' b td p c = zE ρ ad ca b td p c := by
  obtain ⟨k, ci, vs⟩ := c
  have hm : vs.map (zV ρ ad' b td) = vs.map (zV ρ ad b td) := List.map_congr_left fun v hv => zV_congr (h v hv) ha
  have hg : (fun j => zR ad' b td (vs.getD j (2, 0))) = fun j => zR ad b td (vs.getD j (2, 0)) := by
    funext j
    refine zR_congr (n := n) ?_ ha
    rw [List.getD_eq_getElem?_getD]
    cases hj : vs[j]? with
    | none => rfl
    | some v => exact h v (List.mem_of_getElem? hj)
  cases k with
  | zero => show Sum.inr _ = Sum.inr _; rw [hm]
  | succ t =>
    show Sum.inl _ = Sum.inl _
    rw [hc]
    unfold zC
    rw [hg]
theorem zW_congr {ρ : Nat → Int32} {ad ad' : Nat → Nat} {ca ca' : Nat → ClassId} {b td n : Nat} (ha : ∀ k, k < n → ad' k = ad k) (hc : ∀ k, k < n → ca' k = ca k) : ∀ (G : zH) (p : Nat), p + G.length ≤ n → (∀ c ∈ G, ∀ v ∈ c.2.2, zok n v = true) → zW ρ ad' ca' b td p G = zW ρ ad ca b td p G
  | [], p, _, _ => rfl
  | c :: G, p, hp, hw => by
    have hp' : p + 1 + G.length ≤ n := by simp at hp; omega
    unfold zW
    rw [zE_congr (n := n) (hw c List.mem_cons_self) ha (hc p (by omega)), ha p (by omega), zW_congr ha hc G (p + 1) hp' fun c' h' => hw c' (List.mem_cons_of_mem _ h')]
