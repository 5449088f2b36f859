/-! INSTRUCTIONS THAT READ, WRITE AND MAKE -/
def zob {α β : Type} (o : Option α) (f : α → Option β) : Option β := match o with
  | some a => f a
  | none => none
theorem zat_some {α : Type} {l : List α} {n : Nat} {a : α} (h : zat l n = some a) : l[n]? = some a := by rw [← zat_eq]; exact h
theorem zat_lt {α : Type} {l : List α} {n : Nat} {a : α} (h : zat l n = some a) : n < l.length := (List.getElem?_eq_some_iff.mp (zat_some h)).1
/-- a place written: the heap's picture with the new cell -/
theorem zHp_set {X : zX} {U : State} {G : zH} {ad : Nat → Nat} {ca : Nat → ClassId} {tys : List (ClassId × FieldType)} {H H1 : Heap} {k : Nat} {c c' : zCell} (h : zHp X U G ad ca tys H) (hk : zat G k = some c) (hc : c'.1 = c.1) (hv : ∀ v ∈ c'.2.2, zok G.length v = true)
    (hP : va_P (zxD X) vwCl ((zW (zxr X) ad ca (zxb X) (zxt X) 0 G).set k (ad k, zE (zxr X) ad ca (zxb X) (zxt X) k c')) H1) (hD : va_D (fun q => zx0 X ≤ q) ((zW (zxr X) ad ca (zxb X) (zxt X) 0 G).set k (ad k, zE (zxr X) ad ca (zxb X) (zxt X) k c'))) :
    zHp X U (G.set k c') ad ca tys H1 := by
  have e := zW_set (ρ := zxr X) (ad := ad) (ca := ca) (b := zxb X) (td := zxt X) G 0 k c' (zat_lt hk)
  rw [Nat.zero_add] at e
  rw [e] at hP hD
  refine ⟨h.1, hP, hD, ?_, ?_⟩
  · rw [List.length_set]
    intro c2 hc2 v hv2
    rcases List.mem_or_eq_of_mem_set hc2 with h2 | h2
    · exact h.2.2.2.1 c2 h2 v hv2
    · subst h2; exact hv v hv2
  · intro j t ci vs hj
    rw [List.getElem?_set] at hj
    by_cases hjk : k = j
    · subst hjk
      rw [if_pos rfl, if_pos (zat_lt hk)] at hj
      have hj : c' = (Nat.succ t, ci, vs) := Option.some.inj hj
      obtain ⟨c1, c2, c3⟩ := c
      have h1 : c1 = Nat.succ t := by rw [hj] at hc; exact hc.symm
      subst h1
      exact h.2.2.2.2 k t c2 c3 (zat_some hk)
    · rw [if_neg hjk] at hj
      exact h.2.2.2.2 j t ci vs hj
def zokA (n : Nat) (l : List zAV) : Bool := l.all (zok n)
def zokL (n : Nat) (L : zL) : Bool := L.all fun q => zok n q.2
/-- places made: the heap's picture with the new cells -/
theorem zHp_app {X : zX} {U : State} {G N : zH} {ad ad' : Nat → Nat} {ca ca' : Nat → ClassId} {tys tys' : List (ClassId × FieldType)} {H H1 : Heap} (h : zHp X U G ad ca tys H) (hK : va_K (zxD X) vwCl (tys ++ tys') U)
    (ha : ∀ k, k < G.length → ad' k = ad k) (hc : ∀ k, k < G.length → ca' k = ca k) (hv : ∀ c ∈ N, ∀ v ∈ c.2.2, zok (G.length + N.length) v = true)
    (ht : ∀ (k t ci : Nat) (vs : List zAV), N[k]? = some (Nat.succ t, ci, vs) → ∃ t0 : Nat, (tys ++ tys')[t0]? = some (ca' (G.length + k), zT t))
    (hP : va_P (zxD X) vwCl (zW (zxr X) ad ca (zxb X) (zxt X) 0 G ++ zW (zxr X) ad' ca' (zxb X) (zxt X) G.length N) H1) (hD : va_D (fun q => zx0 X ≤ q) (zW (zxr X) ad ca (zxb X) (zxt X) 0 G ++ zW (zxr X) ad' ca' (zxb X) (zxt X) G.length N)) :
    zHp X U (G ++ N) ad' ca' (tys ++ tys') H1 := by
  have e : zW (zxr X) ad' ca' (zxb X) (zxt X) 0 (G ++ N) = zW (zxr X) ad ca (zxb X) (zxt X) 0 G ++ zW (zxr X) ad' ca' (zxb X) (zxt X) G.length N := by
    rw [zW_app, Nat.zero_add, zW_congr (n := G.length) ha hc G 0 (by omega) (fun c h' v hv' => h.2.2.2.1 c h' v hv')]
  refine ⟨hK, by rw [e]; exact hP, by rw [e]; exact hD, ?_, ?_⟩
  · intro c2 hc2 v hv2
    rw [List.length_append]
    rcases List.mem_append.mp hc2 with h2 | h2
    · exact zok_mono (by omega) (h.2.2.2.1 c2 h2 v hv2)
    · exact hv c2 h2 v hv2
  · intro j t ci vs hj
    by_cases hlt : j < G.length
    · rw [List.getElem?_append_left hlt] at hj
      obtain ⟨t0, h0⟩ := h.2.2.2.2 j t ci vs hj
      refine ⟨t0, ?_⟩
      rw [hc j hlt, List.getElem?_append_left (List.getElem?_eq_some_iff.mp h0).1]
      exact h0
    · have hge : G.length ≤ j := Nat.le_of_not_lt hlt
      rw [List.getElem?_append_right hge] at hj
      obtain ⟨t0, h0⟩ := ht _ t ci vs hj
      have e2 : G.length + (j - G.length) = j := by omega
      rw [e2] at h0
      exact ⟨t0, h0⟩
def zup {α : Type} (f : Nat → α) (n : Nat) (v : α) : Nat → α := fun k => if k = n then v else f k
theorem zup_lt {α : Type} {f : Nat → α} {n : Nat} {v : α} (k : Nat) (h : k < n) : zup f n v k = f k := if_neg (Nat.ne_of_lt h)
theorem zup_eq {α : Type} {f : Nat → α} {n : Nat} {v : α} : zup f n v n = v := if_pos rfl
theorem zLc {X : zX} {ad ad' : Nat → Nat} {n : Nat} {L : zL} (h : zokL n L = true) (ha : ∀ k, k < n → ad' k = ad k) : (L.map fun q => (q.1, zV (zxr X) ad' (zxb X) (zxt X) q.2)) = L.map fun q => (q.1, zV (zxr X) ad (zxb X) (zxt X) q.2) := by
  apply List.map_congr_left
  intro q hq
  rw [zV_congr (List.all_eq_true.mp h q hq) ha]
theorem zSc {X : zX} {ad ad' : Nat → Nat} {n : Nat} {l : List zAV} (h : zokA n l = true) (ha : ∀ k, k < n → ad' k = ad k) : l.map (zV (zxr X) ad' (zxb X) (zxt X)) = l.map (zV (zxr X) ad (zxb X) (zxt X)) := by
  apply List.map_congr_left
  intro q hq
  exact zV_congr (List.all_eq_true.mp h q hq) ha
/-- one object or array made -/
theorem zRp_push {X : zX} {s : State} {nL n0 : Nat} {ad0 ad : Nat → Nat} {L : zL} {G : zH} {ca tys H locs ls} (hR : zRp X s nL n0 ad0 L G ad ca tys H locs ls) {c : zCell} {q : Nat} {cA : ClassId} {tys' : List (ClassId × FieldType)} {H1 : Heap} (hL : zokL G.length L = true)
    (hK : va_K (zxD X) vwCl (tys ++ tys') s) (hv : ∀ v ∈ c.2.2, v.1 ≠ 3) (ht : ∀ t ci vs, c = (Nat.succ t, ci, vs) → ∃ t0 : Nat, (tys ++ tys')[t0]? = some (cA, zT t))
    (hP : va_P (zxD X) vwCl (zW (zxr X) ad ca (zxb X) (zxt X) 0 G ++ [(q, zE (zxr X) ad (fun _ => cA) (zxb X) (zxt X) 0 c)]) H1) (hD : va_D (fun q => zx0 X ≤ q) (zW (zxr X) ad ca (zxb X) (zxt X) 0 G ++ [(q, zE (zxr X) ad (fun _ => cA) (zxb X) (zxt X) 0 c)])) (hS : va_S (fun q => zx0 X ≤ q) s.heap H1 locs) :
    zRp X s nL n0 ad0 L (G ++ [c]) (zup ad G.length q) (zup ca G.length cA) (tys ++ tys') H1 locs ls := by
  have hz : ∀ v ∈ c.2.2, ∀ n, zok n v = true := fun v h n => by
    obtain ⟨t, j⟩ := v
    have h3 := hv _ h
    have hb : Nat.beq t 3 = false := by
      cases hq : Nat.beq t 3 with
      | true => exact absurd (Nat.eq_of_beq_eq_true hq) h3
      | false => rfl
    simp [zok, hb]
  have e : zW (zxr X) (zup ad G.length q) (zup ca G.length cA) (zxb X) (zxt X) G.length [c] = [(q, zE (zxr X) ad (fun _ => cA) (zxb X) (zxt X) 0 c)] := by
    have e1 : zE (zxr X) (zup ad G.length q) (zup ca G.length cA) (zxb X) (zxt X) G.length c = zE (zxr X) ad (fun _ => cA) (zxb X) (zxt X) 0 c := by
      have h1 := zE_congr (ρ := zxr X) (ad := ad) (ad' := zup ad G.length q) (ca := fun _ => cA) (ca' := zup ca G.length cA) (b := zxb X) (td := zxt X) (n := 0) (p := G.length) (c := c) (fun v h => hz v h 0) (fun k h => absurd h (Nat.not_lt_zero k)) zup_eq
      rw [h1]
      obtain ⟨k, ci, vs⟩ := c
      cases k <;> rfl
    show [_] = [_]
    rw [e1, zup_eq]
  refine ⟨?_, ?_, hS, by rw [List.length_append]; exact Nat.le_trans hR.2.2.2.1 (Nat.le_add_right _ _), fun k hk => by rw [zup_lt k (Nat.lt_of_lt_of_le hk hR.2.2.2.1)]; exact hR.2.2.2.2 k hk⟩
  · rw [zLc hL fun k hk => zup_lt k hk]
    exact hR.1
  · refine zHp_app hR.2.1 hK (fun k hk => zup_lt k hk) (fun k hk => zup_lt k hk) (fun c' hc' v hv' => ?_) (fun k t ci vs hk => ?_) (by rw [e]; exact hP) (by rw [e]; exact hD)
    · rw [List.mem_singleton.mp hc'] at hv'
      exact hz v hv' _
    · have hk0 : k = 0 := by
        have := (List.getElem?_eq_some_iff.mp hk).1
        simpa using this
      subst hk0
      have hk : c = (Nat.succ t, ci, vs) := by simpa using hk
      rw [Nat.add_zero, zup_eq]
      exact ht t ci vs hk
theorem zw {M : zMeth} {w : Cond} {c : Nat} {args : Array Value} {s : State} (hts : ∀ w ∈ tblG, w.before args s = true) (h : hasW c w = true) : w.before args s = true := hts w (hasW_in h)
theorem zin {i n : Nat} (h : i < n) (h2 : i < 2147483648) : vp_in (nI i) n := by
  intro hq
  rcases hq with hq | hq
  · exact nI_pos h2 hq
  · rw [nI_clamp h2] at hq
    omega

def zflk (M : zMeth) (x : List Nat) : Bool := match zat vwCl (zx x 1) with
  | some q => Nat.blt (zx x 2) q.2.2 && (zcls.contains (zx x 1) && hasW (zx x 3) (.fieldLink (zm_y M).cls (zx x 0) (q.2.1 (zx x 2)).1 (q.2.1 (zx x 2)).2.1 (q.2.1 (zx x 2)).2.2.1))
  | none => false
/-- under the name by which javac spells an inherited one: the method's own class's -/
def zflS (M : zMeth) (x : List Nat) : Bool := match zat vwCl (zx x 1) with
  | some q => Nat.blt (zx x 2) q.2.2 && (zcls.contains (zx x 1) && (hasW (zx x 3) (.fieldLink (zm_y M).cls (zx x 0) (zm_y M).cls (q.2.1 (zx x 2)).2.1 (q.2.1 (zx x 2)).2.2.1) && hasW (zx x 4) (.sameField (zm_y M).cls (q.2.1 (zx x 2)).1 (q.2.1 (zx x 2)).2.1 (q.2.1 (zx x 2)).2.2.1)))
  | none => false
def zo_getf : zSem := fun x M ev st k => match st with
  | (pc, L, stk, G, cu, su) => match stk with
    | v :: rest => cond (Nat.beq v.1 3) (zob (zat G v.2) fun c => cond (Nat.beq c.1 0 && Nat.beq c.2.1 (zx x 1)) (zob (zat c.2.2 (zx x 2)) fun u => znx pc 3 L (u :: rest) G cu su k) none) none
    | [] => none
theorem zat_cases {α β : Type} {o : Option α} {f : α → Option β} {r : β} (h : zob o f = some r) : ∃ a, o = some a ∧ f a = some r := by
  cases o with
  | none => cases h
  | some a => exact ⟨a, rfl, h⟩
theorem zcell0 {c : zCell} {ci : Nat} (h : (Nat.beq c.1 0 && Nat.beq c.2.1 ci) = true) : c = (0, ci, c.2.2) := by
  obtain ⟨a, b, vs⟩ := c
  simp only [Bool.and_eq_true] at h
  cases Nat.eq_of_beq_eq_true h.1
  cases Nat.eq_of_beq_eq_true h.2
  rfl
theorem zs_getf : zSnd (fun _ x => .getfield (zx x 0)) 3 zflk zo_getf := by
  intro p l e R s m args below meth c Q M ev X n0 ad0 cx x pc L stk G cu su k r hd hf hs
  have hx := cx.1
  have hb := cx.2.1
  have hown := cx.2.2.2.1
  have hts := cx.2.2.2.2.1
  have hRm := cx.2.2.2.2.2.1
  have hbase := cx.2.2.2.2.2.2.1
  obtain ⟨q, hq, hf⟩ : ∃ q, zat vwCl (zx x 1) = some q ∧ (Nat.blt (zx x 2) q.2.2 && (zcls.contains (zx x 1) && hasW (zx x 3) (.fieldLink (zm_y M).cls (zx x 0) (q.2.1 (zx x 2)).1 (q.2.1 (zx x 2)).2.1 (q.2.1 (zx x 2)).2.2.1))) = true := by
    unfold zflk at hf
    cases hq : zat vwCl (zx x 1) with
    | none => rw [hq] at hf; cases hf
    | some q => rw [hq] at hf; exact ⟨q, rfl, hf⟩
  simp only [Bool.and_eq_true] at hf
  obtain ⟨hf1, hf2, hf3⟩ := hf
  have hf1 : zx x 2 < q.2.2 := by simpa using hf1
  have hf2 : zx x 1 ∈ zcls := by simpa using hf2
  dsimp only [zo_getf] at hs
  cases stk with
  | nil => cases hs
  | cons v rest =>
  have hv := (zc hs).1
  obtain ⟨c0, hc0, hs⟩ := zat_cases (zc hs).2
  have hcc := zcell0 (zc hs).1
  obtain ⟨u, hu, hs⟩ := zat_cases (zc hs).2
  refine ⟨_, znx_eq hs, fun hgo => ?_⟩
  intro ad ca tys H locs ls hR
  have H1 := hgo ad ca tys H locs ls hR
  simp only [List.map_cons] at H1 ⊢
  rw [zV_3 hv]
  have hg := zW_get (ρ := zxr X) (ad := ad) (ca := ca) (b := zxb X) (td := zxt X) G 0 v.2 c0 (zat_some hc0)
  rw [Nat.zero_add, hcc] at hg
  exact va_get hx hb hts (zcls_in _ hf2 q (zat_some hq)) hown hR.2.1.1 hR.2.1.2.1 v.2 hg (zat_some hq) (zx x 2) hf1 (zw (M := M) hts hf3) (fun _ h => h) (by rw [List.getElem?_map, zat_some hu]; rfl) hd H1
theorem zs_getfS : zSnd (fun _ x => .getfield (zx x 0)) 3 zflS zo_getf := by
  intro p l e R s m args below meth c Q M ev X n0 ad0 cx x pc L stk G cu su k r hd hf hs
  have hx := cx.1
  have hb := cx.2.1
  have hown := cx.2.2.2.1
  have hts := cx.2.2.2.2.1
  have hRm := cx.2.2.2.2.2.1
  have hbase := cx.2.2.2.2.2.2.1
  obtain ⟨q, hq, hf⟩ : ∃ q, zat vwCl (zx x 1) = some q ∧ (Nat.blt (zx x 2) q.2.2 && (zcls.contains (zx x 1) && (hasW (zx x 3) (.fieldLink (zm_y M).cls (zx x 0) (zm_y M).cls (q.2.1 (zx x 2)).2.1 (q.2.1 (zx x 2)).2.2.1) && hasW (zx x 4) (.sameField (zm_y M).cls (q.2.1 (zx x 2)).1 (q.2.1 (zx x 2)).2.1 (q.2.1 (zx x 2)).2.2.1)))) = true := by
    unfold zflS at hf
    cases hq : zat vwCl (zx x 1) with
    | none => rw [hq] at hf; cases hf
    | some q => rw [hq] at hf; exact ⟨q, rfl, hf⟩
  simp only [Bool.and_eq_true] at hf
  obtain ⟨hf1, hf2, hf3, hf4⟩ := hf
  have hf1 : zx x 2 < q.2.2 := by simpa using hf1
  have hf2 : zx x 1 ∈ zcls := by simpa using hf2
  dsimp only [zo_getf] at hs
  cases stk with
  | nil => cases hs
  | cons v rest =>
  have hv := (zc hs).1
  obtain ⟨c0, hc0, hs⟩ := zat_cases (zc hs).2
  have hcc := zcell0 (zc hs).1
  obtain ⟨u, hu, hs⟩ := zat_cases (zc hs).2
  refine ⟨_, znx_eq hs, fun hgo => ?_⟩
  intro ad ca tys H locs ls hR
  have H1 := hgo ad ca tys H locs ls hR
  simp only [List.map_cons] at H1 ⊢
  rw [zV_3 hv]
  have hg := zW_get (ρ := zxr X) (ad := ad) (ca := ca) (b := zxb X) (td := zxt X) G 0 v.2 c0 (zat_some hc0)
  rw [Nat.zero_add, hcc] at hg
  exact va_get hx hb hts (zcls_in _ hf2 q (zat_some hq)) hown hR.2.1.1 hR.2.1.2.1 v.2 hg (zat_some hq) (zx x 2) hf1 (zw (M := M) hts hf3) (fun y hy => u_same (zw (M := M) hts hf4) y hy) (by rw [List.getElem?_map, zat_some hu]; rfl) hd H1
def zfit (ty : FieldType) (v : zAV) : Bool := match ty with
  | .int => zisI v
  | .boolean => Nat.beq v.1 0 && Nat.ble v.2 1
  | .long => zisJ v
  | .object _ => zisR v
  | .array _ => zisR v
  | _ => false
theorem zfit_ok {ρ : Nat → Int32} {ad : Nat → Nat} {b td : Nat} {ty : FieldType} {v : zAV} (h : zfit ty v = true) : narrow ty (zV ρ ad b td v) = zV ρ ad b td v ∧ fits ty (zV ρ ad b td v) = true := by
  cases ty with
  | int => rw [zV_I h]; exact ⟨rfl, rfl⟩
  | boolean =>
    simp only [zfit, Bool.and_eq_true] at h
    rw [zV_0 h.1]
    have h2 : v.2 ≤ 1 := by simpa using h.2
    rcases (show v.2 = 0 ∨ v.2 = 1 by omega) with e | e <;> rw [e] <;> exact ⟨by decide, by decide⟩
  | long => rw [zV_J h]; exact ⟨rfl, rfl⟩
  | object C => rw [zV_R h]; cases zR ad b td v <;> exact ⟨rfl, rfl⟩
  | array t => rw [zV_R h]; cases zR ad b td v <;> exact ⟨rfl, rfl⟩
  | _ => simp [zfit] at h
def zo_putf : zSem := fun x M ev st k => match st with
  | (pc, L, stk, G, cu, su) => match stk with
    | u :: rest1 => match rest1 with
      | v :: rest => cond (Nat.beq v.1 3) (zob (zat G v.2) fun c => cond (Nat.beq c.1 0 && Nat.beq c.2.1 (zx x 1)) (cond (Nat.blt (zx x 2) c.2.2.length && (zfit (zty0 (zx x 1) (zx x 2)) u && zok G.length u)) (zset c.2.2 (zx x 2) u fun vs => zset G v.2 (0, zx x 1, vs) fun G' => znx pc 3 L rest G' cu su k) none) none) none
      | [] => none
    | [] => none
theorem zs_putf : zSnd (fun _ x => .putfield (zx x 0)) 3 (fun M x => zflk M x && (match zat vwCl (zx x 1) with | some q => !(q.2.1 (zx x 2)).2.2.2 | none => false)) zo_putf := by
  intro p l e R s m args below meth c Q M ev X n0 ad0 cx x pc L stk G cu su k r hd hf hs
  have hx := cx.1
  have hb := cx.2.1
  have hown := cx.2.2.2.1
  have hts := cx.2.2.2.2.1
  have hRm := cx.2.2.2.2.2.1
  have hbase := cx.2.2.2.2.2.2.1
  simp only [Bool.and_eq_true] at hf
  have hfx := hf.2
  have hf := hf.1
  obtain ⟨q, hq, hf⟩ : ∃ q, zat vwCl (zx x 1) = some q ∧ (Nat.blt (zx x 2) q.2.2 && (zcls.contains (zx x 1) && hasW (zx x 3) (.fieldLink (zm_y M).cls (zx x 0) (q.2.1 (zx x 2)).1 (q.2.1 (zx x 2)).2.1 (q.2.1 (zx x 2)).2.2.1))) = true := by
    unfold zflk at hf
    cases hq : zat vwCl (zx x 1) with
    | none => rw [hq] at hf; cases hf
    | some q => rw [hq] at hf; exact ⟨q, rfl, hf⟩
  simp only [Bool.and_eq_true] at hf
  obtain ⟨hf1, hf2, hf3⟩ := hf
  have hf1 : zx x 2 < q.2.2 := by simpa using hf1
  have hf2 : zx x 1 ∈ zcls := by simpa using hf2
  dsimp only [zo_putf] at hs
  cases stk with
  | nil => cases hs
  | cons u rest1 =>
  cases rest1 with
  | nil => cases hs
  | cons v rest =>
  have hv := (zc hs).1
  obtain ⟨c0, hc0, hs⟩ := zat_cases (zc hs).2
  have hcc := zcell0 (zc hs).1
  have hs := (zc hs).2
  have hfit := (zc hs).1
  have hs := (zc hs).2
  simp only [Bool.and_eq_true] at hfit
  obtain ⟨hlen, hfit, hok⟩ := hfit
  have hlen : zx x 2 < c0.2.2.length := by simpa using hlen
  rw [zset_eq, zset_eq] at hs
  refine ⟨_, znx_eq hs, fun hgo => ?_⟩
  intro ad ca tys H locs ls hR
  simp only [List.map_cons]
  rw [zV_3 hv]
  have hg := zW_get (ρ := zxr X) (ad := ad) (ca := ca) (b := zxb X) (td := zxt X) G 0 v.2 c0 (zat_some hc0)
  rw [Nat.zero_add, hcc] at hg
  have hft := zfit_ok (ρ := zxr X) (ad := ad) (b := zxb X) (td := zxt X) hfit
  rw [hq] at hfx
  refine va_put hx hb hts (zcls_in _ hf2 q (zat_some hq)) (zty0 (zx x 1)) (zcls_ty _ hf2 q (zat_some hq)) (zcls_nm _ hf2 q (zat_some hq)) hown hR.2.1.1 hR.2.1.2.1 hR.2.1.2.2.1 hR.2.2.1 v.2 hg (zat_some hq) (zx x 2) hf1 (zw (M := M) hts hf3) (fun _ h => h) (by simpa using hfx) (zcls_ty _ hf2 q (zat_some hq) (zx x 2) hf1) hft.1 hft.2 (by rw [List.length_map]; exact hlen) hd (fun H1 locs1 hP1 hD1 hS1 => ?_)
  refine hgo ad ca tys H1 locs1 ls ⟨hR.1, ?_, hS1, by rw [List.length_set]; exact hR.2.2.2.1, hR.2.2.2.2⟩
  have e : (Sum.inr (zx x 1, (c0.2.2.map (zV (zxr X) ad (zxb X) (zxt X))).set (zx x 2) (zV (zxr X) ad (zxb X) (zxt X) u)) : va_E) = zE (zxr X) ad ca (zxb X) (zxt X) v.2 (0, zx x 1, c0.2.2.set (zx x 2) u) := by
    show _ = Sum.inr (zx x 1, List.map _ _)
    rw [List.map_set]
  rw [e] at hP1 hD1
  refine zHp_set hR.2.1 hc0 (by rw [hcc]) (fun v' hv' => ?_) hP1 hD1
  rcases List.mem_or_eq_of_mem_set hv' with h2 | h2
  · exact hR.2.1.2.2.2.1 c0 (List.mem_of_getElem? (zat_some hc0)) v' h2
  · rw [h2]; exact hok
theorem zs_putfS : zSnd (fun _ x => .putfield (zx x 0)) 3 (fun M x => zflS M x && (match zat vwCl (zx x 1) with | some q => !(q.2.1 (zx x 2)).2.2.2 | none => false)) zo_putf := by
  intro p l e R s m args below meth c Q M ev X n0 ad0 cx x pc L stk G cu su k r hd hf hs
  have hx := cx.1
  have hb := cx.2.1
  have hown := cx.2.2.2.1
  have hts := cx.2.2.2.2.1
  have hRm := cx.2.2.2.2.2.1
  have hbase := cx.2.2.2.2.2.2.1
  simp only [Bool.and_eq_true] at hf
  have hfx := hf.2
  have hf := hf.1
  obtain ⟨q, hq, hf⟩ : ∃ q, zat vwCl (zx x 1) = some q ∧ (Nat.blt (zx x 2) q.2.2 && (zcls.contains (zx x 1) && (hasW (zx x 3) (.fieldLink (zm_y M).cls (zx x 0) (zm_y M).cls (q.2.1 (zx x 2)).2.1 (q.2.1 (zx x 2)).2.2.1) && hasW (zx x 4) (.sameField (zm_y M).cls (q.2.1 (zx x 2)).1 (q.2.1 (zx x 2)).2.1 (q.2.1 (zx x 2)).2.2.1)))) = true := by
    unfold zflS at hf
    cases hq : zat vwCl (zx x 1) with
    | none => rw [hq] at hf; cases hf
    | some q => rw [hq] at hf; exact ⟨q, rfl, hf⟩
  simp only [Bool.and_eq_true] at hf
  obtain ⟨hf1, hf2, hf3, hf4⟩ := hf
  have hf1 : zx x 2 < q.2.2 := by simpa using hf1
  have hf2 : zx x 1 ∈ zcls := by simpa using hf2
  dsimp only [zo_putf] at hs
  cases stk with
  | nil => cases hs
  | cons u rest1 =>
  cases rest1 with
  | nil => cases hs
  | cons v rest =>
  have hv := (zc hs).1
  obtain ⟨c0, hc0, hs⟩ := zat_cases (zc hs).2
  have hcc := zcell0 (zc hs).1
  have hs := (zc hs).2
  have hfit := (zc hs).1
  have hs := (zc hs).2
  simp only [Bool.and_eq_true] at hfit
  obtain ⟨hlen, hfit, hok⟩ := hfit
  have hlen : zx x 2 < c0.2.2.length := by simpa using hlen
  rw [zset_eq, zset_eq] at hs
  refine ⟨_, znx_eq hs, fun hgo => ?_⟩
  intro ad ca tys H locs ls hR
  simp only [List.map_cons]
  rw [zV_3 hv]
  have hg := zW_get (ρ := zxr X) (ad := ad) (ca := ca) (b := zxb X) (td := zxt X) G 0 v.2 c0 (zat_some hc0)
  rw [Nat.zero_add, hcc] at hg
  have hft := zfit_ok (ρ := zxr X) (ad := ad) (b := zxb X) (td := zxt X) hfit
  rw [hq] at hfx
  refine va_put hx hb hts (zcls_in _ hf2 q (zat_some hq)) (zty0 (zx x 1)) (zcls_ty _ hf2 q (zat_some hq)) (zcls_nm _ hf2 q (zat_some hq)) hown hR.2.1.1 hR.2.1.2.1 hR.2.1.2.2.1 hR.2.2.1 v.2 hg (zat_some hq) (zx x 2) hf1 (zw (M := M) hts hf3) (fun y hy => u_same (zw (M := M) hts hf4) y hy) (by simpa using hfx) (zcls_ty _ hf2 q (zat_some hq) (zx x 2) hf1) hft.1 hft.2 (by rw [List.length_map]; exact hlen) hd (fun H1 locs1 hP1 hD1 hS1 => ?_)
  refine hgo ad ca tys H1 locs1 ls ⟨hR.1, ?_, hS1, by rw [List.length_set]; exact hR.2.2.2.1, hR.2.2.2.2⟩
  have e : (Sum.inr (zx x 1, (c0.2.2.map (zV (zxr X) ad (zxb X) (zxt X))).set (zx x 2) (zV (zxr X) ad (zxb X) (zxt X) u)) : va_E) = zE (zxr X) ad ca (zxb X) (zxt X) v.2 (0, zx x 1, c0.2.2.set (zx x 2) u) := by
    show _ = Sum.inr (zx x 1, List.map _ _)
    rw [List.map_set]
  rw [e] at hP1 hD1
  refine zHp_set hR.2.1 hc0 (by rw [hcc]) (fun v' hv' => ?_) hP1 hD1
  rcases List.mem_or_eq_of_mem_set hv' with h2 | h2
  · exact hR.2.1.2.2.2.1 c0 (List.mem_of_getElem? (zat_some hc0)) v' h2
  · rw [h2]; exact hok
theorem zs_putfF : zSnd (fun _ x => .putfield (zx x 0)) 3 (fun M x => zflk M x && (match zat vwCl (zx x 1) with | some q => (q.2.1 (zx x 2)).2.2.2 && (decide ((zm_y M).name = "<init>") && decide ((q.2.1 (zx x 2)).1 = (zm_y M).cls)) | none => false)) zo_putf := by
  intro p l e R s m args below meth c Q M ev X n0 ad0 cx x pc L stk G cu su k r hd hf hs
  have hx := cx.1
  have hb := cx.2.1
  have hown := cx.2.2.2.1
  have hts := cx.2.2.2.2.1
  have hRm := cx.2.2.2.2.2.1
  have hbase := cx.2.2.2.2.2.2.1
  simp only [Bool.and_eq_true] at hf
  have hfx := hf.2
  have hf := hf.1
  obtain ⟨q, hq, hf⟩ : ∃ q, zat vwCl (zx x 1) = some q ∧ (Nat.blt (zx x 2) q.2.2 && (zcls.contains (zx x 1) && hasW (zx x 3) (.fieldLink (zm_y M).cls (zx x 0) (q.2.1 (zx x 2)).1 (q.2.1 (zx x 2)).2.1 (q.2.1 (zx x 2)).2.2.1))) = true := by
    unfold zflk at hf
    cases hq : zat vwCl (zx x 1) with
    | none => rw [hq] at hf; cases hf
    | some q => rw [hq] at hf; exact ⟨q, rfl, hf⟩
  simp only [Bool.and_eq_true] at hf
  obtain ⟨hf1, hf2, hf3⟩ := hf
  have hf1 : zx x 2 < q.2.2 := by simpa using hf1
  have hf2 : zx x 1 ∈ zcls := by simpa using hf2
  dsimp only [zo_putf] at hs
  cases stk with
  | nil => cases hs
  | cons u rest1 =>
  cases rest1 with
  | nil => cases hs
  | cons v rest =>
  have hv := (zc hs).1
  obtain ⟨c0, hc0, hs⟩ := zat_cases (zc hs).2
  have hcc := zcell0 (zc hs).1
  have hs := (zc hs).2
  have hfit := (zc hs).1
  have hs := (zc hs).2
  simp only [Bool.and_eq_true] at hfit
  obtain ⟨hlen, hfit, hok⟩ := hfit
  have hlen : zx x 2 < c0.2.2.length := by simpa using hlen
  rw [zset_eq, zset_eq] at hs
  refine ⟨_, znx_eq hs, fun hgo => ?_⟩
  intro ad ca tys H locs ls hR
  simp only [List.map_cons]
  rw [zV_3 hv]
  have hg := zW_get (ρ := zxr X) (ad := ad) (ca := ca) (b := zxb X) (td := zxt X) G 0 v.2 c0 (zat_some hc0)
  rw [Nat.zero_add, hcc] at hg
  have hft := zfit_ok (ρ := zxr X) (ad := ad) (b := zxb X) (td := zxt X) hfit
  rw [hq] at hfx
  refine va_putF hx hb hts (zcls_in _ hf2 q (zat_some hq)) (zty0 (zx x 1)) (zcls_ty _ hf2 q (zat_some hq)) (zcls_nm _ hf2 q (zat_some hq)) hown hR.2.1.1 hR.2.1.2.1 hR.2.1.2.2.1 hR.2.2.1 v.2 hg (zat_some hq) (zx x 2) hf1 (zw (M := M) hts hf3) (fun _ h => h) (by simp only [Bool.and_eq_true] at hfx; exact hfx.1) (by simp only [Bool.and_eq_true] at hfx; rw [cx.2.2.2.2.2.2.2.2.2.1]; exact of_decide_eq_true hfx.2.1) (by simp only [Bool.and_eq_true] at hfx; exact of_decide_eq_true hfx.2.2) (zcls_ty _ hf2 q (zat_some hq) (zx x 2) hf1) hft.1 hft.2 (by rw [List.length_map]; exact hlen) hd (fun H1 locs1 hP1 hD1 hS1 => ?_)
  refine hgo ad ca tys H1 locs1 ls ⟨hR.1, ?_, hS1, by rw [List.length_set]; exact hR.2.2.2.1, hR.2.2.2.2⟩
  have e : (Sum.inr (zx x 1, (c0.2.2.map (zV (zxr X) ad (zxb X) (zxt X))).set (zx x 2) (zV (zxr X) ad (zxb X) (zxt X) u)) : va_E) = zE (zxr X) ad ca (zxb X) (zxt X) v.2 (0, zx x 1, c0.2.2.set (zx x 2) u) := by
    show _ = Sum.inr (zx x 1, List.map _ _)
    rw [List.map_set]
  rw [e] at hP1 hD1
  refine zHp_set hR.2.1 hc0 (by rw [hcc]) (fun v' hv' => ?_) hP1 hD1
  rcases List.mem_or_eq_of_mem_set hv' with h2 | h2
  · exact hR.2.1.2.2.2.1 c0 (List.mem_of_getElem? (zat_some hc0)) v' h2
  · rw [h2]; exact hok
def zdfl (ty : FieldType) : zAV := match ty with
  | .long => (4, 0)
  | .object _ => (2, 0)
  | .array _ => (2, 0)
  | _ => (0, 0)
def zdok (ty : FieldType) : Bool := match ty with
  | .int => true
  | .boolean => true
  | .char => true
  | .long => true
  | .object _ => true
  | .array _ => true
  | _ => false
theorem zdfl_ok {ρ : Nat → Int32} {ad : Nat → Nat} {b td : Nat} {ty : FieldType} (h : zdok ty = true) : defaultValue ty = zV ρ ad b td (zdfl ty) := by
  cases ty <;> first | rfl | (simp [zdok] at h)
theorem zdfl_3 (ty : FieldType) : (zdfl ty).1 ≠ 3 := by cases ty <;> (intro h; cases h)
def znwf (M : zMeth) (x : List Nat) : Bool := match zat vwCl (zx x 1) with
  | some q => zcls.contains (zx x 1) && (hasW (zx x 2) (.classLink (zm_y M).cls (zx x 0) q.1) && (hasW (zx x 3) (.instantiable q.1 q.2.2) && (hasW (zx x 4) (.initialized q.1) && ((List.range q.2.2).all fun j => zdok (zty0 (zx x 1) j)))))
  | none => false
def zo_new : zSem := fun x M ev st k => match st with
  | (pc, L, stk, G, cu, su) => zob (zat vwCl (zx x 1)) fun q => cond (Nat.blt cu (zm_rm M).2.1 && (Nat.ble (su + q.2.2) (zm_rm M).2.2.1 && (zokL G.length L && zokA G.length stk))) (zN G.length fun n => zapp G [(0, zx x 1, (List.range q.2.2).map fun j => zdfl (zty0 (zx x 1) j))] fun G' => zN (cu + 1) fun cu' => zN (su + q.2.2) fun su' => znx pc 3 L ((3, n) :: stk) G' cu' su' k) none
theorem zs_new : zSnd (fun _ x => .new (zx x 0)) 3 znwf zo_new := by
  intro p l e R s m args below meth c Q M ev X n0 ad0 cx x pc L stk G cu su k r hd hf hs
  have hx := cx.1
  have hb := cx.2.1
  have hown := cx.2.2.2.1
  have hts := cx.2.2.2.2.1
  have hRm := cx.2.2.2.2.2.1
  have hbase := cx.2.2.2.2.2.2.1
  dsimp only [zo_new] at hs
  obtain ⟨q, hq, hs⟩ := zat_cases hs
  have hc := (zc hs).1
  have hs := (zc hs).2
  simp only [zN_eq, zapp_eq] at hs
  simp only [Bool.and_eq_true] at hc
  obtain ⟨hc1, hc2, hc3, hc4⟩ := hc
  unfold znwf at hf
  rw [hq] at hf
  simp only [Bool.and_eq_true] at hf
  obtain ⟨hf0, hf1, hf2, hf3, hf4⟩ := hf
  have hf0 : zx x 1 ∈ zcls := by simpa using hf0
  refine ⟨_, znx_eq hs, fun hgo => ?_⟩
  intro ad ca tys H locs ls hR
  subst hRm
  refine va_new (C := q.1) (T := q.2.1) (N := q.2.2) (fs := ((List.range q.2.2).map fun j => zdfl (zty0 (zx x 1) j)).map (zV (zxr X) ad (zxb X) (zxt X))) hx hb hts (zcls_in _ hf0 q (zat_some hq)) (zty0 (zx x 1)) (zcls_ty _ hf0 q (zat_some hq)) hown (zw (M := M) hts hf1) (zw (M := M) hts hf2) (zw (M := M) hts hf3) hR.2.1.1 hR.2.1.2.1 hR.2.1.2.2.1 hR.2.2.1 (fun q' h' => Nat.le_trans hbase h') (zat_some hq) (fun j hj => ?_) (Nat.succ_le_of_lt (show cu < (zm_rm M).2.1 by simpa using hc1)) (show su + q.2.2 ≤ (zm_rm M).2.2.1 by simpa using hc2) hd (fun q1 H1 hP1 hD1 hS1 => ?_)
  · have h9 := List.all_eq_true.mp hf4 j (List.mem_range.mpr hj)
    rw [zdfl_ok (ρ := zxr X) (ad := ad) (b := zxb X) (td := zxt X) h9]
    unfold vp_V
    rw [List.getD_eq_getElem?_getD, List.getElem?_map, List.getElem?_map, List.getElem?_range hj]
    rfl
  · have hK9 : va_K (zxD X) vwCl (tys ++ []) s := by rw [List.append_nil]; exact hR.2.1.1
    have H9 := hgo _ _ _ H1 locs ls (zRp_push hR (c := (0, zx x 1, (List.range q.2.2).map fun j => zdfl (zty0 (zx x 1) j))) (q := q1) (cA := 0) (tys' := []) hc3 hK9 (fun v hv => by
      obtain ⟨j, -, rfl⟩ := List.mem_map.mp hv
      exact zdfl_3 _) (fun t ci vs h => by cases h) hP1 hD1 hS1)
    simp only [List.map_cons] at H9
    rw [zSc hc4 fun k hk => zup_lt k hk] at H9
    rw [show zV (zxr X) (zup ad G.length q1) (zxb X) (zxt X) (3, G.length) = .ref q1 from congrArg Value.ref zup_eq] at H9
    exact H9
