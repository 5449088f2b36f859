/-! THE RUN IS SOUND: throws, calls, and the whole -/
theorem zany {L : List (Nat × Nat)} {a b : Nat} (h : (L.any fun q => Nat.beq q.1 a && Nat.beq q.2 b) = true) : (a, b) ∈ L := by
  obtain ⟨q, hq, h2⟩ := List.any_eq_true.mp h
  obtain ⟨q1, q2⟩ := q
  simp only [Bool.and_eq_true] at h2
  have e1 : q1 = a := Nat.eq_of_beq_eq_true h2.1
  have e2 : q2 = b := Nat.eq_of_beq_eq_true h2.2
  subst e1; subst e2
  exact hq
theorem zthrow {P : List zMeth} {M : zMeth} {ev : zEv} {X : zX} {p : Program} {l : Launch} {e : Env} {R : Room} {s : State} {m : MethodId} {args : Array Value} {below : List Frame} {meth : Method} {c : Code} {n0 : Nat} {ad0 : Nat → Nat} {Qc : Array Value → State → Outcome → State → Prop} {XC : String → State → State → Prop} {x : List Nat}
    {pc : Nat} {L : zL} {stk : List zAV} {G : zH} {cu su : Nat} (cx : zCx p l R s m args meth c M ev X) (hi : zchkT M pc x = true)
    (hfr : 5 < R.frames) (hlo : zcats stk + 82 ≤ R.locals) (hce : cu + 1 ≤ R.cells) (hsl : su + 6 ≤ R.slots) (hX : zXh X n0 ad0 s (1, zx x 0, (pc, L, stk, G, cu, su)) XC) :
    zGo p l e R s m args below meth c (vx_MQ below Qc XC args s R.cells R.slots (fun q => zx0 X ≤ q)) X (zm_L M) n0 ad0 (pc, L, stk, G, cu, su) := by
  simp only [zchkT, Bool.and_eq_true] at hi
  obtain ⟨ho, d0, d3, ⟨hd, hst, hk, hin, hex, hnh⟩⟩ := hi
  have ho : (zm_y M).cls = "FormRiver" := of_decide_eq_true ho
  have d0 := of_decide_eq_true d0
  have d3 := of_decide_eq_true d3
  have hex := zany hex
  have hnh : zm_hh M = [] := List.isEmpty_iff.mp hnh
  have hts := cx.2.2.2.2.1
  have hAO := cx.2.2.2.2.2.2.2.2.2.2.2.2.1
  have hZ := cx.2.2.2.2.2.2.2.2.2.2.1
  have htab : ∀ y ∈ c.exceptionTable.toList, False := by
    rw [cx.2.2.2.2.2.2.2.2.2.2.2.2.2.2.2, hnh]
    intro y hy
    cases hy
  have hown : s.vm.findClass "FormRiver" = some m.cls := by rw [← ho]; exact cx.2.2.2.1
  rw [ho] at hk
  have hW1 : ∀ w ∈ zexF "FormRiver" (zx x 4) (zEx (zx x 0)) (zexi (zx x 0)) (zexb (zx x 0)), w.before args s = true := fun w hw => by
    rcases zexL_ok _ hex w hw with ⟨h1, h2⟩ | h1
    · exact hts w (List.mem_filter.mpr ⟨h1, h2⟩)
    · have hk9 := zNk_ok w h1
      have h9 := hAO.1 w h1
      match w, hk9, h9 with
      | .castable C T, _, h9 => exact va_Nw.use rfl h9
      | .methodLinkNest a i y hh, _, h9 => exact va_Nw.use rfl h9
      | .declares y, _, h9 => exact va_Nw.use rfl h9
      | .arrayOver t, _, h9 => exact h9
  have hW2 : ∀ w ∈ Cond.classLink "FormRiver" (zx x 2) (zEx (zx x 0)) :: Cond.initialized (zEx (zx x 0)) :: zexF "FormRiver" (zx x 4) (zEx (zx x 0)) (zexi (zx x 0)) (zexb (zx x 0)), vx_ot w = true := fun w hw => by
    rcases List.mem_cons.mp hw with h | hw
    · rw [h]; rfl
    rcases List.mem_cons.mp hw with h | hw
    · rw [h]; rfl
    exact zexL_ot _ hex w hw
  obtain ⟨hdx, hfitc⟩ := zexL_d _ hex
  cases hq : zat zStr (zx x 5) with
  | none => rw [hq] at hst; cases hst
  | some q =>
  rw [hq] at hst
  simp only [Bool.and_eq_true] at hst
  have hq1 : q.1 = "FormRiver" := of_decide_eq_true hst.1
  have hq2 : q.2.1 = zx x 3 := Nat.eq_of_beq_eq_true hst.2
  have hR9 := cx.2.2.2.2.2.2.2.2.2.2.2.1 (zx x 5) q (zat_some hq)
  rw [hq1, hq2] at hR9
  intro ad ca tys H locs ls hR
  have hsz : ls.size = c.maxLocals := by rw [cx.2.2.1]; exact hR.1.1
  have hlo2 : ((stk.map (zV (zxr X) ad (zxb X) (zxt X))).map fun v => v.category).sum + (13 * (2 + 1) + 43) ≤ R.locals := by rw [zcats_eq]; omega
  have hx9 : ∀ t : State, s.vm.Alike t.vm → H.size ≤ t.heap.size → (∀ q : Nat, q < H.size → t.heap[q]? = H[q]?) → XC (zEx (zx x 0)) s t := fun t h1 h2 h3 => hX ad ca tys H locs t hR.2.1 hR.2.2.1 hR.2.2.2.1 hR.2.2.2.2 h1 h2 h3
  cases hw : zx x 1 with
  | zero =>
    rw [hw] at hd
    simp only [Bool.and_eq_true] at hd
    obtain ⟨d4, d6, d9⟩ := hd
    exact zx_throwS cx.1 cx.2.1 cx.2.2.2.2.2.2.2.2.2.2.2.2.2.1 hown hfitc hdx (zw (M := M) hts hk) (zw (M := M) hts hin) hR9 hW1 hW2 hZ.1 hZ.2.1 hR.2.2.1 hsz d0 d3 (of_decide_eq_true d4) (of_decide_eq_true d6) (of_decide_eq_true d9) (fun y hy => (htab y hy).elim) hfr hlo2 hce hsl cx.2.2.2.2.2.2.2.2.1 hx9 hR.2.2.1.2.2 hce hsl
  | succ n =>
    rw [hw] at hd
    simp only [Bool.and_eq_true] at hd
    obtain ⟨d4, d6, d9⟩ := hd
    exact zx_throwSW cx.1 cx.2.1 cx.2.2.2.2.2.2.2.2.2.2.2.2.2.1 hown hfitc hdx (zw (M := M) hts hk) (zw (M := M) hts hin) hR9 hW1 hW2 hZ.1 hZ.2.1 hR.2.2.1 hsz d0 d3 (of_decide_eq_true d4) (of_decide_eq_true d6) (of_decide_eq_true d9) (fun y hy => (htab y hy).elim) hfr hlo2 hce hsl cx.2.2.2.2.2.2.2.2.1 hx9 hR.2.2.1.2.2 hce hsl
/-- behind a call -/
theorem zafter {X : zX} {p : Program} {l : Launch} {e : Env} {R : Room} {s : State} {m : MethodId} {args : Array Value} {below : List Frame} {meth : Method} {c : Code} {Q : State → Prop} {n mc ms pc cu su : Nat} {ad : Nat → Nat} {r : zRes} {a : Array Value} {H : Heap} {locs : List Loc} {ls : Array Slot} {st0 rest : List Value}
    (hr : vx_Run p l e R s m args below meth c H locs cu su mc ms (F0 m pc ls st0) rest (zQr X n ad r a) (zXr X n ad r) (fun q => zx0 X ≤ q)) (hS : va_S (fun q => zx0 X ≤ q) s.heap H locs)
    (kk : r.1 = 0 → ∀ ad' ca' tys' H1 locs1, (∀ k, k < n → ad' k = ad k) → n ≤ r.2.2.2.2.2.1.length → zHp X s r.2.2.2.2.2.1 ad' ca' tys' H1 → va_S (fun q => zx0 X ≤ q) s.heap H1 locs1 → W p l e R s m args below meth c H1 locs1 (cu + mc) (su + ms) Q (F0 m (pc + 3) ls ((zrv X ad' r.2.2.2.2.1).toList ++ rest)))
    (kx : r.1 ≠ 0 → ∀ ad' ca' tys' H1 locs1 (q9 : Nat) (ce : Cell), (∀ k, k < n → ad' k = ad k) → n ≤ r.2.2.2.2.2.1.length → zHp X s r.2.2.2.2.2.1 ad' ca' tys' H1 → va_S (fun q => zx0 X ≤ q) s.heap H1 locs1 → H1[q9]? = some ce → ce.vm = .none → s.vm.findClass (zEx r.2.1) = some ce.cls → vx_W p l e R s m args below meth c H1 locs1 (cu + mc) (su + ms) Q (F0 m pc ls rest) q9) :
    W p l e R s m args below meth c H locs cu su Q (F0 m pc ls st0) := by
  intro T hT X1
  rcases hr T hT X1 with ⟨v, st₀, t, T', L, h0, X', hL, e1, e2, ⟨hr0, ad', ho, ha, hn, ⟨ca', tys', hH⟩, hF⟩, st⟩ | ⟨q, st₀, t, T', L, E, ce, h0, X', hL, e1, e2, ⟨hr0, hE, ad', ha, hn, ⟨ca', tys', hH⟩, hF⟩, hce, hcv, hcl, st⟩
  · obtain ⟨-, -, k3⟩ := vx_keep h0 e1 hS (fun _ _ h => h) (fun _ h => h) hL hF
    have hv : v = zrv X ad' r.2.2.2.2.1 := by injection ho
    subst hv
    have hA : t.vm.Alike s.vm := by rw [← e2]; exact X'.warmed.alike.symm
    have hH' : zHp X s r.2.2.2.2.2.1 ad' ca' tys' T'.heap := by rw [e1]; exact zHp_to hH hA
    obtain ⟨t2, a1, b1⟩ := kk hr0 ad' ca' tys' T'.heap (locs ++ L) ha hn hH' k3 T' rfl X'
    exact ⟨t2, st t2 a1, b1⟩
  · obtain ⟨-, -, k3⟩ := vx_keep h0 e1 hS (fun _ _ h => h) (fun _ h => h) hL hF
    have hA : t.vm.Alike s.vm := by rw [← e2]; exact X'.warmed.alike.symm
    have hH' : zHp X s r.2.2.2.2.2.1 ad' ca' tys' T'.heap := by rw [e1]; exact zHp_to hH hA
    obtain ⟨t2, a1, b1⟩ := kx hr0 ad' ca' tys' T'.heap (locs ++ L) q ce ha hn hH' k3 (by rw [e1]; exact hce) hcv (by rw [← hE]; exact hcl) T' rfl X'
    exact ⟨t2, st.trans a1, b1⟩
theorem zhand_ok : ∀ {hh : List (Nat × Nat × Nat × Nat × Nat)} {pc e hpc : Nat}, zhand hh pc e = some hpc → ∃ pre x suf, hh = pre ++ x :: suf ∧ (x.1 ≤ pc ∧ pc < x.2.1) ∧ x.2.2.2.2 = e ∧ x.2.2.1 = hpc ∧ ∀ z ∈ pre, ¬ (z.1 ≤ pc ∧ pc < z.2.1) ∨ (e, z.2.2.2.2) ∈ zNcN
  | [], _, _, _, h => by cases h
  | y :: t, pc, e, hpc, h => by
    unfold zhand at h
    cases hc : (Nat.ble y.1 pc && Nat.blt pc y.2.1) with
    | true =>
      rw [hc] at h
      have hcv : y.1 ≤ pc ∧ pc < y.2.1 := by simpa using hc
      cases he : Nat.beq y.2.2.2.2 e with
      | true =>
        rw [he] at h
        exact ⟨[], y, t, rfl, hcv, Nat.eq_of_beq_eq_true he, by simpa using h, fun z hz => by cases hz⟩
      | false =>
        rw [he] at h
        have h2 := (zc h).1
        obtain ⟨pre, x, suf, e1, e2, e3, e4, e5⟩ := zhand_ok (zc h).2
        refine ⟨y :: pre, x, suf, by rw [e1]; rfl, e2, e3, e4, fun z hz => ?_⟩
        rcases List.mem_cons.mp hz with hz | hz
        · rw [hz]; exact Or.inr (zany h2)
        · exact e5 z hz
    | false =>
      rw [hc] at h
      have hcv : ¬ (y.1 ≤ pc ∧ pc < y.2.1) := fun hq => by
        have : (Nat.ble y.1 pc && Nat.blt pc y.2.1) = true := by simpa using hq
        rw [this] at hc
        cases hc
      obtain ⟨pre, x, suf, e1, e2, e3, e4, e5⟩ := zhand_ok (hh := t) h
      refine ⟨y :: pre, x, suf, by rw [e1]; rfl, e2, e3, e4, fun z hz => ?_⟩
      rcases List.mem_cons.mp hz with hz | hz
      · rw [hz]; exact Or.inl hcv
      · exact e5 z hz
theorem zself (e : Nat) : Cond.castable (zEx e) (zEx e) ∈ zNws := by
  match e with
  | 0 => decide +kernel
  | 1 => decide +kernel
  | 2 => decide +kernel
  | 3 => decide +kernel
  | 4 => decide +kernel
  | n + 5 => exact (by decide +kernel : Cond.castable "java/lang/ArithmeticException" "java/lang/ArithmeticException" ∈ zNws)
theorem zchkH_mem {M : zMeth} {pl : List Nat} (h : zchkH M pl = true) {y : Nat × Nat × Nat × Nat × Nat} (hy : y ∈ zm_hh M) : Cond.classLink (zm_y M).cls y.2.2.2.1 (zEx y.2.2.2.2) ∈ tblG ∧ y.2.2.2.1 ≠ 0 := by
  obtain ⟨j, hj⟩ := List.getElem?_of_mem hy
  have hlt := (List.getElem?_eq_some_iff.mp hj).1
  have h1 := List.all_eq_true.mp h j (List.mem_range.mpr hlt)
  rw [zat_eq, hj] at h1
  simp only [Bool.and_eq_true] at h1
  refine ⟨hasW_in h1.1, fun h0 => ?_⟩
  have h2 := h1.2
  rw [h0] at h2
  cases h2
theorem zkeep1_tl {X : zX} {ad : Nat → Nat} (i : Nat) (L : zL) : (L.map fun q => (q.1, zV (zxr X) ad (zxb X) (zxt X) q.2)).filter (fun q => !(q.1 == i) && !(q.1 + 1 == i && q.2.category == 2)) = (L.filter (zkeep1 i)).map fun q => (q.1, zV (zxr X) ad (zxb X) (zxt X) q.2) := by
  rw [List.filter_map]
  congr 1
  apply List.filter_congr
  intro q hq
  simp only [Function.comp, zkeep1, zV_cat, zbq]
/-- caught here -/
theorem zcaught {P : List zMeth} {M : zMeth} {ev : zEv} {X : zX} {p : Program} {l : Launch} {e : Env} {R : Room} {s : State} {m : MethodId} {args : Array Value} {below : List Frame} {meth : Method} {c : Code} {Q : State → Prop} {n0 : Nat} {ad0 : Nat → Nat} {pc hpc E cu su : Nat} {L : zL} {G : zH} {k : zK} {r : zRes}
    (cx : zCx p l R s m args meth c M ev X) (hc : zchk P M) (hh : zhand (zm_hh M) pc E = some hpc) (h : zcatch M hpc L G cu su k = some r)
    (hk : ∀ st', k st' = some r → zGo p l e R s m args below meth c Q X (zm_L M) n0 ad0 st')
    {ad : Nat → Nat} {ca : Nat → ClassId} {tys : List (ClassId × FieldType)} {H : Heap} {locs : List Loc} {ls : Array Slot} {rest : List Value} {q9 : Nat} {ce : Cell} (hR : zRp X s (zm_L M) n0 ad0 L G ad ca tys H locs ls) (hce : H[q9]? = some ce) (hcv : ce.vm = .none) (hcl : s.vm.findClass (zEx E) = some ce.cls) :
    vx_W p l e R s m args below meth c H locs cu su Q (F0 m pc ls rest) q9 := by
  obtain ⟨pre, y, suf, e1, e2, e3, e4, e5⟩ := zhand_ok hh
  obtain ⟨pl, hpl⟩ := hc.2.2.2
  have hts := cx.2.2.2.2.1
  have hAO := cx.2.2.2.2.2.2.2.2.2.2.2.2.1
  have htb := cx.2.2.2.2.2.2.2.2.2.2.2.2.2.2.2
  rw [e1, List.map_append, List.map_cons] at htb
  unfold tableOf at htb
  rw [List.map_append, List.map_cons] at htb
  have hy : y ∈ zm_hh M := by rw [e1]; simp
  obtain ⟨hy1, hy2⟩ := zchkH_mem hpl hy
  obtain ⟨u, hu, h⟩ := zat_cases h
  have hi := hc.1 _ (zins_mem hu)
  refine vx_catch (name := zEx E) cx.2.2.2.1 _ _ _ htb (fun z hz => ?_) (by simpa using e2) hy2 (by
    show (Cond.classLink (zm_y M).cls y.2.2.2.1 (zEx E)).before args s = true
    rw [← e3]; exact hts _ hy1) (va_Nw.use rfl (hAO.1 _ (zself E))) hce hcv hcl ?_
  · obtain ⟨z1, hz1, rfl⟩ := List.mem_map.mp hz
    obtain ⟨z2, hz2, rfl⟩ := List.mem_map.mp hz1
    have hz3 : z2 ∈ zm_hh M := by rw [e1]; exact List.mem_append_left _ hz2
    obtain ⟨g1, g2⟩ := zchkH_mem hpl hz3
    rcases e5 z2 hz2 with h9 | h9
    · left
      cases hcq : covers (⟨z2.1, z2.2.1, z2.2.2.1, z2.2.2.2.1⟩ : ExceptionTableEntry) pc with
      | false => rfl
      | true => exact absurd (by simpa using hcq) h9
    · exact Or.inr ⟨g2, zEx z2.2.2.2.2, hts _ g1, hAO.2 _ h9⟩
  · show W p l e R s m args below meth c H locs cu su Q (F0 m y.2.2.1 ls [.ref q9])
    rw [e4]
    obtain ⟨op, x2⟩ := u
    dsimp only at h hi
    cases ho : Nat.beq op 17 with
    | true =>
      rw [ho] at h
      have ho := Nat.eq_of_beq_eq_true ho
      rw [ho] at hi
      have hlt := (zc h).1
      have h := (zc h).2
      rw [zfil_eq, zN_eq] at h
      have hlt : zx x2 0 % 4 < zm_L M := by simpa using hlt
      have hd : decode (zm_b M) hpc = .ok (.astore_n (Fin.ofNat 4 (zx x2 0)), 1) := by
        have h9 : (decide (decode (zm_b M) hpc = .ok (.astore_n (Fin.ofNat 4 (zx x2 0)), 1)) && ztrue M x2) = true := hi
        rw [Bool.and_eq_true] at h9
        exact of_decide_eq_true h9.1
      refine lv_astore_n (i := zx x2 0 % 4) cx.1 cx.2.1 hd rfl hR.1 hlt rfl (fun ls' hl' => ?_)
      refine hk _ h ad ca tys H locs ls' ⟨?_, hR.2⟩
      have h8 := zkeep1_tl (X := X) (ad := ad) (zx x2 0 % 4) L
      exact ⟨hl'.1, hl'.2.1, fun q hq => hl'.2.2 q (List.mem_cons_of_mem _ (by rw [h8]; exact hq))⟩
    | false =>
      rw [ho] at h
      have hc9 := (zc h).1
      have h := (zc h).2
      simp only [Bool.and_eq_true] at hc9
      obtain ⟨ho2, hlt⟩ := hc9
      rw [zfil_eq, zN_eq] at h
      have ho2 := Nat.eq_of_beq_eq_true ho2
      rw [ho2] at hi
      have hlt : zx x2 0 < zm_L M := by simpa using hlt
      have hd : decode (zm_b M) hpc = .ok (.astore (zx x2 0), 2) := by
        have h9 : (decide (decode (zm_b M) hpc = .ok (.astore (zx x2 0), 2)) && ztrue M x2) = true := hi
        rw [Bool.and_eq_true] at h9
        exact of_decide_eq_true h9.1
      refine lv_astore cx.1 cx.2.1 hd hR.1 hlt rfl (fun ls' hl' => ?_)
      refine hk _ h ad ca tys H locs ls' ⟨?_, hR.2⟩
      have h8 := zkeep1_tl (X := X) (ad := ad) (zx x2 0) L
      exact ⟨hl'.1, hl'.2.1, fun q hq => hl'.2.2 q (List.mem_cons_of_mem _ (by rw [h8]; exact hq))⟩
theorem zhas_run {p : Program} {l : Launch} {e : Env} {R : Room} {s : State} {m : MethodId} {args : Array Value} {below : List Frame} {meth : Method} {c : Code} {H : Heap} {locs : List Loc} {cells slots mc ms : Nat} {g : JFrame} {rest : List Value} {Qa : State → Outcome → State → Prop} {XC : String → State → State → Prop} {free : Addr → Prop}
    (h : va_Run p l e R s m args below meth c H locs cells slots mc ms g rest Qa free) : vx_Run p l e R s m args below meth c H locs cells slots mc ms g rest Qa XC free := fun T hT X => Or.inl (h T hT X)
