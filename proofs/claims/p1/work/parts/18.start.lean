/-! WHAT HOLDS AT THE START -/
theorem zinst : ∀ q ∈ vwCl, Cond.instantiable q.1 q.2.2 ∈ lw_tbl ∨ Cond.instantiable q.1 4 ∈ lw_tbl := by decide +kernel
theorem zcls_all : ∀ ci, ci < 18 → ci ∈ zcls := by decide
theorem zD_of {args : Array Value} {s : State} (hts : ∀ w ∈ lw_tbl, w.before args s = true) : ∃ D : va_G, va_K D vwCl [] s := by
  have hex : ∀ ci : Nat, ∃ q2 : ClassId × (Nat → Nat), ∀ q : vw_C, vwCl[ci]? = some q → u_Kn s q.1 q.2.1 q.2.2 q2.1 q2.2 := by
    intro ci
    cases hq : vwCl[ci]? with
    | none => exact ⟨(0, fun _ => 0), fun q h => by cases h⟩
    | some q =>
      have hlt : ci < 18 := (List.getElem?_eq_some_iff.mp hq).1
      have hin := zcls_in ci (zcls_all ci hlt) q hq
      obtain ⟨n9, hi⟩ : ∃ n9 : Nat, Cond.instantiable q.1 n9 ∈ lw_tbl := by
        rcases zinst q (List.mem_of_getElem? hq) with h | h
        · exact ⟨_, h⟩
        · exact ⟨_, h⟩
      obtain ⟨cC, iS, hk⟩ := u_known (ws := lw_tbl) hts (fun w hw => (List.mem_filter.mp (hin w hw)).1) (hts _ hi)
      exact ⟨(cC, iS), fun q1 h1 => by cases h1; exact hk⟩
  exact ⟨(fun ci => (hex ci).choose.1, fun ci => (hex ci).choose.2), fun ci q hq => (hex ci).choose_spec q hq, fun k q h => by simp at h⟩
theorem zstr_x : ∀ q ∈ zStr, Cond.exactly (.string q.1 q.2.1) "java/lang/String" ∈ flatC (Jvm.Cond.and given_1 narrow_1) := by decide +kernel
theorem zstr_w : ∀ q ∈ zStr, Cond.stringRef q.1 q.2.1 q.2.2 ∈ lw_tbl := by decide +kernel
theorem zsa_of {args : Array Value} {s : State} (hts : ∀ w ∈ lw_tbl, w.before args s = true) (hfl : ∀ w ∈ flatC (Jvm.Cond.and given_1 narrow_1), w.before args s = true) : ∃ sa : Nat → Nat, zStrOK sa s := by
  have hex : ∀ i : Nat, ∃ a : Nat, ∀ q : String × Nat × String, zStr[i]? = some q → vk_R q.1 q.2.1 q.2.2 a s := by
    intro i
    cases hq : zStr[i]? with
    | none => exact ⟨0, fun q h => by cases h⟩
    | some q =>
      obtain ⟨a, _, _, _, h1, -⟩ := Cond.exactly_spec (hfl _ (zstr_x q (List.mem_of_getElem? hq)))
      exact ⟨a, fun q1 h9 => by cases h9; exact vk_R.of (hts _ (zstr_w q (List.mem_of_getElem? hq))) h1⟩
  exact ⟨fun i => (hex i).choose, fun i q hq => (hex i).choose_spec q hq⟩
theorem zNws_w : ∀ w ∈ zNws, w ∈ lw_tbl := by decide +kernel
theorem zNw_of {w : Cond} (hk : zNk w = true) {args : Array Value} {s : State} (h : w.before args s = true) : va_Nw w s := by
  match w, hk with
  | .castable C T, _ => exact va_Nw.of rfl h
  | .methodLinkNest a i x hh, _ => exact va_Nw.of rfl h
  | .declares x, _ => exact va_Nw.of rfl h
  | .arrayOver t, _ =>
    have h1 : (Cond.arrayOver t).before #[] s = true := h
    exact h1
theorem zNcN_w : ∀ q ∈ zNcN, Cond.not (.castable (zEx q.1) (zEx q.2)) ∈ flatC (Jvm.Cond.and given_1 narrow_1) := by decide +kernel
theorem zAO_of {args : Array Value} {s : State} (hts : ∀ w ∈ lw_tbl, w.before args s = true) (hfl : ∀ w ∈ flatC (Jvm.Cond.and given_1 narrow_1), w.before args s = true) : zAO s :=
  ⟨fun w hw => zNw_of (zNk_ok w hw) (hts w (zNws_w w hw)), fun q hq => va_Nc.of (hfl _ (zNcN_w q hq))⟩
theorem zSt_of {args : Array Value} {s : State} {b L : Nat} {xs : Nat → Int32} (hts : ∀ w ∈ lw_tbl, w.before args s = true) (hfl : ∀ w ∈ flatC (Jvm.Cond.and given_1 narrow_1), w.before args s = true) (hX : va_X b L xs s s.heap) (hbs : b < s.heap.size) : ∃ td : Nat, zStat b L td s.heap.size xs s s.heap := by
  have hA : ∀ a : Nat, a < s.heap.size → ¬ s.heap.size ≤ a := fun a h h2 => absurd h (by omega)
  have harr : (Cond.arrayOf (.static "java/util/ArrayList" "DEFAULTCAPACITY_EMPTY_ELEMENTDATA" "[Ljava/lang/Object;") (.object "java/lang/Object")).before args s = true := hfl _ (by decide +kernel)
  have hlen : (Cond.eq (.length (.static "java/util/ArrayList" "DEFAULTCAPACITY_EMPTY_ELEMENTDATA" "[Ljava/lang/Object;")) (.int 0)).before args s = true := hfl _ (by decide +kernel)
  have hl0 : (Term.length (.static "java/util/ArrayList" "DEFAULTCAPACITY_EMPTY_ELEMENTDATA" "[Ljava/lang/Object;")).eval args s none [] s = some (.int (Int32.ofNat 0)) := va_eqt hlen
  obtain ⟨td, htd, hT⟩ := va_Tof (N := 0) (f := fun _ => .null) (A := fun q : Nat => s.heap.size ≤ q) (by decide) harr hl0 (fun j hj => absurd hj (Nat.not_lt_zero j)) hA
  refine ⟨td, ?_, ?_, ?_, ⟨_, hT⟩, hX, hbs⟩
  · exact vx_Zqof (args := args) (hts _ (by decide +kernel)) (hts _ (by decide +kernel)) (hfl _ (by decide +kernel)) hA
  · exact vx_Zqof (args := args) (hts _ (by decide +kernel)) (hts _ (by decide +kernel)) (hfl _ (by decide +kernel)) hA
  · exact va_Zref (args := args) (hts _ (by decide +kernel)) (hts _ (by decide +kernel)) htd hA
