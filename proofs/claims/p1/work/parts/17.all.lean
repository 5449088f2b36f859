/-! EVERY SCRIPT -/
theorem zEv_set {X : zX} {ev : zEv} {i lo hi : Nat} (he : zEvOK X ev) (h1 : lo ≤ zbi (zxr X i)) (h2 : zbi (zxr X i) ≤ hi) : zEvOK X (ev.1.set i (lo, hi), ev.2) := by
  refine ⟨?_, he.2⟩
  intro j a b hj
  have hj : (ev.1.set i (lo, hi))[j]? = some (a, b) := hj
  rw [List.getElem?_set] at hj
  by_cases hij : i = j
  · subst hij
    rw [if_pos rfl] at hj
    split at hj
    · cases hj
      exact ⟨h1, h2⟩
    · cases hj
  · rw [if_neg hij] at hj
    exact he.1 j a b hj
theorem zck_ok {X : zX} : ∀ (f : Nat) (T : List (Nat × Nat × Nat)) (ev : zEv) (t1 : List (Nat × Nat × Nat)), zck f T ev = some t1 → zEvOK X ev → ∃ (ev' : zEv) (r : zRes), zEvOK X ev' ∧ zrun zP ev' 4000 zMb zS0 = some r ∧ zok1 r = true
  | 0, T, ev, t1, h, _ => by cases h
  | f + 1, [], ev, t1, h, _ => by cases h
  | f + 1, (0, i, c) :: t, ev, t1, h, he => by
    rw [zck] at h
    dsimp only at h
    cases hr : zrun zP ev 4000 zMb zS0 with
    | none => rw [hr] at h; cases h
    | some r =>
      rw [hr] at h
      exact ⟨ev, r, he, hr, (zc h).1⟩
  | f + 1, (k + 1, i, c) :: t, ev, t1, h, he => by
    rw [zck] at h
    dsimp only at h
    cases hq : zat ev.1 i with
    | none => rw [hq] at h; cases h
    | some q =>
      rw [hq] at h
      dsimp only at h
      rw [zset_eq] at h
      rw [zat_eq] at hq
      have hb := he.1 i q.1 q.2 hq
      cases hz : zck f t (ev.1.set i (q.1, c - 1), ev.2) with
      | none => rw [hz] at h; cases h
      | some t2 =>
        rw [hz] at h
        dsimp only at h
        rw [zset_eq] at h
        rcases Nat.lt_or_ge (zbi (zxr X i)) c with hlt | hge
        · exact zck_ok f _ _ _ hz (zEv_set he hb.1 (by omega))
        · exact zck_ok f _ _ _ h (zEv_set he hge hb.2)
theorem zbi_le (x : Int32) : zbi x ≤ 4294967295 := by
  have h1 := Int32.le_toInt x
  have h2 := Int32.toInt_lt x
  unfold zbi
  omega
theorem zfull_all : ∀ q ∈ zfull, q = (0, 4294967295) := by decide
theorem zfull_ok (X : zX) : ∀ i lo hi, zfull[i]? = some (lo, hi) → lo ≤ zbi (zxr X i) ∧ zbi (zxr X i) ≤ hi := fun i lo hi h => by
  cases zfull_all _ (List.mem_of_getElem? h)
  exact ⟨Nat.zero_le _, zbi_le _⟩
theorem zmask (x : Int32) : ∃ c : Nat, c < 64 ∧ x &&& 63 = nI c := by
  refine ⟨(x &&& 63).toBitVec.toNat, ?_, ?_⟩
  · rw [Int32.toBitVec_and, BitVec.toNat_and]
    exact Nat.lt_of_le_of_lt Nat.and_le_right (by decide)
  · apply Int32.toBitVec_inj.mp
    simp [nI]
theorem zb_all : ∀ c, c < 64 → ∃ f T, zck f T (zfull, c, 7) = some [] := by
  intro c hc
  match c, hc with
  | 0, _ => exact ⟨_, _, zb_0⟩
  | 1, _ => exact ⟨_, _, zb_1⟩
  | 2, _ => exact ⟨_, _, zb_2⟩
  | 3, _ => exact ⟨_, _, zb_3⟩
  | 4, _ => exact ⟨_, _, zb_4⟩
  | 5, _ => exact ⟨_, _, zb_5⟩
  | 6, _ => exact ⟨_, _, zb_6⟩
  | 7, _ => exact ⟨_, _, zb_7⟩
  | 8, _ => exact ⟨_, _, zb_8⟩
  | 9, _ => exact ⟨_, _, zb_9⟩
  | 10, _ => exact ⟨_, _, zb_10⟩
  | 11, _ => exact ⟨_, _, zb_11⟩
  | 12, _ => exact ⟨_, _, zb_12⟩
  | 13, _ => exact ⟨_, _, zb_13⟩
  | 14, _ => exact ⟨_, _, zb_14⟩
  | 15, _ => exact ⟨_, _, zb_15⟩
  | 16, _ => exact ⟨_, _, zb_16⟩
  | 17, _ => exact ⟨_, _, zb_17⟩
  | 18, _ => exact ⟨_, _, zb_18⟩
  | 19, _ => exact ⟨_, _, zb_19⟩
  | 20, _ => exact ⟨_, _, zb_20⟩
  | 21, _ => exact ⟨_, _, zb_21⟩
  | 22, _ => exact ⟨_, _, zb_22⟩
  | 23, _ => exact ⟨_, _, zb_23⟩
  | 24, _ => exact ⟨_, _, zb_24⟩
  | 25, _ => exact ⟨_, _, zb_25⟩
  | 26, _ => exact ⟨_, _, zb_26⟩
  | 27, _ => exact ⟨_, _, zb_27⟩
  | 28, _ => exact ⟨_, _, zb_28⟩
  | 29, _ => exact ⟨_, _, zb_29⟩
  | 30, _ => exact ⟨_, _, zb_30⟩
  | 31, _ => exact ⟨_, _, zb_31⟩
  | 32, _ => exact ⟨_, _, zb_32⟩
  | 33, _ => exact ⟨_, _, zb_33⟩
  | 34, _ => exact ⟨_, _, zb_34⟩
  | 35, _ => exact ⟨_, _, zb_35⟩
  | 36, _ => exact ⟨_, _, zb_36⟩
  | 37, _ => exact ⟨_, _, zb_37⟩
  | 38, _ => exact ⟨_, _, zb_38⟩
  | 39, _ => exact ⟨_, _, zb_39⟩
  | 40, _ => exact ⟨_, _, zb_40⟩
  | 41, _ => exact ⟨_, _, zb_41⟩
  | 42, _ => exact ⟨_, _, zb_42⟩
  | 43, _ => exact ⟨_, _, zb_43⟩
  | 44, _ => exact ⟨_, _, zb_44⟩
  | 45, _ => exact ⟨_, _, zb_45⟩
  | 46, _ => exact ⟨_, _, zb_46⟩
  | 47, _ => exact ⟨_, _, zb_47⟩
  | 48, _ => exact ⟨_, _, zb_48⟩
  | 49, _ => exact ⟨_, _, zb_49⟩
  | 50, _ => exact ⟨_, _, zb_50⟩
  | 51, _ => exact ⟨_, _, zb_51⟩
  | 52, _ => exact ⟨_, _, zb_52⟩
  | 53, _ => exact ⟨_, _, zb_53⟩
  | 54, _ => exact ⟨_, _, zb_54⟩
  | 55, _ => exact ⟨_, _, zb_55⟩
  | 56, _ => exact ⟨_, _, zb_56⟩
  | 57, _ => exact ⟨_, _, zb_57⟩
  | 58, _ => exact ⟨_, _, zb_58⟩
  | 59, _ => exact ⟨_, _, zb_59⟩
  | 60, _ => exact ⟨_, _, zb_60⟩
  | 61, _ => exact ⟨_, _, zb_61⟩
  | 62, _ => exact ⟨_, _, zb_62⟩
  | 63, _ => exact ⟨_, _, zb_63⟩
  | n + 64, h => exact absurd h (by omega)
theorem zl_all : ∀ c, c < 7 → zck 1 [(0, 0, 0)] (zfull, 64, c) = some [] := by
  intro c hc
  match c, hc with
  | 0, _ => exact zb_l0
  | 1, _ => exact zb_l1
  | 2, _ => exact zb_l2
  | 3, _ => exact zb_l3
  | 4, _ => exact zb_l4
  | 5, _ => exact zb_l5
  | 6, _ => exact zb_l6
  | n + 7, h => exact absurd h (by omega)
theorem zall (X : zX) (hL : zxL X ≤ 7) : ∃ (ev : zEv) (r : zRes), zEvOK X ev ∧ zrun zP ev 4000 zMb zS0 = some r ∧ zok1 r = true := by
  rcases Nat.lt_or_ge (zxL X) 7 with h | h
  · exact zck_ok _ _ _ _ (zl_all _ h) ⟨zfull_ok X, fun h9 => absurd h9 (by decide), fun _ => rfl⟩
  · obtain ⟨c, hc, hm⟩ := zmask (zxr X 0)
    obtain ⟨f, T, hz⟩ := zb_all c hc
    exact zck_ok _ _ _ _ hz ⟨zfull_ok X, fun _ => hm, fun _ => show 7 = zxL X by omega⟩
theorem zpre_ok (X : zX) : zEvOK X (zfull, 64, 9) := ⟨zfull_ok X, fun h9 => absurd h9 (by decide), fun h9 => absurd h9 (by decide)⟩
