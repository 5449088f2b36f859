/-! EVERY SCRIPT -/
theorem zEv_set {X : zX} {ev : zEv} {i lo hi : Nat} (he : zEvOK X ev) (h1 : lo ≤ zbi (zxr X i)) (h2 : zbi (zxr X i) ≤ hi) : zEvOK X (ev.1.set i (lo, hi), ev.2) := by
  refine ⟨?_, he.2⟩
  intro j a b hj
  have hj : (ev.1.set i (lo, hi))[j]? = some (a, b) := hj
  rw [List.getElem?_set] at hj
  by_cases hij : i = j
  · subst hij
    rw [if_pos rfl] at hj
    split at hj
    · cases hj
      exact ⟨h1, h2⟩
    · cases hj
  · rw [if_neg hij] at hj
    exact he.1 j a b hj
theorem zck_ok {X : zX} : ∀ (f : Nat) (T : List (Nat × Nat × Nat)) (ev : zEv) (t1 : List (Nat × Nat × Nat)), zck f T ev = some t1 → zEvOK X ev → ∃ (ev' : zEv) (r : zRes), zEvOK X ev' ∧ zrun zP ev' 4000 zMb zS0 = some r ∧ zok1 r = true
  | 0, T, ev, t1, h, _ => by cases h
  | f + 1, [], ev, t1, h, _ => by cases h
  | f + 1, (0, i, c) :: t, ev, t1, h, he => by
    rw [zck] at h
    dsimp only at h
    cases hr : zrun zP ev 4000 zMb zS0 with
    | none => rw [hr] at h; cases h
    | some r =>
      rw [hr] at h
      exact ⟨ev, r, he, hr, (zc h).1⟩
  | f + 1, (k + 1, i, c) :: t, ev, t1, h, he => by
    rw [zck] at h
    dsimp only at h
    cases hq : zat ev.1 i with
    | none => rw [hq] at h; cases h
    | some q =>
      rw [hq] at h
      dsimp only at h
      rw [zset_eq] at h
      rw [zat_eq] at hq
      have hb := he.1 i q.1 q.2 hq
      cases hz : zck f t (ev.1.set i (q.1, c - 1), ev.2) with
      | none => rw [hz] at h; cases h
      | some t2 =>
        rw [hz] at h
        dsimp only at h
        rw [zset_eq] at h
        rcases Nat.lt_or_ge (zbi (zxr X i)) c with hlt | hge
        · exact zck_ok f _ _ _ hz (zEv_set he hb.1 (by omega))
        · exact zck_ok f _ _ _ h (zEv_set he hge hb.2)
theorem zbi_le (x : Int32) : zbi x ≤ 4294967295 := by
  have h1 := Int32.le_toInt x
  have h2 := Int32.toInt_lt x
  unfold zbi
  omega
theorem zfull_all : ∀ q ∈ zfull, q = (0, 4294967295) := by decide
theorem zfull_ok (X : zX) : ∀ i lo hi, zfull[i]? = some (lo, hi) → lo ≤ zbi (zxr X i) ∧ zbi (zxr X i) ≤ hi := fun i lo hi h => by
  cases zfull_all _ (List.mem_of_getElem? h)
  exact ⟨Nat.zero_le _, zbi_le _⟩
theorem zmask (x : Int32) : ∃ c : Nat, c < 64 ∧ x &&& 63 = nI c := by
  refine ⟨(x &&& 63).toBitVec.toNat, ?_, ?_⟩
  · rw [Int32.toBitVec_and, BitVec.toNat_and]
    exact Nat.lt_of_le_of_lt Nat.and_le_right (by decide)
  · apply Int32.toBitVec_inj.mp
    simp [nI]
theorem zb_all {X : zX} : ∀ c, c < 64 → zEvOK X (zfull, c, 7) → ∃ (ev : zEv) (r : zRes), zEvOK X ev ∧ zrun zP ev 4000 zMb zS0 = some r ∧ zok1 r = true := by
  intro c hc he
  match c, hc, he with
  | 0, _, he => exact zck_ok _ _ _ _ zb_0 he
  | 1, _, he => exact zck_ok _ _ _ _ zb_1 he
  | 2, _, he => exact zck_ok _ _ _ _ zb_2 he
  | 3, _, he => exact zck_ok _ _ _ _ zb_3 he
  | 4, _, he => exact zck_ok _ _ _ _ zb_4 he
  | 5, _, he => exact zck_ok _ _ _ _ zb_5 he
  | 6, _, he => exact zck_ok _ _ _ _ zb_6 he
  | 7, _, he => exact zck_ok _ _ _ _ zb_7 he
  | 8, _, he => exact zck_ok _ _ _ _ zb_8 he
  | 9, _, he => exact zck_ok _ _ _ _ zb_9 he
  | 10, _, he => exact zck_ok _ _ _ _ zb_10 he
  | 11, _, he => exact zck_ok _ _ _ _ zb_11 he
  | 12, _, he => exact zck_ok _ _ _ _ zb_12 he
  | 13, _, he => exact zck_ok _ _ _ _ zb_13 he
  | 14, _, he => exact zck_ok _ _ _ _ zb_14 he
  | 15, _, he => exact zck_ok _ _ _ _ zb_15 he
  | 16, _, he => exact zck_ok _ _ _ _ zb_16 he
  | 17, _, he => exact zck_ok _ _ _ _ zb_17 he
  | 18, _, he => exact zck_ok _ _ _ _ zb_18 he
  | 19, _, he => exact zck_ok _ _ _ _ zb_19 he
  | 20, _, he => exact zck_ok _ _ _ _ zb_20 he
  | 21, _, he => exact zck_ok _ _ _ _ zb_21 he
  | 22, _, he => exact zck_ok _ _ _ _ zb_22 he
  | 23, _, he => exact zck_ok _ _ _ _ zb_23 he
  | 24, _, he => exact zck_ok _ _ _ _ zb_24 he
  | 25, _, he => exact zck_ok _ _ _ _ zb_25 he
  | 26, _, he => exact zck_ok _ _ _ _ zb_26 he
  | 27, _, he => exact zck_ok _ _ _ _ zb_27 he
  | 28, _, he => exact zck_ok _ _ _ _ zb_28 he
  | 29, _, he => exact zck_ok _ _ _ _ zb_29 he
  | 30, _, he => exact zck_ok _ _ _ _ zb_30 he
  | 31, _, he => exact zck_ok _ _ _ _ zb_31 he
  | 32, _, he => exact zck_ok _ _ _ _ zb_32 he
  | 33, _, he => exact zck_ok _ _ _ _ zb_33 he
  | 34, _, he => exact zck_ok _ _ _ _ zb_34 he
  | 35, _, he => exact zck_ok _ _ _ _ zb_35 he
  | 36, _, he => exact zck_ok _ _ _ _ zb_36 he
  | 37, _, he => exact zck_ok _ _ _ _ zb_37 he
  | 38, _, he => exact zck_ok _ _ _ _ zb_38 he
  | 39, _, he => exact zck_ok _ _ _ _ zb_39 he
  | 40, _, he => exact zck_ok _ _ _ _ zb_40 he
  | 41, _, he => exact zck_ok _ _ _ _ zb_41 he
  | 42, _, he =>
    obtain ⟨q, hq, h1, h2⟩ := zcov_ok _ 0 (zbi (zxr X 1)) zcv_42 (Nat.zero_le _) (Nat.lt_succ_of_le (zbi_le _))
    have h5 := zEv_set (i := 1) he h1 h2
    exact zck_ok _ _ _ _ (zbs_42 q hq) h5
  | 43, _, he => exact zck_ok _ _ _ _ zb_43 he
  | 44, _, he => exact zck_ok _ _ _ _ zb_44 he
  | 45, _, he => exact zck_ok _ _ _ _ zb_45 he
  | 46, _, he => exact zck_ok _ _ _ _ zb_46 he
  | 47, _, he => exact zck_ok _ _ _ _ zb_47 he
  | 48, _, he => exact zck_ok _ _ _ _ zb_48 he
  | 49, _, he => exact zck_ok _ _ _ _ zb_49 he
  | 50, _, he => exact zck_ok _ _ _ _ zb_50 he
  | 51, _, he => exact zck_ok _ _ _ _ zb_51 he
  | 52, _, he => exact zck_ok _ _ _ _ zb_52 he
  | 53, _, he => exact zck_ok _ _ _ _ zb_53 he
  | 54, _, he => exact zck_ok _ _ _ _ zb_54 he
  | 55, _, he => exact zck_ok _ _ _ _ zb_55 he
  | 56, _, he => exact zck_ok _ _ _ _ zb_56 he
  | 57, _, he => exact zck_ok _ _ _ _ zb_57 he
  | 58, _, he => exact zck_ok _ _ _ _ zb_58 he
  | 59, _, he => exact zck_ok _ _ _ _ zb_59 he
  | 60, _, he => exact zck_ok _ _ _ _ zb_60 he
  | 61, _, he => exact zck_ok _ _ _ _ zb_61 he
  | 62, _, he => exact zck_ok _ _ _ _ zb_62 he
  | 63, _, he => exact zck_ok _ _ _ _ zb_63 he
  | n + 64, h, _ => exact absurd h (by omega)
theorem zl_all : ∀ c, c < 7 → zck 1 [(0, 0, 0)] (zfull, 64, c) = some [] := by
  intro c hc
  match c, hc with
  | 0, _ => exact zb_l0
  | 1, _ => exact zb_l1
  | 2, _ => exact zb_l2
  | 3, _ => exact zb_l3
  | 4, _ => exact zb_l4
  | 5, _ => exact zb_l5
  | 6, _ => exact zb_l6
  | n + 7, h => exact absurd h (by omega)
theorem zall (X : zX) (hL : zxL X ≤ 7) : ∃ (ev : zEv) (r : zRes), zEvOK X ev ∧ zrun zP ev 4000 zMb zS0 = some r ∧ zok1 r = true := by
  rcases Nat.lt_or_ge (zxL X) 7 with h | h
  · exact zck_ok _ _ _ _ (zl_all _ h) ⟨zfull_ok X, fun h9 => absurd (show (64 : Nat) < 64 from h9) (by decide), fun _ => rfl⟩
  · obtain ⟨c, hc, hm⟩ := zmask (zxr X 0)
    exact zb_all c hc ⟨zfull_ok X, fun _ => hm, fun _ => show 7 = zxL X by omega⟩
theorem zpre_ok (X : zX) : zEvOK X (zfull, 64, 9) := ⟨zfull_ok X, fun h9 => absurd (show (64 : Nat) < 64 from h9) (by decide), fun h9 => absurd (show (9 : Nat) < 8 from h9) (by decide)⟩
