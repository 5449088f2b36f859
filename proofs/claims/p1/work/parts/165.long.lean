/-! THE LONG RUNS, by pieces of one cell -/
def zcov : Nat → List (Nat × Nat) → Bool
  | s, [] => Nat.ble 4294967296 s
  | s, q :: t => Nat.ble q.1 s && zcov (q.2 + 1) t
theorem zcov_ok : ∀ (l : List (Nat × Nat)) (s x : Nat), zcov s l = true → s ≤ x → x < 4294967296 → ∃ q ∈ l, q.1 ≤ x ∧ x ≤ q.2
  | [], s, x, h, h1, h2 => by
    have h : 4294967296 ≤ s := Nat.le_of_ble_eq_true h
    omega
  | q :: t, s, x, h, h1, h2 => by
    unfold zcov at h
    obtain ⟨h3, h4⟩ := zand h
    have h3 : q.1 ≤ s := Nat.le_of_ble_eq_true h3
    rcases Nat.lt_or_ge q.2 x with h5 | h5
    · obtain ⟨q1, hm, hq⟩ := zcov_ok t _ x h4 h5 h2
      exact ⟨q1, List.mem_cons_of_mem _ hm, hq⟩
    · exact ⟨q, List.mem_cons_self, by omega, h5⟩
theorem zb_42_0 : zck 1 [(0, 0, 0)] (zfull.set 1 (0, 2147483648), 42, 7) = some [] := by decide +kernel
theorem zb_42_1 : zck 1 [(0, 0, 0)] (zfull.set 1 (2147483649, 2147483649), 42, 7) = some [] := by decide +kernel
theorem zb_42_2 : zck 1 [(0, 0, 0)] (zfull.set 1 (2147483650, 2147483650), 42, 7) = some [] := by decide +kernel
theorem zb_42_3 : zck 1 [(0, 0, 0)] (zfull.set 1 (2147483651, 2147483651), 42, 7) = some [] := by decide +kernel
theorem zb_42_4 : zck 1 [(0, 0, 0)] (zfull.set 1 (2147483652, 2147483652), 42, 7) = some [] := by decide +kernel
theorem zb_42_5 : zck 1 [(0, 0, 0)] (zfull.set 1 (2147483653, 2147483653), 42, 7) = some [] := by decide +kernel
theorem zb_42_6 : zck 1 [(0, 0, 0)] (zfull.set 1 (2147483654, 2147483654), 42, 7) = some [] := by decide +kernel
theorem zb_42_7 : zck 1 [(0, 0, 0)] (zfull.set 1 (2147483655, 2147483655), 42, 7) = some [] := by decide +kernel
theorem zb_42_8 : zck 1 [(0, 0, 0)] (zfull.set 1 (2147483656, 2147483656), 42, 7) = some [] := by decide +kernel
theorem zb_42_9 : zck 1 [(0, 0, 0)] (zfull.set 1 (2147483657, 2147483657), 42, 7) = some [] := by decide +kernel
theorem zb_42_10 : zck 1 [(0, 0, 0)] (zfull.set 1 (2147483658, 2147483658), 42, 7) = some [] := by decide +kernel
theorem zb_42_11 : zck 1 [(0, 0, 0)] (zfull.set 1 (2147483659, 2147483659), 42, 7) = some [] := by decide +kernel
theorem zb_42_12 : zck 1 [(0, 0, 0)] (zfull.set 1 (2147483660, 2147483660), 42, 7) = some [] := by decide +kernel
theorem zb_42_13 : zck 1 [(0, 0, 0)] (zfull.set 1 (2147483661, 2147483661), 42, 7) = some [] := by decide +kernel
theorem zb_42_14 : zck 1 [(0, 0, 0)] (zfull.set 1 (2147483662, 2147483662), 42, 7) = some [] := by decide +kernel
theorem zb_42_15 : zck 1 [(0, 0, 0)] (zfull.set 1 (2147483663, 2147483663), 42, 7) = some [] := by decide +kernel
theorem zb_42_16 : zck 1 [(0, 0, 0)] (zfull.set 1 (2147483664, 2147483664), 42, 7) = some [] := by decide +kernel
theorem zb_42_17 : zck 1 [(0, 0, 0)] (zfull.set 1 (2147483665, 2147483665), 42, 7) = some [] := by decide +kernel
theorem zb_42_18 : zck 1 [(0, 0, 0)] (zfull.set 1 (2147483666, 2147483666), 42, 7) = some [] := by decide +kernel
theorem zb_42_19 : zck 1 [(0, 0, 0)] (zfull.set 1 (2147483667, 2147483667), 42, 7) = some [] := by decide +kernel
theorem zb_42_20 : zck 1 [(0, 0, 0)] (zfull.set 1 (2147483668, 2147483668), 42, 7) = some [] := by decide +kernel
theorem zb_42_21 : zck 1 [(0, 0, 0)] (zfull.set 1 (2147483669, 2147483669), 42, 7) = some [] := by decide +kernel
theorem zb_42_22 : zck 1 [(0, 0, 0)] (zfull.set 1 (2147483670, 2147483670), 42, 7) = some [] := by decide +kernel
theorem zb_42_23 : zck 1 [(0, 0, 0)] (zfull.set 1 (2147483671, 2147483671), 42, 7) = some [] := by decide +kernel
theorem zb_42_24 : zck 1 [(0, 0, 0)] (zfull.set 1 (2147483672, 2147483672), 42, 7) = some [] := by decide +kernel
theorem zb_42_25 : zck 1 [(0, 0, 0)] (zfull.set 1 (2147483673, 2147483673), 42, 7) = some [] := by decide +kernel
theorem zb_42_26 : zck 1 [(0, 0, 0)] (zfull.set 1 (2147483674, 2147483674), 42, 7) = some [] := by decide +kernel
theorem zb_42_27 : zck 1 [(0, 0, 0)] (zfull.set 1 (2147483675, 2147483675), 42, 7) = some [] := by decide +kernel
theorem zb_42_28 : zck 1 [(0, 0, 0)] (zfull.set 1 (2147483676, 2147483676), 42, 7) = some [] := by decide +kernel
theorem zb_42_29 : zck 1 [(0, 0, 0)] (zfull.set 1 (2147483677, 2147483677), 42, 7) = some [] := by decide +kernel
theorem zb_42_30 : zck 1 [(0, 0, 0)] (zfull.set 1 (2147483678, 2147483678), 42, 7) = some [] := by decide +kernel
theorem zb_42_31 : zck 1 [(0, 0, 0)] (zfull.set 1 (2147483679, 2147483679), 42, 7) = some [] := by decide +kernel
theorem zb_42_32 : zck 1 [(0, 0, 0)] (zfull.set 1 (2147483680, 2147483680), 42, 7) = some [] := by decide +kernel
theorem zb_42_33 : zck 1 [(0, 0, 0)] (zfull.set 1 (2147483681, 2147483681), 42, 7) = some [] := by decide +kernel
theorem zb_42_34 : zck 1 [(0, 0, 0)] (zfull.set 1 (2147483682, 2147483682), 42, 7) = some [] := by decide +kernel
theorem zb_42_35 : zck 1 [(0, 0, 0)] (zfull.set 1 (2147483683, 2147483683), 42, 7) = some [] := by decide +kernel
theorem zb_42_36 : zck 1 [(0, 0, 0)] (zfull.set 1 (2147483684, 2147483684), 42, 7) = some [] := by decide +kernel
theorem zb_42_37 : zck 1 [(0, 0, 0)] (zfull.set 1 (2147483685, 2147483685), 42, 7) = some [] := by decide +kernel
theorem zb_42_38 : zck 1 [(0, 0, 0)] (zfull.set 1 (2147483686, 2147483686), 42, 7) = some [] := by decide +kernel
theorem zb_42_39 : zck 1 [(0, 0, 0)] (zfull.set 1 (2147483687, 2147483687), 42, 7) = some [] := by decide +kernel
theorem zb_42_40 : zck 1 [(0, 0, 0)] (zfull.set 1 (2147483688, 2147483688), 42, 7) = some [] := by decide +kernel
theorem zb_42_41 : zck 1 [(0, 0, 0)] (zfull.set 1 (2147483689, 2147483689), 42, 7) = some [] := by decide +kernel
theorem zb_42_42 : zck 1 [(0, 0, 0)] (zfull.set 1 (2147483690, 2147483690), 42, 7) = some [] := by decide +kernel
theorem zb_42_43 : zck 1 [(0, 0, 0)] (zfull.set 1 (2147483691, 2147483691), 42, 7) = some [] := by decide +kernel
theorem zb_42_44 : zck 1 [(0, 0, 0)] (zfull.set 1 (2147483692, 2147483692), 42, 7) = some [] := by decide +kernel
theorem zb_42_45 : zck 1 [(0, 0, 0)] (zfull.set 1 (2147483693, 2147483693), 42, 7) = some [] := by decide +kernel
theorem zb_42_46 : zck 1 [(0, 0, 0)] (zfull.set 1 (2147483694, 2147483694), 42, 7) = some [] := by decide +kernel
theorem zb_42_47 : zck 1 [(0, 0, 0)] (zfull.set 1 (2147483695, 2147483695), 42, 7) = some [] := by decide +kernel
theorem zb_42_48 : zck 1 [(0, 0, 0)] (zfull.set 1 (2147483696, 2147483696), 42, 7) = some [] := by decide +kernel
theorem zb_42_49 : zck 1 [(0, 0, 0)] (zfull.set 1 (2147483697, 2147483697), 42, 7) = some [] := by decide +kernel
theorem zb_42_50 : zck 1 [(0, 0, 0)] (zfull.set 1 (2147483698, 2147483698), 42, 7) = some [] := by decide +kernel
theorem zb_42_51 : zck 1 [(0, 0, 0)] (zfull.set 1 (2147483699, 2147483699), 42, 7) = some [] := by decide +kernel
theorem zb_42_52 : zck 1 [(0, 0, 0)] (zfull.set 1 (2147483700, 2147483700), 42, 7) = some [] := by decide +kernel
theorem zb_42_53 : zck 1 [(0, 0, 0)] (zfull.set 1 (2147483701, 2147483701), 42, 7) = some [] := by decide +kernel
theorem zb_42_54 : zck 1 [(0, 0, 0)] (zfull.set 1 (2147483702, 2147483702), 42, 7) = some [] := by decide +kernel
theorem zb_42_55 : zck 1 [(0, 0, 0)] (zfull.set 1 (2147483703, 2147483703), 42, 7) = some [] := by decide +kernel
theorem zb_42_56 : zck 1 [(0, 0, 0)] (zfull.set 1 (2147483704, 2147483704), 42, 7) = some [] := by decide +kernel
theorem zb_42_57 : zck 1 [(0, 0, 0)] (zfull.set 1 (2147483705, 2147483705), 42, 7) = some [] := by decide +kernel
theorem zb_42_58 : zck 1 [(0, 0, 0)] (zfull.set 1 (2147483706, 2147483706), 42, 7) = some [] := by decide +kernel
theorem zb_42_59 : zck 1 [(0, 0, 0)] (zfull.set 1 (2147483707, 2147483707), 42, 7) = some [] := by decide +kernel
theorem zb_42_60 : zck 1 [(0, 0, 0)] (zfull.set 1 (2147483708, 2147483708), 42, 7) = some [] := by decide +kernel
theorem zb_42_61 : zck 1 [(0, 0, 0)] (zfull.set 1 (2147483709, 4294967295), 42, 7) = some [] := by decide +kernel
def zin_42 : List (Nat × Nat) := [(0, 2147483648), (2147483649, 2147483649), (2147483650, 2147483650), (2147483651, 2147483651), (2147483652, 2147483652), (2147483653, 2147483653), (2147483654, 2147483654), (2147483655, 2147483655), (2147483656, 2147483656), (2147483657, 2147483657), (2147483658, 2147483658), (2147483659, 2147483659), (2147483660, 2147483660), (2147483661, 2147483661), (2147483662, 2147483662), (2147483663, 2147483663), (2147483664, 2147483664), (2147483665, 2147483665), (2147483666, 2147483666), (2147483667, 2147483667), (2147483668, 2147483668), (2147483669, 2147483669), (2147483670, 2147483670), (2147483671, 2147483671), (2147483672, 2147483672), (2147483673, 2147483673), (2147483674, 2147483674), (2147483675, 2147483675), (2147483676, 2147483676), (2147483677, 2147483677), (2147483678, 2147483678), (2147483679, 2147483679), (2147483680, 2147483680), (2147483681, 2147483681), (2147483682, 2147483682), (2147483683, 2147483683), (2147483684, 2147483684), (2147483685, 2147483685), (2147483686, 2147483686), (2147483687, 2147483687), (2147483688, 2147483688), (2147483689, 2147483689), (2147483690, 2147483690), (2147483691, 2147483691), (2147483692, 2147483692), (2147483693, 2147483693), (2147483694, 2147483694), (2147483695, 2147483695), (2147483696, 2147483696), (2147483697, 2147483697), (2147483698, 2147483698), (2147483699, 2147483699), (2147483700, 2147483700), (2147483701, 2147483701), (2147483702, 2147483702), (2147483703, 2147483703), (2147483704, 2147483704), (2147483705, 2147483705), (2147483706, 2147483706), (2147483707, 2147483707), (2147483708, 2147483708), (2147483709, 4294967295)]
theorem zcv_42 : zcov 0 zin_42 = true := by decide +kernel
theorem zbs_42 : ∀ q ∈ zin_42, zck 1 [(0, 0, 0)] (zfull.set 1 q, 42, 7) = some [] := List.forall_mem_cons.mpr ⟨zb_42_0, List.forall_mem_cons.mpr ⟨zb_42_1, List.forall_mem_cons.mpr ⟨zb_42_2, List.forall_mem_cons.mpr ⟨zb_42_3, List.forall_mem_cons.mpr ⟨zb_42_4, List.forall_mem_cons.mpr ⟨zb_42_5, List.forall_mem_cons.mpr ⟨zb_42_6, List.forall_mem_cons.mpr ⟨zb_42_7, List.forall_mem_cons.mpr ⟨zb_42_8, List.forall_mem_cons.mpr ⟨zb_42_9, List.forall_mem_cons.mpr ⟨zb_42_10, List.forall_mem_cons.mpr ⟨zb_42_11, List.forall_mem_cons.mpr ⟨zb_42_12, List.forall_mem_cons.mpr ⟨zb_42_13, List.forall_mem_cons.mpr ⟨zb_42_14, List.forall_mem_cons.mpr ⟨zb_42_15, List.forall_mem_cons.mpr ⟨zb_42_16, List.forall_mem_cons.mpr ⟨zb_42_17, List.forall_mem_cons.mpr ⟨zb_42_18, List.forall_mem_cons.mpr ⟨zb_42_19, List.forall_mem_cons.mpr ⟨zb_42_20, List.forall_mem_cons.mpr ⟨zb_42_21, List.forall_mem_cons.mpr ⟨zb_42_22, List.forall_mem_cons.mpr ⟨zb_42_23, List.forall_mem_cons.mpr ⟨zb_42_24, List.forall_mem_cons.mpr ⟨zb_42_25, List.forall_mem_cons.mpr ⟨zb_42_26, List.forall_mem_cons.mpr ⟨zb_42_27, List.forall_mem_cons.mpr ⟨zb_42_28, List.forall_mem_cons.mpr ⟨zb_42_29, List.forall_mem_cons.mpr ⟨zb_42_30, List.forall_mem_cons.mpr ⟨zb_42_31, List.forall_mem_cons.mpr ⟨zb_42_32, List.forall_mem_cons.mpr ⟨zb_42_33, List.forall_mem_cons.mpr ⟨zb_42_34, List.forall_mem_cons.mpr ⟨zb_42_35, List.forall_mem_cons.mpr ⟨zb_42_36, List.forall_mem_cons.mpr ⟨zb_42_37, List.forall_mem_cons.mpr ⟨zb_42_38, List.forall_mem_cons.mpr ⟨zb_42_39, List.forall_mem_cons.mpr ⟨zb_42_40, List.forall_mem_cons.mpr ⟨zb_42_41, List.forall_mem_cons.mpr ⟨zb_42_42, List.forall_mem_cons.mpr ⟨zb_42_43, List.forall_mem_cons.mpr ⟨zb_42_44, List.forall_mem_cons.mpr ⟨zb_42_45, List.forall_mem_cons.mpr ⟨zb_42_46, List.forall_mem_cons.mpr ⟨zb_42_47, List.forall_mem_cons.mpr ⟨zb_42_48, List.forall_mem_cons.mpr ⟨zb_42_49, List.forall_mem_cons.mpr ⟨zb_42_50, List.forall_mem_cons.mpr ⟨zb_42_51, List.forall_mem_cons.mpr ⟨zb_42_52, List.forall_mem_cons.mpr ⟨zb_42_53, List.forall_mem_cons.mpr ⟨zb_42_54, List.forall_mem_cons.mpr ⟨zb_42_55, List.forall_mem_cons.mpr ⟨zb_42_56, List.forall_mem_cons.mpr ⟨zb_42_57, List.forall_mem_cons.mpr ⟨zb_42_58, List.forall_mem_cons.mpr ⟨zb_42_59, List.forall_mem_cons.mpr ⟨zb_42_60, List.forall_mem_cons.mpr ⟨zb_42_61, fun _ h => absurd h List.not_mem_nil⟩⟩⟩⟩⟩⟩⟩⟩⟩⟩⟩⟩⟩⟩⟩⟩⟩⟩⟩⟩⟩⟩⟩⟩⟩⟩⟩⟩⟩⟩⟩⟩⟩⟩⟩⟩⟩⟩⟩⟩⟩⟩⟩⟩⟩⟩⟩⟩⟩⟩⟩⟩⟩⟩⟩⟩⟩⟩⟩⟩⟩⟩
