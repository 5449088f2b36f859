/-! instructions that leave the heap alone -/
def zo_iloadn : zSem := fun x M ev st k => match st with
  | (pc, L, stk, G, cu, su) => match zlk (zx x 0 % 4) L with
    | some v => cond (zisI v) (znx pc 1 L (v :: stk) G cu su k) none
    | none => none
theorem zs_iloadn : zSnd (fun _ x => .iload_n (Fin.ofNat 4 (zx x 0))) 1 ztrue zo_iloadn := by
  intro p l e R s m args below meth c Q M ev X n0 ad0 cx x pc L stk G cu su k r hd hf hs
  dsimp only [zo_iloadn] at hs
  cases hk : zlk (zx x 0 % 4) L with
  | none => rw [hk] at hs; cases hs
  | some v =>
  rw [hk] at hs
  obtain ⟨hv, hs⟩ := zc hs
  refine ⟨_, znx_eq hs, fun hgo => ?_⟩
  intro ad ca tys H locs ls hR
  have hl := zlv hR hk
  rw [zV_I hv] at hl
  have h2 := hgo ad ca tys H locs ls hR
  simp only [List.map_cons] at h2
  rw [zV_I hv] at h2
  exact lv_iload_n cx.1 cx.2.1 hd rfl hl h2
def zo_iload : zSem := fun x M ev st k => match st with
  | (pc, L, stk, G, cu, su) => match zlk (zx x 0) L with
    | some v => cond (zisI v) (znx pc 2 L (v :: stk) G cu su k) none
    | none => none
theorem zs_iload : zSnd (fun _ x => .iload (zx x 0)) 2 ztrue zo_iload := by
  intro p l e R s m args below meth c Q M ev X n0 ad0 cx x pc L stk G cu su k r hd hf hs
  dsimp only [zo_iload] at hs
  cases hk : zlk (zx x 0) L with
  | none => rw [hk] at hs; cases hs
  | some v =>
  rw [hk] at hs
  obtain ⟨hv, hs⟩ := zc hs
  refine ⟨_, znx_eq hs, fun hgo => ?_⟩
  intro ad ca tys H locs ls hR
  have hl := zlv hR hk
  rw [zV_I hv] at hl
  have h2 := hgo ad ca tys H locs ls hR
  simp only [List.map_cons] at h2
  rw [zV_I hv] at h2
  exact lv_iload cx.1 cx.2.1 hd hl h2
def zo_lloadn : zSem := fun x M ev st k => match st with
  | (pc, L, stk, G, cu, su) => match zlk (zx x 0 % 4) L with
    | some v => cond (zisJ v) (znx pc 1 L (v :: stk) G cu su k) none
    | none => none
theorem zs_lloadn : zSnd (fun _ x => .lload_n (Fin.ofNat 4 (zx x 0))) 1 ztrue zo_lloadn := by
  intro p l e R s m args below meth c Q M ev X n0 ad0 cx x pc L stk G cu su k r hd hf hs
  dsimp only [zo_lloadn] at hs
  cases hk : zlk (zx x 0 % 4) L with
  | none => rw [hk] at hs; cases hs
  | some v =>
  rw [hk] at hs
  obtain ⟨hv, hs⟩ := zc hs
  refine ⟨_, znx_eq hs, fun hgo => ?_⟩
  intro ad ca tys H locs ls hR
  have hl := zlv hR hk
  rw [zV_J hv] at hl
  have h2 := hgo ad ca tys H locs ls hR
  simp only [List.map_cons] at h2
  rw [zV_J hv] at h2
  exact lv_lload_n cx.1 cx.2.1 hd rfl hl h2
def zo_lload : zSem := fun x M ev st k => match st with
  | (pc, L, stk, G, cu, su) => match zlk (zx x 0) L with
    | some v => cond (zisJ v) (znx pc 2 L (v :: stk) G cu su k) none
    | none => none
theorem zs_lload : zSnd (fun _ x => .lload (zx x 0)) 2 ztrue zo_lload := by
  intro p l e R s m args below meth c Q M ev X n0 ad0 cx x pc L stk G cu su k r hd hf hs
  dsimp only [zo_lload] at hs
  cases hk : zlk (zx x 0) L with
  | none => rw [hk] at hs; cases hs
  | some v =>
  rw [hk] at hs
  obtain ⟨hv, hs⟩ := zc hs
  refine ⟨_, znx_eq hs, fun hgo => ?_⟩
  intro ad ca tys H locs ls hR
  have hl := zlv hR hk
  rw [zV_J hv] at hl
  have h2 := hgo ad ca tys H locs ls hR
  simp only [List.map_cons] at h2
  rw [zV_J hv] at h2
  exact lv_lload cx.1 cx.2.1 hd hl h2
def zo_dloadn : zSem := fun x M ev st k => match st with
  | (pc, L, stk, G, cu, su) => match zlk (zx x 0 % 4) L with
    | some v => cond (zisD v) (znx pc 1 L (v :: stk) G cu su k) none
    | none => none
theorem zs_dloadn : zSnd (fun _ x => .dload_n (Fin.ofNat 4 (zx x 0))) 1 ztrue zo_dloadn := by
  intro p l e R s m args below meth c Q M ev X n0 ad0 cx x pc L stk G cu su k r hd hf hs
  dsimp only [zo_dloadn] at hs
  cases hk : zlk (zx x 0 % 4) L with
  | none => rw [hk] at hs; cases hs
  | some v =>
  rw [hk] at hs
  obtain ⟨hv, hs⟩ := zc hs
  refine ⟨_, znx_eq hs, fun hgo => ?_⟩
  intro ad ca tys H locs ls hR
  have hl := zlv hR hk
  rw [zV_D hv] at hl
  have h2 := hgo ad ca tys H locs ls hR
  simp only [List.map_cons] at h2
  rw [zV_D hv] at h2
  exact lv_dload_n cx.1 cx.2.1 hd rfl hl h2
def zo_dload : zSem := fun x M ev st k => match st with
  | (pc, L, stk, G, cu, su) => match zlk (zx x 0) L with
    | some v => cond (zisD v) (znx pc 2 L (v :: stk) G cu su k) none
    | none => none
theorem zs_dload : zSnd (fun _ x => .dload (zx x 0)) 2 ztrue zo_dload := by
  intro p l e R s m args below meth c Q M ev X n0 ad0 cx x pc L stk G cu su k r hd hf hs
  dsimp only [zo_dload] at hs
  cases hk : zlk (zx x 0) L with
  | none => rw [hk] at hs; cases hs
  | some v =>
  rw [hk] at hs
  obtain ⟨hv, hs⟩ := zc hs
  refine ⟨_, znx_eq hs, fun hgo => ?_⟩
  intro ad ca tys H locs ls hR
  have hl := zlv hR hk
  rw [zV_D hv] at hl
  have h2 := hgo ad ca tys H locs ls hR
  simp only [List.map_cons] at h2
  rw [zV_D hv] at h2
  exact lv_dload cx.1 cx.2.1 hd hl h2
def zo_floadn : zSem := fun x M ev st k => match st with
  | (pc, L, stk, G, cu, su) => match zlk (zx x 0 % 4) L with
    | some v => cond (zisF v) (znx pc 1 L (v :: stk) G cu su k) none
    | none => none
theorem zs_floadn : zSnd (fun _ x => .fload_n (Fin.ofNat 4 (zx x 0))) 1 ztrue zo_floadn := by
  intro p l e R s m args below meth c Q M ev X n0 ad0 cx x pc L stk G cu su k r hd hf hs
  dsimp only [zo_floadn] at hs
  cases hk : zlk (zx x 0 % 4) L with
  | none => rw [hk] at hs; cases hs
  | some v =>
  rw [hk] at hs
  obtain ⟨hv, hs⟩ := zc hs
  refine ⟨_, znx_eq hs, fun hgo => ?_⟩
  intro ad ca tys H locs ls hR
  have hl := zlv hR hk
  rw [zV_F hv] at hl
  have h2 := hgo ad ca tys H locs ls hR
  simp only [List.map_cons] at h2
  rw [zV_F hv] at h2
  exact lv_fload_n cx.1 cx.2.1 hd rfl hl h2
def zo_fload : zSem := fun x M ev st k => match st with
  | (pc, L, stk, G, cu, su) => match zlk (zx x 0) L with
    | some v => cond (zisF v) (znx pc 2 L (v :: stk) G cu su k) none
    | none => none
theorem zs_fload : zSnd (fun _ x => .fload (zx x 0)) 2 ztrue zo_fload := by
  intro p l e R s m args below meth c Q M ev X n0 ad0 cx x pc L stk G cu su k r hd hf hs
  dsimp only [zo_fload] at hs
  cases hk : zlk (zx x 0) L with
  | none => rw [hk] at hs; cases hs
  | some v =>
  rw [hk] at hs
  obtain ⟨hv, hs⟩ := zc hs
  refine ⟨_, znx_eq hs, fun hgo => ?_⟩
  intro ad ca tys H locs ls hR
  have hl := zlv hR hk
  rw [zV_F hv] at hl
  have h2 := hgo ad ca tys H locs ls hR
  simp only [List.map_cons] at h2
  rw [zV_F hv] at h2
  exact lv_fload cx.1 cx.2.1 hd hl h2
def zo_aloadn : zSem := fun x M ev st k => match st with
  | (pc, L, stk, G, cu, su) => match zlk (zx x 0 % 4) L with
    | some v => cond (zisR v) (znx pc 1 L (v :: stk) G cu su k) none
    | none => none
theorem zs_aloadn : zSnd (fun _ x => .aload_n (Fin.ofNat 4 (zx x 0))) 1 ztrue zo_aloadn := by
  intro p l e R s m args below meth c Q M ev X n0 ad0 cx x pc L stk G cu su k r hd hf hs
  dsimp only [zo_aloadn] at hs
  cases hk : zlk (zx x 0 % 4) L with
  | none => rw [hk] at hs; cases hs
  | some v =>
  rw [hk] at hs
  obtain ⟨hv, hs⟩ := zc hs
  refine ⟨_, znx_eq hs, fun hgo => ?_⟩
  intro ad ca tys H locs ls hR
  have hl := zlv hR hk
  rw [zV_R hv] at hl
  have h2 := hgo ad ca tys H locs ls hR
  simp only [List.map_cons] at h2
  rw [zV_R hv] at h2
  cases hz : zR ad (zxb X) (zxt X) v with
  | none => rw [hz] at hl h2; exact lv_aload_nN cx.1 cx.2.1 hd rfl hl h2
  | some a => rw [hz] at hl h2; exact lv_aload_n cx.1 cx.2.1 hd rfl hl h2
def zo_aload : zSem := fun x M ev st k => match st with
  | (pc, L, stk, G, cu, su) => match zlk (zx x 0) L with
    | some v => cond (zisR v) (znx pc 2 L (v :: stk) G cu su k) none
    | none => none
theorem zs_aload : zSnd (fun _ x => .aload (zx x 0)) 2 ztrue zo_aload := by
  intro p l e R s m args below meth c Q M ev X n0 ad0 cx x pc L stk G cu su k r hd hf hs
  dsimp only [zo_aload] at hs
  cases hk : zlk (zx x 0) L with
  | none => rw [hk] at hs; cases hs
  | some v =>
  rw [hk] at hs
  obtain ⟨hv, hs⟩ := zc hs
  refine ⟨_, znx_eq hs, fun hgo => ?_⟩
  intro ad ca tys H locs ls hR
  have hl := zlv hR hk
  rw [zV_R hv] at hl
  have h2 := hgo ad ca tys H locs ls hR
  simp only [List.map_cons] at h2
  rw [zV_R hv] at h2
  cases hz : zR ad (zxb X) (zxt X) v with
  | none => rw [hz] at hl h2; exact lv_aloadN cx.1 cx.2.1 hd hl h2
  | some a => rw [hz] at hl h2; exact lv_aload cx.1 cx.2.1 hd hl h2
def zo_istoren : zSem := fun x M ev st k => match st with
  | (pc, L, stk, G, cu, su) => match stk with
    | v :: rest => cond (zisI v && Nat.blt (zx x 0 % 4) (zm_L M)) (zfil (zkeep1 (zx x 0 % 4)) L fun L' => znx pc 1 ((zx x 0 % 4, v) :: L') rest G cu su k) none
    | [] => none
theorem zs_istoren : zSnd (fun _ x => .istore_n (Fin.ofNat 4 (zx x 0))) 1 ztrue zo_istoren := by
  intro p l e R s m args below meth c Q M ev X n0 ad0 cx x pc L stk G cu su k r hd hf hs
  dsimp only [zo_istoren] at hs
  cases stk with
  | nil => cases hs
  | cons v rest =>
  obtain ⟨hv, hs⟩ := zc hs
  rw [zfil_eq] at hs
  simp only [Bool.and_eq_true] at hv
  obtain ⟨hv, hn⟩ := hv
  have hn : zx x 0 % 4 < zm_L M := by simpa using hn
  refine ⟨_, znx_eq hs, fun hgo => ?_⟩
  intro ad ca tys H locs ls hR
  have hk := zkeep1_eq (X := X) (ad := ad) (zx x 0 % 4) v L
  have h2 := fun ls' h' => hgo ad ca tys H locs ls' ⟨h', hR.2⟩
  simp only [List.map_cons] at h2 ⊢
  rw [zV_I hv] at hk ⊢
  refine lv_istore_n cx.1 cx.2.1 hd rfl hR.1 hn hk (fun ls' h' => h2 ls' ?_)
  exact h'
def zo_istore : zSem := fun x M ev st k => match st with
  | (pc, L, stk, G, cu, su) => match stk with
    | v :: rest => cond (zisI v && Nat.blt (zx x 0) (zm_L M)) (zfil (zkeep1 (zx x 0)) L fun L' => znx pc 2 ((zx x 0, v) :: L') rest G cu su k) none
    | [] => none
theorem zs_istore : zSnd (fun _ x => .istore (zx x 0)) 2 ztrue zo_istore := by
  intro p l e R s m args below meth c Q M ev X n0 ad0 cx x pc L stk G cu su k r hd hf hs
  dsimp only [zo_istore] at hs
  cases stk with
  | nil => cases hs
  | cons v rest =>
  obtain ⟨hv, hs⟩ := zc hs
  rw [zfil_eq] at hs
  simp only [Bool.and_eq_true] at hv
  obtain ⟨hv, hn⟩ := hv
  have hn : zx x 0 < zm_L M := by simpa using hn
  refine ⟨_, znx_eq hs, fun hgo => ?_⟩
  intro ad ca tys H locs ls hR
  have hk := zkeep1_eq (X := X) (ad := ad) (zx x 0) v L
  have h2 := fun ls' h' => hgo ad ca tys H locs ls' ⟨h', hR.2⟩
  simp only [List.map_cons] at h2 ⊢
  rw [zV_I hv] at hk ⊢
  refine lv_istore cx.1 cx.2.1 hd hR.1 hn hk (fun ls' h' => h2 ls' ?_)
  exact h'
def zo_fstoren : zSem := fun x M ev st k => match st with
  | (pc, L, stk, G, cu, su) => match stk with
    | v :: rest => cond (zisF v && Nat.blt (zx x 0 % 4) (zm_L M)) (zfil (zkeep1 (zx x 0 % 4)) L fun L' => znx pc 1 ((zx x 0 % 4, v) :: L') rest G cu su k) none
    | [] => none
theorem zs_fstoren : zSnd (fun _ x => .fstore_n (Fin.ofNat 4 (zx x 0))) 1 ztrue zo_fstoren := by
  intro p l e R s m args below meth c Q M ev X n0 ad0 cx x pc L stk G cu su k r hd hf hs
  dsimp only [zo_fstoren] at hs
  cases stk with
  | nil => cases hs
  | cons v rest =>
  obtain ⟨hv, hs⟩ := zc hs
  rw [zfil_eq] at hs
  simp only [Bool.and_eq_true] at hv
  obtain ⟨hv, hn⟩ := hv
  have hn : zx x 0 % 4 < zm_L M := by simpa using hn
  refine ⟨_, znx_eq hs, fun hgo => ?_⟩
  intro ad ca tys H locs ls hR
  have hk := zkeep1_eq (X := X) (ad := ad) (zx x 0 % 4) v L
  have h2 := fun ls' h' => hgo ad ca tys H locs ls' ⟨h', hR.2⟩
  simp only [List.map_cons] at h2 ⊢
  rw [zV_F hv] at hk ⊢
  refine lv_fstore_n cx.1 cx.2.1 hd rfl hR.1 hn hk (fun ls' h' => h2 ls' ?_)
  exact h'
def zo_fstore : zSem := fun x M ev st k => match st with
  | (pc, L, stk, G, cu, su) => match stk with
    | v :: rest => cond (zisF v && Nat.blt (zx x 0) (zm_L M)) (zfil (zkeep1 (zx x 0)) L fun L' => znx pc 2 ((zx x 0, v) :: L') rest G cu su k) none
    | [] => none
theorem zs_fstore : zSnd (fun _ x => .fstore (zx x 0)) 2 ztrue zo_fstore := by
  intro p l e R s m args below meth c Q M ev X n0 ad0 cx x pc L stk G cu su k r hd hf hs
  dsimp only [zo_fstore] at hs
  cases stk with
  | nil => cases hs
  | cons v rest =>
  obtain ⟨hv, hs⟩ := zc hs
  rw [zfil_eq] at hs
  simp only [Bool.and_eq_true] at hv
  obtain ⟨hv, hn⟩ := hv
  have hn : zx x 0 < zm_L M := by simpa using hn
  refine ⟨_, znx_eq hs, fun hgo => ?_⟩
  intro ad ca tys H locs ls hR
  have hk := zkeep1_eq (X := X) (ad := ad) (zx x 0) v L
  have h2 := fun ls' h' => hgo ad ca tys H locs ls' ⟨h', hR.2⟩
  simp only [List.map_cons] at h2 ⊢
  rw [zV_F hv] at hk ⊢
  refine lv_fstore cx.1 cx.2.1 hd hR.1 hn hk (fun ls' h' => h2 ls' ?_)
  exact h'
def zo_astoren : zSem := fun x M ev st k => match st with
  | (pc, L, stk, G, cu, su) => match stk with
    | v :: rest => cond (zisR v && Nat.blt (zx x 0 % 4) (zm_L M)) (zfil (zkeep1 (zx x 0 % 4)) L fun L' => znx pc 1 ((zx x 0 % 4, v) :: L') rest G cu su k) none
    | [] => none
theorem zs_astoren : zSnd (fun _ x => .astore_n (Fin.ofNat 4 (zx x 0))) 1 ztrue zo_astoren := by
  intro p l e R s m args below meth c Q M ev X n0 ad0 cx x pc L stk G cu su k r hd hf hs
  dsimp only [zo_astoren] at hs
  cases stk with
  | nil => cases hs
  | cons v rest =>
  obtain ⟨hv, hs⟩ := zc hs
  rw [zfil_eq] at hs
  simp only [Bool.and_eq_true] at hv
  obtain ⟨hv, hn⟩ := hv
  have hn : zx x 0 % 4 < zm_L M := by simpa using hn
  refine ⟨_, znx_eq hs, fun hgo => ?_⟩
  intro ad ca tys H locs ls hR
  have hk := zkeep1_eq (X := X) (ad := ad) (zx x 0 % 4) v L
  have h2 := fun ls' h' => hgo ad ca tys H locs ls' ⟨h', hR.2⟩
  simp only [List.map_cons] at h2 ⊢
  rw [zV_R hv] at hk ⊢
  cases hz : zR ad (zxb X) (zxt X) v with
  | none => rw [hz] at hk; exact lv_astore_nN cx.1 cx.2.1 hd rfl hR.1 hn hk (fun ls' h' => h2 ls' h')
  | some a => rw [hz] at hk; exact lv_astore_n cx.1 cx.2.1 hd rfl hR.1 hn hk (fun ls' h' => h2 ls' h')
def zo_astore : zSem := fun x M ev st k => match st with
  | (pc, L, stk, G, cu, su) => match stk with
    | v :: rest => cond (zisR v && Nat.blt (zx x 0) (zm_L M)) (zfil (zkeep1 (zx x 0)) L fun L' => znx pc 2 ((zx x 0, v) :: L') rest G cu su k) none
    | [] => none
theorem zs_astore : zSnd (fun _ x => .astore (zx x 0)) 2 ztrue zo_astore := by
  intro p l e R s m args below meth c Q M ev X n0 ad0 cx x pc L stk G cu su k r hd hf hs
  dsimp only [zo_astore] at hs
  cases stk with
  | nil => cases hs
  | cons v rest =>
  obtain ⟨hv, hs⟩ := zc hs
  rw [zfil_eq] at hs
  simp only [Bool.and_eq_true] at hv
  obtain ⟨hv, hn⟩ := hv
  have hn : zx x 0 < zm_L M := by simpa using hn
  refine ⟨_, znx_eq hs, fun hgo => ?_⟩
  intro ad ca tys H locs ls hR
  have hk := zkeep1_eq (X := X) (ad := ad) (zx x 0) v L
  have h2 := fun ls' h' => hgo ad ca tys H locs ls' ⟨h', hR.2⟩
  simp only [List.map_cons] at h2 ⊢
  rw [zV_R hv] at hk ⊢
  cases hz : zR ad (zxb X) (zxt X) v with
  | none => rw [hz] at hk; exact lv_astoreN cx.1 cx.2.1 hd hR.1 hn hk (fun ls' h' => h2 ls' h')
  | some a => rw [hz] at hk; exact lv_astore cx.1 cx.2.1 hd hR.1 hn hk (fun ls' h' => h2 ls' h')
def zo_lstoren : zSem := fun x M ev st k => match st with
  | (pc, L, stk, G, cu, su) => match stk with
    | v :: rest => cond (zisJ v && Nat.blt ((zx x 0 % 4) + 1) (zm_L M)) (zfil (zkeep2 (zx x 0 % 4)) L fun L' => znx pc 1 ((zx x 0 % 4, v) :: L') rest G cu su k) none
    | [] => none
theorem zs_lstoren : zSnd (fun _ x => .lstore_n (Fin.ofNat 4 (zx x 0))) 1 ztrue zo_lstoren := by
  intro p l e R s m args below meth c Q M ev X n0 ad0 cx x pc L stk G cu su k r hd hf hs
  dsimp only [zo_lstoren] at hs
  cases stk with
  | nil => cases hs
  | cons v rest =>
  obtain ⟨hv, hs⟩ := zc hs
  rw [zfil_eq] at hs
  simp only [Bool.and_eq_true] at hv
  obtain ⟨hv, hn⟩ := hv
  have hn : (zx x 0 % 4) + 1 < zm_L M := by simpa using hn
  refine ⟨_, znx_eq hs, fun hgo => ?_⟩
  intro ad ca tys H locs ls hR
  have hk := zkeep2_eq (X := X) (ad := ad) (zx x 0 % 4) v L
  have h2 := fun ls' h' => hgo ad ca tys H locs ls' ⟨h', hR.2⟩
  simp only [List.map_cons] at h2 ⊢
  rw [zV_J hv] at hk ⊢
  refine lv_lstore_n cx.1 cx.2.1 hd rfl hR.1 hn hk (fun ls' h' => h2 ls' ?_)
  exact h'
def zo_lstore : zSem := fun x M ev st k => match st with
  | (pc, L, stk, G, cu, su) => match stk with
    | v :: rest => cond (zisJ v && Nat.blt ((zx x 0) + 1) (zm_L M)) (zfil (zkeep2 (zx x 0)) L fun L' => znx pc 2 ((zx x 0, v) :: L') rest G cu su k) none
    | [] => none
theorem zs_lstore : zSnd (fun _ x => .lstore (zx x 0)) 2 ztrue zo_lstore := by
  intro p l e R s m args below meth c Q M ev X n0 ad0 cx x pc L stk G cu su k r hd hf hs
  dsimp only [zo_lstore] at hs
  cases stk with
  | nil => cases hs
  | cons v rest =>
  obtain ⟨hv, hs⟩ := zc hs
  rw [zfil_eq] at hs
  simp only [Bool.and_eq_true] at hv
  obtain ⟨hv, hn⟩ := hv
  have hn : (zx x 0) + 1 < zm_L M := by simpa using hn
  refine ⟨_, znx_eq hs, fun hgo => ?_⟩
  intro ad ca tys H locs ls hR
  have hk := zkeep2_eq (X := X) (ad := ad) (zx x 0) v L
  have h2 := fun ls' h' => hgo ad ca tys H locs ls' ⟨h', hR.2⟩
  simp only [List.map_cons] at h2 ⊢
  rw [zV_J hv] at hk ⊢
  refine lv_lstore cx.1 cx.2.1 hd hR.1 hn hk (fun ls' h' => h2 ls' ?_)
  exact h'
def zo_dstoren : zSem := fun x M ev st k => match st with
  | (pc, L, stk, G, cu, su) => match stk with
    | v :: rest => cond (zisD v && Nat.blt ((zx x 0 % 4) + 1) (zm_L M)) (zfil (zkeep2 (zx x 0 % 4)) L fun L' => znx pc 1 ((zx x 0 % 4, v) :: L') rest G cu su k) none
    | [] => none
theorem zs_dstoren : zSnd (fun _ x => .dstore_n (Fin.ofNat 4 (zx x 0))) 1 ztrue zo_dstoren := by
  intro p l e R s m args below meth c Q M ev X n0 ad0 cx x pc L stk G cu su k r hd hf hs
  dsimp only [zo_dstoren] at hs
  cases stk with
  | nil => cases hs
  | cons v rest =>
  obtain ⟨hv, hs⟩ := zc hs
  rw [zfil_eq] at hs
  simp only [Bool.and_eq_true] at hv
  obtain ⟨hv, hn⟩ := hv
  have hn : (zx x 0 % 4) + 1 < zm_L M := by simpa using hn
  refine ⟨_, znx_eq hs, fun hgo => ?_⟩
  intro ad ca tys H locs ls hR
  have hk := zkeep2_eq (X := X) (ad := ad) (zx x 0 % 4) v L
  have h2 := fun ls' h' => hgo ad ca tys H locs ls' ⟨h', hR.2⟩
  simp only [List.map_cons] at h2 ⊢
  rw [zV_D hv] at hk ⊢
  refine lv_dstore_n cx.1 cx.2.1 hd rfl hR.1 hn hk (fun ls' h' => h2 ls' ?_)
  exact h'
def zo_dstore : zSem := fun x M ev st k => match st with
  | (pc, L, stk, G, cu, su) => match stk with
    | v :: rest => cond (zisD v && Nat.blt ((zx x 0) + 1) (zm_L M)) (zfil (zkeep2 (zx x 0)) L fun L' => znx pc 2 ((zx x 0, v) :: L') rest G cu su k) none
    | [] => none
theorem zs_dstore : zSnd (fun _ x => .dstore (zx x 0)) 2 ztrue zo_dstore := by
  intro p l e R s m args below meth c Q M ev X n0 ad0 cx x pc L stk G cu su k r hd hf hs
  dsimp only [zo_dstore] at hs
  cases stk with
  | nil => cases hs
  | cons v rest =>
  obtain ⟨hv, hs⟩ := zc hs
  rw [zfil_eq] at hs
  simp only [Bool.and_eq_true] at hv
  obtain ⟨hv, hn⟩ := hv
  have hn : (zx x 0) + 1 < zm_L M := by simpa using hn
  refine ⟨_, znx_eq hs, fun hgo => ?_⟩
  intro ad ca tys H locs ls hR
  have hk := zkeep2_eq (X := X) (ad := ad) (zx x 0) v L
  have h2 := fun ls' h' => hgo ad ca tys H locs ls' ⟨h', hR.2⟩
  simp only [List.map_cons] at h2 ⊢
  rw [zV_D hv] at hk ⊢
  refine lv_dstore cx.1 cx.2.1 hd hR.1 hn hk (fun ls' h' => h2 ls' ?_)
  exact h'
def zo_iconst : zSem := fun x M ev st k => match st with
  | (pc, L, stk, G, cu, su) => zN (zx x 1) fun n => znx pc 1 L ((0, n) :: stk) G cu su k
theorem zs_iconst : zSnd (fun _ x => .iconst ((zx x 0 : Int) - 1)) 1 (fun _ x => decide (Int32.ofInt ((zx x 0 : Int) - 1) = nI (zx x 1))) zo_iconst := by
  intro p l e R s m args below meth c Q M ev X n0 ad0 cx x pc L stk G cu su k r hd hf hs
  dsimp only [zo_iconst] at hs
  rw [zN_eq] at hs
  refine ⟨_, znx_eq hs, fun hgo => ?_⟩
  intro ad ca tys H locs ls hR
  exact lv_iconst cx.1 cx.2.1 hd (of_decide_eq_true hf) (hgo ad ca tys H locs ls hR)
def zo_bipush : zSem := fun x M ev st k => match st with
  | (pc, L, stk, G, cu, su) => zN (zx x 1) fun n => znx pc 2 L ((0, n) :: stk) G cu su k
theorem zs_bipush : zSnd (fun _ x => .bipush ((zx x 0 : Int) - 128)) 2 (fun _ x => decide ((Int8.ofInt ((zx x 0 : Int) - 128)).toInt32 = nI (zx x 1))) zo_bipush := by
  intro p l e R s m args below meth c Q M ev X n0 ad0 cx x pc L stk G cu su k r hd hf hs
  dsimp only [zo_bipush] at hs
  rw [zN_eq] at hs
  refine ⟨_, znx_eq hs, fun hgo => ?_⟩
  intro ad ca tys H locs ls hR
  exact lv_bipush cx.1 cx.2.1 hd (of_decide_eq_true hf) (hgo ad ca tys H locs ls hR)
def zo_sipush : zSem := fun x M ev st k => match st with
  | (pc, L, stk, G, cu, su) => zN (zx x 1) fun n => znx pc 3 L ((0, n) :: stk) G cu su k
theorem zs_sipush : zSnd (fun _ x => .sipush ((zx x 0 : Int) - 32768)) 3 (fun _ x => decide ((Int16.ofInt ((zx x 0 : Int) - 32768)).toInt32 = nI (zx x 1))) zo_sipush := by
  intro p l e R s m args below meth c Q M ev X n0 ad0 cx x pc L stk G cu su k r hd hf hs
  dsimp only [zo_sipush] at hs
  rw [zN_eq] at hs
  refine ⟨_, znx_eq hs, fun hgo => ?_⟩
  intro ad ca tys H locs ls hR
  exact lv_sipush cx.1 cx.2.1 hd (of_decide_eq_true hf) (hgo ad ca tys H locs ls hR)
def zo_lconst : zSem := fun x M ev st k => match st with
  | (pc, L, stk, G, cu, su) => zN (zx x 0 % 2) fun n => znx pc 1 L ((4, n) :: stk) G cu su k
theorem zs_lconst : zSnd (fun _ x => .lconst (Fin.ofNat 2 (zx x 0))) 1 ztrue zo_lconst := by
  intro p l e R s m args below meth c Q M ev X n0 ad0 cx x pc L stk G cu su k r hd hf hs
  dsimp only [zo_lconst] at hs
  rw [zN_eq] at hs
  refine ⟨_, znx_eq hs, fun hgo => ?_⟩
  intro ad ca tys H locs ls hR
  exact lv_lconst cx.1 cx.2.1 hd rfl (hgo ad ca tys H locs ls hR)
def zo_dconst : zSem := fun x M ev st k => match st with
  | (pc, L, stk, G, cu, su) => znx pc 1 L ((6, 0) :: stk) G cu su k
theorem zs_dconst : zSnd (fun _ _ => .dconst 0) 1 ztrue zo_dconst := by
  intro p l e R s m args below meth c Q M ev X n0 ad0 cx x pc L stk G cu su k r hd hf hs
  dsimp only [zo_dconst] at hs
  refine ⟨_, znx_eq hs, fun hgo => ?_⟩
  intro ad ca tys H locs ls hR
  exact lv_dconst0 cx.1 cx.2.1 hd (hgo ad ca tys H locs ls hR)
def zo_null : zSem := fun x M ev st k => match st with
  | (pc, L, stk, G, cu, su) => znx pc 1 L ((2, 0) :: stk) G cu su k
theorem zs_null : zSnd (fun _ _ => .aconst_null) 1 ztrue zo_null := by
  intro p l e R s m args below meth c Q M ev X n0 ad0 cx x pc L stk G cu su k r hd hf hs
  dsimp only [zo_null] at hs
  refine ⟨_, znx_eq hs, fun hgo => ?_⟩
  intro ad ca tys H locs ls hR
  exact lv_null cx.1 cx.2.1 hd (hgo ad ca tys H locs ls hR)
def zo_iadd : zSem := fun x M ev st k => match st with
  | (pc, L, stk, G, cu, su) => match stk with
    | v2 :: rest1 => match rest1 with
      | v1 :: rest => cond (Nat.beq v1.1 0 && Nat.beq v2.1 0) (zN ((v1.2 + v2.2) % 4294967296) fun n => znx pc 1 L ((0, n) :: rest) G cu su k) none
      | [] => none
    | [] => none
theorem zs_iadd : zSnd (fun _ _ => .iadd) 1 ztrue zo_iadd := by
  intro p l e R s m args below meth c Q M ev X n0 ad0 cx x pc L stk G cu su k r hd hf hs
  dsimp only [zo_iadd] at hs
  cases stk with
  | nil => cases hs
  | cons v2 rest1 =>
  cases rest1 with
  | nil => cases hs
  | cons v1 rest =>
  obtain ⟨hv, hs⟩ := zc hs
  rw [zN_eq] at hs
  simp only [Bool.and_eq_true] at hv
  obtain ⟨hv1, hv2⟩ := hv
  refine ⟨_, znx_eq hs, fun hgo => ?_⟩
  intro ad ca tys H locs ls hR
  have h2 := hgo ad ca tys H locs ls hR
  simp only [List.map_cons] at h2 ⊢
  have he : nI ((v1.2 + v2.2) % 4294967296) = nI v1.2 + nI v2.2 := by rw [nI_mod, nI_add]
  rw [show zV (zxr X) ad (zxb X) (zxt X) (0, (v1.2 + v2.2) % 4294967296) = .int (nI ((v1.2 + v2.2) % 4294967296)) from rfl, he] at h2
  rw [zV_0 hv1, zV_0 hv2]
  exact lv_iadd cx.1 cx.2.1 hd h2
def zo_isub : zSem := fun x M ev st k => match st with
  | (pc, L, stk, G, cu, su) => match stk with
    | v2 :: rest1 => match rest1 with
      | v1 :: rest => cond (Nat.beq v1.1 0 && Nat.beq v2.1 0 && Nat.blt v2.2 4294967296) (zN ((v1.2 + (4294967296 - v2.2)) % 4294967296) fun n => znx pc 1 L ((0, n) :: rest) G cu su k) none
      | [] => none
    | [] => none
theorem zs_isub : zSnd (fun _ _ => .isub) 1 ztrue zo_isub := by
  intro p l e R s m args below meth c Q M ev X n0 ad0 cx x pc L stk G cu su k r hd hf hs
  dsimp only [zo_isub] at hs
  cases stk with
  | nil => cases hs
  | cons v2 rest1 =>
  cases rest1 with
  | nil => cases hs
  | cons v1 rest =>
  obtain ⟨hv, hs⟩ := zc hs
  rw [zN_eq] at hs
  simp only [Bool.and_eq_true] at hv
  obtain ⟨⟨hv1, hv2⟩, hv3⟩ := hv
  refine ⟨_, znx_eq hs, fun hgo => ?_⟩
  intro ad ca tys H locs ls hR
  have h2 := hgo ad ca tys H locs ls hR
  simp only [List.map_cons] at h2 ⊢
  have he : nI ((v1.2 + (4294967296 - v2.2)) % 4294967296) = nI v1.2 - nI v2.2 := (nI_subm _ _ (by simpa using hv3)).symm
  rw [show zV (zxr X) ad (zxb X) (zxt X) (0, (v1.2 + (4294967296 - v2.2)) % 4294967296) = .int (nI ((v1.2 + (4294967296 - v2.2)) % 4294967296)) from rfl, he] at h2
  rw [zV_0 hv1, zV_0 hv2]
  exact lv_isub cx.1 cx.2.1 hd h2
def zo_iand : zSem := fun x M ev st k => match st with
  | (pc, L, stk, G, cu, su) => match stk with
    | v2 :: rest1 => match rest1 with
      | v1 :: rest => cond (Nat.beq v1.1 1 && (Nat.beq v1.2 0 && (Nat.beq v2.1 0 && (Nat.beq v2.2 63 && Nat.blt ev.2.1 64)))) (zN ev.2.1 fun n => znx pc 1 L ((0, n) :: rest) G cu su k) none
      | [] => none
    | [] => none
theorem zs_iand : zSnd (fun _ _ => .iand) 1 ztrue zo_iand := by
  intro p l e R s m args below meth c Q M ev X n0 ad0 cx x pc L stk G cu su k r hd hf hs
  dsimp only [zo_iand] at hs
  cases stk with
  | nil => cases hs
  | cons v2 rest1 =>
  cases rest1 with
  | nil => cases hs
  | cons v1 rest =>
  have hs9 := (zc hs).2
  have hv := (zc hs).1
  clear hs
  rw [zN_eq] at hs9
  obtain ⟨t1, n1⟩ := v1
  obtain ⟨t2, n2⟩ := v2
  simp only [Bool.and_eq_true] at hv
  obtain ⟨hv1, hv2, hv3, hv4, hv5⟩ := hv
  have hv5 : ev.2.1 < 64 := by simpa using hv5
  cases Nat.eq_of_beq_eq_true hv1
  cases Nat.eq_of_beq_eq_true hv2
  cases Nat.eq_of_beq_eq_true hv3
  cases Nat.eq_of_beq_eq_true hv4
  refine ⟨_, znx_eq hs9, fun hgo => ?_⟩
  intro ad ca tys H locs ls hR
  have h2 := hgo ad ca tys H locs ls hR
  have he : zxr X 0 &&& nI 63 = nI ev.2.1 := cx.2.2.2.2.2.2.2.1.2.1 hv5
  simp only [List.map_cons] at h2 ⊢
  rw [show zV (zxr X) ad (zxb X) (zxt X) (0, ev.2.1) = .int (nI ev.2.1) from rfl, ← he] at h2
  exact lv_iand cx.1 cx.2.1 hd h2
theorem nI_ln {n : Nat} (h1 : 2147483648 ≤ n) (h2 : n < 4294967296) : (nI n).toInt64 = lN (n + 18446744069414584320) := Int64.toInt_inj.mp (by
  rw [Int32.toInt_toInt64]
  simp only [nI, lN, Int32.toInt_ofNat', Int64.toInt_ofNat', Int32.size, Int64.size, Int.bmod_def]
  omega)
def zo_i2l : zSem := fun x M ev st k => match st with
  | (pc, L, stk, G, cu, su) => match stk with
    | v :: rest => cond (Nat.beq v.1 0 && Nat.blt v.2 4294967296) (cond (Nat.blt v.2 2147483648) (znx pc 1 L ((4, v.2) :: rest) G cu su k) (zN (v.2 + 18446744069414584320) fun n => znx pc 1 L ((4, n) :: rest) G cu su k)) none
    | [] => none
theorem zs_i2l : zSnd (fun _ _ => .i2l) 1 ztrue zo_i2l := by
  intro p l e R s m args below meth c Q M ev X n0 ad0 cx x pc L stk G cu su k r hd hf hs
  dsimp only [zo_i2l] at hs
  cases stk with
  | nil => cases hs
  | cons v rest =>
  obtain ⟨hv, hs⟩ := zc hs
  simp only [Bool.and_eq_true] at hv
  obtain ⟨hv1, hv2⟩ := hv
  have hv2 : v.2 < 4294967296 := by simpa using hv2
  cases hb : Nat.blt v.2 2147483648 with
  | true =>
    rw [hb, cond_true] at hs
    have hlt : v.2 < 2147483648 := by simpa using hb
    refine ⟨_, znx_eq hs, fun hgo => ?_⟩
    intro ad ca tys H locs ls hR
    have h2 := hgo ad ca tys H locs ls hR
    simp only [List.map_cons] at h2 ⊢
    rw [zV_0 hv1]
    exact lv_i2l cx.1 cx.2.1 hd (nI_l (by omega)) h2
  | false =>
    rw [hb, cond_false] at hs
    have hlt : ¬ v.2 < 2147483648 := fun h => by
      have : Nat.blt v.2 2147483648 = true := by simpa using h
      rw [hb] at this; cases this
    rw [zN_eq] at hs
    refine ⟨_, znx_eq hs, fun hgo => ?_⟩
    intro ad ca tys H locs ls hR
    have h2 := hgo ad ca tys H locs ls hR
    simp only [List.map_cons] at h2 ⊢
    rw [zV_0 hv1]
    exact lv_i2l cx.1 cx.2.1 hd (nI_ln (by omega) hv2) h2
def zo_i2c : zSem := fun x M ev st k => match st with
  | (pc, L, stk, G, cu, su) => match stk with
    | v :: rest => cond (Nat.beq v.1 1) (znx pc 1 L ((9, v.2) :: rest) G cu su k) (cond (Nat.beq v.1 0 && Nat.blt v.2 65536) (znx pc 1 L (v :: rest) G cu su k) none)
    | [] => none
theorem nI_c {n : Nat} (h : n < 65536) : ((nI n).toUInt32 % 65536).toInt32 = nI n := by
  apply Int32.toInt_inj.mp
  have h1 : (nI n).toUInt32.toNat = n := by
    simp [nI]; omega
  have h2 : ((nI n).toUInt32 % 65536) = (nI n).toUInt32 := by
    apply UInt32.toNat_inj.mp
    rw [UInt32.toNat_mod, h1]
    exact Nat.mod_eq_of_lt h
  rw [h2]
  simp
theorem zs_i2c : zSnd (fun _ _ => .i2c) 1 ztrue zo_i2c := by
  intro p l e R s m args below meth c Q M ev X n0 ad0 cx x pc L stk G cu su k r hd hf hs
  dsimp only [zo_i2c] at hs
  cases stk with
  | nil => cases hs
  | cons v rest =>
  obtain ⟨t, n⟩ := v
  dsimp only at hs
  cases hv : Nat.beq t 1 with
  | true =>
    rw [hv] at hs
    cases Nat.eq_of_beq_eq_true hv
    refine ⟨_, znx_eq hs, fun hgo => ?_⟩
    intro ad ca tys H locs ls hR
    exact lv_i2c cx.1 cx.2.1 hd rfl (hgo ad ca tys H locs ls hR)
  | false =>
    rw [hv] at hs
    obtain ⟨hv, hs⟩ := zc hs
    simp only [Bool.and_eq_true] at hv
    obtain ⟨hv1, hv2⟩ := hv
    cases Nat.eq_of_beq_eq_true hv1
    refine ⟨_, znx_eq hs, fun hgo => ?_⟩
    intro ad ca tys H locs ls hR
    exact lv_i2c cx.1 cx.2.1 hd (nI_c (by simpa using hv2)) (hgo ad ca tys H locs ls hR)
def zo_i2d : zSem := fun x M ev st k => match st with
  | (pc, L, stk, G, cu, su) => match stk with
    | v :: rest => cond (Nat.beq v.1 0) (znx pc 1 L ((5, v.2) :: rest) G cu su k) none
    | [] => none
theorem zs_i2d : zSnd (fun _ _ => .i2d) 1 ztrue zo_i2d := by
  intro p l e R s m args below meth c Q M ev X n0 ad0 cx x pc L stk G cu su k r hd hf hs
  dsimp only [zo_i2d] at hs
  cases stk with
  | nil => cases hs
  | cons v rest =>
  obtain ⟨hv, hs⟩ := zc hs
  refine ⟨_, znx_eq hs, fun hgo => ?_⟩
  intro ad ca tys H locs ls hR
  have h2 := hgo ad ca tys H locs ls hR
  simp only [List.map_cons] at h2 ⊢
  rw [zV_0 hv]
  exact lv_i2d cx.1 cx.2.1 hd h2
def zo_i2f : zSem := fun x M ev st k => match st with
  | (pc, L, stk, G, cu, su) => match stk with
    | v :: rest => cond (Nat.beq v.1 0) (znx pc 1 L ((7, v.2) :: rest) G cu su k) none
    | [] => none
theorem zs_i2f : zSnd (fun _ _ => .i2f) 1 ztrue zo_i2f := by
  intro p l e R s m args below meth c Q M ev X n0 ad0 cx x pc L stk G cu su k r hd hf hs
  dsimp only [zo_i2f] at hs
  cases stk with
  | nil => cases hs
  | cons v rest =>
  obtain ⟨hv, hs⟩ := zc hs
  refine ⟨_, znx_eq hs, fun hgo => ?_⟩
  intro ad ca tys H locs ls hR
  have h2 := hgo ad ca tys H locs ls hR
  simp only [List.map_cons] at h2 ⊢
  rw [zV_0 hv]
  exact lv_i2f cx.1 cx.2.1 hd h2
def zo_dup : zSem := fun x M ev st k => match st with
  | (pc, L, stk, G, cu, su) => match stk with
    | v :: rest => cond (Nat.beq (zcat v) 1) (znx pc 1 L (v :: v :: rest) G cu su k) none
    | [] => none
theorem zs_dup : zSnd (fun _ _ => .dup) 1 ztrue zo_dup := by
  intro p l e R s m args below meth c Q M ev X n0 ad0 cx x pc L stk G cu su k r hd hf hs
  dsimp only [zo_dup] at hs
  cases stk with
  | nil => cases hs
  | cons v rest =>
  obtain ⟨hv, hs⟩ := zc hs
  refine ⟨_, znx_eq hs, fun hgo => ?_⟩
  intro ad ca tys H locs ls hR
  exact lv_dup cx.1 cx.2.1 hd (by rw [zV_cat]; exact Nat.eq_of_beq_eq_true hv) (hgo ad ca tys H locs ls hR)
def zo_pop : zSem := fun x M ev st k => match st with
  | (pc, L, stk, G, cu, su) => match stk with
    | v :: rest => cond (Nat.beq (zcat v) 1) (znx pc 1 L rest G cu su k) none
    | [] => none
theorem zs_pop : zSnd (fun _ _ => .pop) 1 ztrue zo_pop := by
  intro p l e R s m args below meth c Q M ev X n0 ad0 cx x pc L stk G cu su k r hd hf hs
  dsimp only [zo_pop] at hs
  cases stk with
  | nil => cases hs
  | cons v rest =>
  obtain ⟨hv, hs⟩ := zc hs
  refine ⟨_, znx_eq hs, fun hgo => ?_⟩
  intro ad ca tys H locs ls hR
  exact lv_pop cx.1 cx.2.1 hd (by rw [zV_cat]; exact Nat.eq_of_beq_eq_true hv) (hgo ad ca tys H locs ls hR)
def zo_dup_x1 : zSem := fun x M ev st k => match st with
  | (pc, L, stk, G, cu, su) => match stk with
    | v1 :: rest1 => match rest1 with
      | v2 :: rest => cond (Nat.beq (zcat v1) 1 && Nat.beq (zcat v2) 1) (znx pc 1 L (v1 :: v2 :: v1 :: rest) G cu su k) none
      | [] => none
    | [] => none
theorem zs_dup_x1 : zSnd (fun _ _ => .dup_x1) 1 ztrue zo_dup_x1 := by
  intro p l e R s m args below meth c Q M ev X n0 ad0 cx x pc L stk G cu su k r hd hf hs
  dsimp only [zo_dup_x1] at hs
  cases stk with
  | nil => cases hs
  | cons v1 rest1 =>
  cases rest1 with
  | nil => cases hs
  | cons v2 rest =>
  obtain ⟨hv, hs⟩ := zc hs
  simp only [Bool.and_eq_true] at hv
  refine ⟨_, znx_eq hs, fun hgo => ?_⟩
  intro ad ca tys H locs ls hR
  exact lv_dup_x1 cx.1 cx.2.1 hd (by rw [zV_cat]; exact Nat.eq_of_beq_eq_true hv.1) (by rw [zV_cat]; exact Nat.eq_of_beq_eq_true hv.2) (hgo ad ca tys H locs ls hR)
def zo_iinc : zSem := fun x M ev st k => match st with
  | (pc, L, stk, G, cu, su) => match zlk (zx x 0) L with
    | some v => cond (Nat.beq v.1 0 && Nat.blt (zx x 0) (zm_L M)) (zN ((v.2 + zx x 2) % 4294967296) fun n => zfil (zkeep1 (zx x 0)) L fun L' => znx pc 3 ((zx x 0, (0, n)) :: L') stk G cu su k) none
    | none => none
theorem zs_iinc : zSnd (fun _ x => .iinc (zx x 0) ((zx x 1 : Int) - 32768)) 3 (fun _ x => decide (Int32.ofInt ((zx x 1 : Int) - 32768) = nI (zx x 2))) zo_iinc := by
  intro p l e R s m args below meth c Q M ev X n0 ad0 cx x pc L stk G cu su k r hd hf hs
  dsimp only [zo_iinc] at hs
  cases hk : zlk (zx x 0) L with
  | none => rw [hk] at hs; cases hs
  | some v =>
  rw [hk] at hs
  obtain ⟨hv, hs⟩ := zc hs
  rw [zN_eq, zfil_eq] at hs
  simp only [Bool.and_eq_true] at hv
  obtain ⟨hv, hn⟩ := hv
  have hn : zx x 0 < zm_L M := by simpa using hn
  refine ⟨_, znx_eq hs, fun hgo => ?_⟩
  intro ad ca tys H locs ls hR
  have hke := zkeep1_eq (X := X) (ad := ad) (zx x 0) (0, (v.2 + zx x 2) % 4294967296) L
  have hm : (zx x 0, zV (zxr X) ad (zxb X) (zxt X) v) ∈ L.map fun q => (q.1, zV (zxr X) ad (zxb X) (zxt X) q.2) := List.mem_map.mpr ⟨_, zlk_mem hk, rfl⟩
  obtain ⟨j, hj⟩ := List.getElem?_of_mem hm
  rw [zV_0 hv] at hj
  have he : nI v.2 + Int32.ofInt ((zx x 1 : Int) - 32768) = nI ((v.2 + zx x 2) % 4294967296) := by rw [of_decide_eq_true hf, nI_add, nI_mod]
  exact lv_iinc cx.1 cx.2.1 hd hR.1 hj he hn hke (fun ls' h' => hgo ad ca tys H locs ls' ⟨h', hR.2⟩)
def zo_goto : zSem := fun x M ev st k => match st with
  | (pc, L, stk, G, cu, su) => zN (zx x 0) fun t => k (t, L, stk, G, cu, su)
theorem zs_goto : zSnd (fun pc x => .goto ((zx x 0 : Int) - (pc : Int))) 3 ztrue zo_goto := by
  intro p l e R s m args below meth c Q M ev X n0 ad0 cx x pc L stk G cu su k r hd hf hs
  dsimp only [zo_goto] at hs
  rw [zN_eq] at hs
  refine ⟨_, hs, fun hgo => ?_⟩
  intro ad ca tys H locs ls hR
  exact lv_goto cx.1 cx.2.1 hd (by omega) (hgo ad ca tys H locs ls hR)
def zo_lcmp : zSem := fun x M ev st k => match st with
  | (pc, L, stk, G, cu, su) => match stk with
    | v2 :: rest1 => match rest1 with
      | v1 :: rest => cond (Nat.beq v1.1 4 && (Nat.beq v2.1 4 && Nat.beq v1.2 v2.2)) (znx pc 1 L ((0, 0) :: rest) G cu su k) none
      | [] => none
    | [] => none
theorem zs_lcmp : zSnd (fun _ _ => .lcmp) 1 ztrue zo_lcmp := by
  intro p l e R s m args below meth c Q M ev X n0 ad0 cx x pc L stk G cu su k r hd hf hs
  dsimp only [zo_lcmp] at hs
  cases stk with
  | nil => cases hs
  | cons v2 rest1 =>
  cases rest1 with
  | nil => cases hs
  | cons v1 rest =>
  have hs9 := (zc hs).2
  have hv := (zc hs).1
  clear hs
  obtain ⟨t1, n1⟩ := v1
  obtain ⟨t2, n2⟩ := v2
  simp only [Bool.and_eq_true] at hv
  obtain ⟨hv1, hv2, hv3⟩ := hv
  cases Nat.eq_of_beq_eq_true hv1
  cases Nat.eq_of_beq_eq_true hv2
  cases Nat.eq_of_beq_eq_true hv3
  refine ⟨_, znx_eq hs9, fun hgo => ?_⟩
  intro ad ca tys H locs ls hR
  have h2 := hgo ad ca tys H locs ls hR
  have he : lg_cmp (lN n1) (lN n1) = 0 := (lg_cmp_eq _ _).mpr rfl
  simp only [List.map_cons] at h2 ⊢
  rw [show zV (zxr X) ad (zxb X) (zxt X) (0, 0) = .int 0 from rfl, ← he] at h2
  exact W.lcmp cx.1 cx.2.1 hd h2
def zo_icmp_eq : zSem := fun x M ev st k => match st with
  | (pc, L, stk, G, cu, su) => match stk with
    | v2 :: rest1 => match rest1 with
      | v1 :: rest => zrg ev v1 fun a1 a2 => zrg ev v2 fun b1 b2 => zeq a1 a2 b1 b2 fun t => cond t (zN (zx x 0) fun t => k (t, L, rest, G, cu, su)) (znx pc 3 L rest G cu su k)
      | [] => none
    | [] => none
theorem zs_icmp_eq : zSnd (fun pc x => .if_icmp .eq ((zx x 0 : Int) - (pc : Int))) 3 ztrue zo_icmp_eq := by
  intro p l e R s m args below meth c Q M ev X n0 ad0 cx x pc L stk G cu su k r hd hf hs
  dsimp only [zo_icmp_eq] at hs
  cases stk with
  | nil => cases hs
  | cons v2 rest1 =>
  cases rest1 with
  | nil => cases hs
  | cons v1 rest =>
  obtain ⟨a1, a2, hs, hx1, hx2, hv1⟩ := zrg_ok cx.2.2.2.2.2.2.2.1 hs
  obtain ⟨b1, b2, hs, hy1, hy2, hv2⟩ := zrg_ok cx.2.2.2.2.2.2.2.1 hs
  obtain ⟨t, hs, hi⟩ := zeq_ok ⟨hx1, hx2⟩ ⟨hy1, hy2⟩ hs
  cases t with
  | true =>
    simp only [cond] at hs
    rw [zN_eq] at hs
    refine ⟨_, hs, fun hgo => ?_⟩
    intro ad ca tys H locs ls hR
    have H1 := hgo ad ca tys H locs ls hR
    simp only [List.map_cons] at H1 ⊢
    rw [zV_I hv1, zV_I hv2]
    refine lv_icmp_eq cx.1 cx.2.1 hd (tgt := zx x 0) (by omega) (fun _ => H1) (fun hh => absurd (hi.mpr rfl) hh)
  | false =>
    simp only [cond] at hs
    refine ⟨_, znx_eq hs, fun hgo => ?_⟩
    intro ad ca tys H locs ls hR
    have H1 := hgo ad ca tys H locs ls hR
    simp only [List.map_cons] at H1 ⊢
    rw [zV_I hv1, zV_I hv2]
    refine lv_icmp_eq cx.1 cx.2.1 hd (tgt := zx x 0) (by omega) (fun hh => absurd (hi.mp hh) (by simp)) (fun _ => H1)
def zo_if_eq : zSem := fun x M ev st k => match st with
  | (pc, L, stk, G, cu, su) => match stk with
    | v1 :: rest => zrg ev v1 fun a1 a2 => zeq a1 a2 2147483648 2147483648 fun t => cond t (zN (zx x 0) fun t => k (t, L, rest, G, cu, su)) (znx pc 3 L rest G cu su k)
    | [] => none
theorem zs_if_eq : zSnd (fun pc x => .ifCond .eq ((zx x 0 : Int) - (pc : Int))) 3 ztrue zo_if_eq := by
  intro p l e R s m args below meth c Q M ev X n0 ad0 cx x pc L stk G cu su k r hd hf hs
  dsimp only [zo_if_eq] at hs
  cases stk with
  | nil => cases hs
  | cons v1 rest =>
  have z0 : 2147483648 ≤ zbi (0 : Int32) ∧ zbi (0 : Int32) ≤ 2147483648 := by decide
  obtain ⟨a1, a2, hs, hx1, hx2, hv1⟩ := zrg_ok cx.2.2.2.2.2.2.2.1 hs
  obtain ⟨t, hs, hi⟩ := zeq_ok (y := (0 : Int32)) ⟨hx1, hx2⟩ z0 hs
  cases t with
  | true =>
    simp only [cond] at hs
    rw [zN_eq] at hs
    refine ⟨_, hs, fun hgo => ?_⟩
    intro ad ca tys H locs ls hR
    have H1 := hgo ad ca tys H locs ls hR
    simp only [List.map_cons] at H1 ⊢
    rw [zV_I hv1]
    refine lv_if_eq cx.1 cx.2.1 hd (tgt := zx x 0) (by omega) (fun _ => H1) (fun hh => absurd (hi.mpr rfl) hh)
  | false =>
    simp only [cond] at hs
    refine ⟨_, znx_eq hs, fun hgo => ?_⟩
    intro ad ca tys H locs ls hR
    have H1 := hgo ad ca tys H locs ls hR
    simp only [List.map_cons] at H1 ⊢
    rw [zV_I hv1]
    refine lv_if_eq cx.1 cx.2.1 hd (tgt := zx x 0) (by omega) (fun hh => absurd (hi.mp hh) (by simp)) (fun _ => H1)
def zo_icmp_ne : zSem := fun x M ev st k => match st with
  | (pc, L, stk, G, cu, su) => match stk with
    | v2 :: rest1 => match rest1 with
      | v1 :: rest => zrg ev v1 fun a1 a2 => zrg ev v2 fun b1 b2 => zeq a1 a2 b1 b2 fun t => cond t (znx pc 3 L rest G cu su k) (zN (zx x 0) fun t => k (t, L, rest, G, cu, su))
      | [] => none
    | [] => none
theorem zs_icmp_ne : zSnd (fun pc x => .if_icmp .ne ((zx x 0 : Int) - (pc : Int))) 3 ztrue zo_icmp_ne := by
  intro p l e R s m args below meth c Q M ev X n0 ad0 cx x pc L stk G cu su k r hd hf hs
  dsimp only [zo_icmp_ne] at hs
  cases stk with
  | nil => cases hs
  | cons v2 rest1 =>
  cases rest1 with
  | nil => cases hs
  | cons v1 rest =>
  obtain ⟨a1, a2, hs, hx1, hx2, hv1⟩ := zrg_ok cx.2.2.2.2.2.2.2.1 hs
  obtain ⟨b1, b2, hs, hy1, hy2, hv2⟩ := zrg_ok cx.2.2.2.2.2.2.2.1 hs
  obtain ⟨t, hs, hi⟩ := zeq_ok ⟨hx1, hx2⟩ ⟨hy1, hy2⟩ hs
  cases t with
  | true =>
    simp only [cond] at hs
    refine ⟨_, znx_eq hs, fun hgo => ?_⟩
    intro ad ca tys H locs ls hR
    have H1 := hgo ad ca tys H locs ls hR
    simp only [List.map_cons] at H1 ⊢
    rw [zV_I hv1, zV_I hv2]
    refine lv_icmp_ne cx.1 cx.2.1 hd (tgt := zx x 0) (by omega) (fun hh => absurd (hi.mpr rfl) hh) (fun _ => H1)
  | false =>
    simp only [cond] at hs
    rw [zN_eq] at hs
    refine ⟨_, hs, fun hgo => ?_⟩
    intro ad ca tys H locs ls hR
    have H1 := hgo ad ca tys H locs ls hR
    simp only [List.map_cons] at H1 ⊢
    rw [zV_I hv1, zV_I hv2]
    refine lv_icmp_ne cx.1 cx.2.1 hd (tgt := zx x 0) (by omega) (fun _ => H1) (fun hh => absurd (by simpa using hh) (fun z => absurd (hi.mp z) (by simp)))
def zo_if_ne : zSem := fun x M ev st k => match st with
  | (pc, L, stk, G, cu, su) => match stk with
    | v1 :: rest => zrg ev v1 fun a1 a2 => zeq a1 a2 2147483648 2147483648 fun t => cond t (znx pc 3 L rest G cu su k) (zN (zx x 0) fun t => k (t, L, rest, G, cu, su))
    | [] => none
theorem zs_if_ne : zSnd (fun pc x => .ifCond .ne ((zx x 0 : Int) - (pc : Int))) 3 ztrue zo_if_ne := by
  intro p l e R s m args below meth c Q M ev X n0 ad0 cx x pc L stk G cu su k r hd hf hs
  dsimp only [zo_if_ne] at hs
  cases stk with
  | nil => cases hs
  | cons v1 rest =>
  have z0 : 2147483648 ≤ zbi (0 : Int32) ∧ zbi (0 : Int32) ≤ 2147483648 := by decide
  obtain ⟨a1, a2, hs, hx1, hx2, hv1⟩ := zrg_ok cx.2.2.2.2.2.2.2.1 hs
  obtain ⟨t, hs, hi⟩ := zeq_ok (y := (0 : Int32)) ⟨hx1, hx2⟩ z0 hs
  cases t with
  | true =>
    simp only [cond] at hs
    refine ⟨_, znx_eq hs, fun hgo => ?_⟩
    intro ad ca tys H locs ls hR
    have H1 := hgo ad ca tys H locs ls hR
    simp only [List.map_cons] at H1 ⊢
    rw [zV_I hv1]
    refine lv_if_ne cx.1 cx.2.1 hd (tgt := zx x 0) (by omega) (fun hh => absurd (hi.mpr rfl) hh) (fun _ => H1)
  | false =>
    simp only [cond] at hs
    rw [zN_eq] at hs
    refine ⟨_, hs, fun hgo => ?_⟩
    intro ad ca tys H locs ls hR
    have H1 := hgo ad ca tys H locs ls hR
    simp only [List.map_cons] at H1 ⊢
    rw [zV_I hv1]
    refine lv_if_ne cx.1 cx.2.1 hd (tgt := zx x 0) (by omega) (fun _ => H1) (fun hh => absurd (by simpa using hh) (fun z => absurd (hi.mp z) (by simp)))
def zo_icmp_lt : zSem := fun x M ev st k => match st with
  | (pc, L, stk, G, cu, su) => match stk with
    | v2 :: rest1 => match rest1 with
      | v1 :: rest => zrg ev v1 fun a1 a2 => zrg ev v2 fun b1 b2 => zlt a1 a2 b1 b2 fun t => cond t (zN (zx x 0) fun t => k (t, L, rest, G, cu, su)) (znx pc 3 L rest G cu su k)
      | [] => none
    | [] => none
theorem zs_icmp_lt : zSnd (fun pc x => .if_icmp .lt ((zx x 0 : Int) - (pc : Int))) 3 ztrue zo_icmp_lt := by
  intro p l e R s m args below meth c Q M ev X n0 ad0 cx x pc L stk G cu su k r hd hf hs
  dsimp only [zo_icmp_lt] at hs
  cases stk with
  | nil => cases hs
  | cons v2 rest1 =>
  cases rest1 with
  | nil => cases hs
  | cons v1 rest =>
  obtain ⟨a1, a2, hs, hx1, hx2, hv1⟩ := zrg_ok cx.2.2.2.2.2.2.2.1 hs
  obtain ⟨b1, b2, hs, hy1, hy2, hv2⟩ := zrg_ok cx.2.2.2.2.2.2.2.1 hs
  obtain ⟨t, hs, hi⟩ := zlt_ok ⟨hx1, hx2⟩ ⟨hy1, hy2⟩ hs
  cases t with
  | true =>
    simp only [cond] at hs
    rw [zN_eq] at hs
    refine ⟨_, hs, fun hgo => ?_⟩
    intro ad ca tys H locs ls hR
    have H1 := hgo ad ca tys H locs ls hR
    simp only [List.map_cons] at H1 ⊢
    rw [zV_I hv1, zV_I hv2]
    refine lv_icmp_lt cx.1 cx.2.1 hd (tgt := zx x 0) (by omega) (fun _ => H1) (fun hh => absurd (hi.mpr rfl) hh)
  | false =>
    simp only [cond] at hs
    refine ⟨_, znx_eq hs, fun hgo => ?_⟩
    intro ad ca tys H locs ls hR
    have H1 := hgo ad ca tys H locs ls hR
    simp only [List.map_cons] at H1 ⊢
    rw [zV_I hv1, zV_I hv2]
    refine lv_icmp_lt cx.1 cx.2.1 hd (tgt := zx x 0) (by omega) (fun hh => absurd (hi.mp hh) (by simp)) (fun _ => H1)
def zo_if_lt : zSem := fun x M ev st k => match st with
  | (pc, L, stk, G, cu, su) => match stk with
    | v1 :: rest => zrg ev v1 fun a1 a2 => zlt a1 a2 2147483648 2147483648 fun t => cond t (zN (zx x 0) fun t => k (t, L, rest, G, cu, su)) (znx pc 3 L rest G cu su k)
    | [] => none
theorem zs_if_lt : zSnd (fun pc x => .ifCond .lt ((zx x 0 : Int) - (pc : Int))) 3 ztrue zo_if_lt := by
  intro p l e R s m args below meth c Q M ev X n0 ad0 cx x pc L stk G cu su k r hd hf hs
  dsimp only [zo_if_lt] at hs
  cases stk with
  | nil => cases hs
  | cons v1 rest =>
  have z0 : 2147483648 ≤ zbi (0 : Int32) ∧ zbi (0 : Int32) ≤ 2147483648 := by decide
  obtain ⟨a1, a2, hs, hx1, hx2, hv1⟩ := zrg_ok cx.2.2.2.2.2.2.2.1 hs
  obtain ⟨t, hs, hi⟩ := zlt_ok (y := (0 : Int32)) ⟨hx1, hx2⟩ z0 hs
  cases t with
  | true =>
    simp only [cond] at hs
    rw [zN_eq] at hs
    refine ⟨_, hs, fun hgo => ?_⟩
    intro ad ca tys H locs ls hR
    have H1 := hgo ad ca tys H locs ls hR
    simp only [List.map_cons] at H1 ⊢
    rw [zV_I hv1]
    refine lv_if_lt cx.1 cx.2.1 hd (tgt := zx x 0) (by omega) (fun _ => H1) (fun hh => absurd (hi.mpr rfl) hh)
  | false =>
    simp only [cond] at hs
    refine ⟨_, znx_eq hs, fun hgo => ?_⟩
    intro ad ca tys H locs ls hR
    have H1 := hgo ad ca tys H locs ls hR
    simp only [List.map_cons] at H1 ⊢
    rw [zV_I hv1]
    refine lv_if_lt cx.1 cx.2.1 hd (tgt := zx x 0) (by omega) (fun hh => absurd (hi.mp hh) (by simp)) (fun _ => H1)
def zo_icmp_ge : zSem := fun x M ev st k => match st with
  | (pc, L, stk, G, cu, su) => match stk with
    | v2 :: rest1 => match rest1 with
      | v1 :: rest => zrg ev v1 fun a1 a2 => zrg ev v2 fun b1 b2 => zlt a1 a2 b1 b2 fun t => cond t (znx pc 3 L rest G cu su k) (zN (zx x 0) fun t => k (t, L, rest, G, cu, su))
      | [] => none
    | [] => none
theorem zs_icmp_ge : zSnd (fun pc x => .if_icmp .ge ((zx x 0 : Int) - (pc : Int))) 3 ztrue zo_icmp_ge := by
  intro p l e R s m args below meth c Q M ev X n0 ad0 cx x pc L stk G cu su k r hd hf hs
  dsimp only [zo_icmp_ge] at hs
  cases stk with
  | nil => cases hs
  | cons v2 rest1 =>
  cases rest1 with
  | nil => cases hs
  | cons v1 rest =>
  obtain ⟨a1, a2, hs, hx1, hx2, hv1⟩ := zrg_ok cx.2.2.2.2.2.2.2.1 hs
  obtain ⟨b1, b2, hs, hy1, hy2, hv2⟩ := zrg_ok cx.2.2.2.2.2.2.2.1 hs
  obtain ⟨t, hs, hi⟩ := zlt_ok ⟨hx1, hx2⟩ ⟨hy1, hy2⟩ hs
  cases t with
  | true =>
    simp only [cond] at hs
    refine ⟨_, znx_eq hs, fun hgo => ?_⟩
    intro ad ca tys H locs ls hR
    have H1 := hgo ad ca tys H locs ls hR
    simp only [List.map_cons] at H1 ⊢
    rw [zV_I hv1, zV_I hv2]
    refine lv_icmp_ge cx.1 cx.2.1 hd (tgt := zx x 0) (by omega) (fun hh => absurd (hi.mpr rfl) (Int32.not_lt.mpr hh)) (fun _ => H1)
  | false =>
    simp only [cond] at hs
    rw [zN_eq] at hs
    refine ⟨_, hs, fun hgo => ?_⟩
    intro ad ca tys H locs ls hR
    have H1 := hgo ad ca tys H locs ls hR
    simp only [List.map_cons] at H1 ⊢
    rw [zV_I hv1, zV_I hv2]
    refine lv_icmp_ge cx.1 cx.2.1 hd (tgt := zx x 0) (by omega) (fun _ => H1) (fun hh => absurd (hi.mp (Int32.not_le.mp hh)) (by simp))
def zo_if_ge : zSem := fun x M ev st k => match st with
  | (pc, L, stk, G, cu, su) => match stk with
    | v1 :: rest => zrg ev v1 fun a1 a2 => zlt a1 a2 2147483648 2147483648 fun t => cond t (znx pc 3 L rest G cu su k) (zN (zx x 0) fun t => k (t, L, rest, G, cu, su))
    | [] => none
theorem zs_if_ge : zSnd (fun pc x => .ifCond .ge ((zx x 0 : Int) - (pc : Int))) 3 ztrue zo_if_ge := by
  intro p l e R s m args below meth c Q M ev X n0 ad0 cx x pc L stk G cu su k r hd hf hs
  dsimp only [zo_if_ge] at hs
  cases stk with
  | nil => cases hs
  | cons v1 rest =>
  have z0 : 2147483648 ≤ zbi (0 : Int32) ∧ zbi (0 : Int32) ≤ 2147483648 := by decide
  obtain ⟨a1, a2, hs, hx1, hx2, hv1⟩ := zrg_ok cx.2.2.2.2.2.2.2.1 hs
  obtain ⟨t, hs, hi⟩ := zlt_ok (y := (0 : Int32)) ⟨hx1, hx2⟩ z0 hs
  cases t with
  | true =>
    simp only [cond] at hs
    refine ⟨_, znx_eq hs, fun hgo => ?_⟩
    intro ad ca tys H locs ls hR
    have H1 := hgo ad ca tys H locs ls hR
    simp only [List.map_cons] at H1 ⊢
    rw [zV_I hv1]
    refine lv_if_ge cx.1 cx.2.1 hd (tgt := zx x 0) (by omega) (fun hh => absurd (hi.mpr rfl) (Int32.not_lt.mpr hh)) (fun _ => H1)
  | false =>
    simp only [cond] at hs
    rw [zN_eq] at hs
    refine ⟨_, hs, fun hgo => ?_⟩
    intro ad ca tys H locs ls hR
    have H1 := hgo ad ca tys H locs ls hR
    simp only [List.map_cons] at H1 ⊢
    rw [zV_I hv1]
    refine lv_if_ge cx.1 cx.2.1 hd (tgt := zx x 0) (by omega) (fun _ => H1) (fun hh => absurd (hi.mp (Int32.not_le.mp hh)) (by simp))
def zo_icmp_gt : zSem := fun x M ev st k => match st with
  | (pc, L, stk, G, cu, su) => match stk with
    | v2 :: rest1 => match rest1 with
      | v1 :: rest => zrg ev v1 fun a1 a2 => zrg ev v2 fun b1 b2 => zlt b1 b2 a1 a2 fun t => cond t (zN (zx x 0) fun t => k (t, L, rest, G, cu, su)) (znx pc 3 L rest G cu su k)
      | [] => none
    | [] => none
theorem zs_icmp_gt : zSnd (fun pc x => .if_icmp .gt ((zx x 0 : Int) - (pc : Int))) 3 ztrue zo_icmp_gt := by
  intro p l e R s m args below meth c Q M ev X n0 ad0 cx x pc L stk G cu su k r hd hf hs
  dsimp only [zo_icmp_gt] at hs
  cases stk with
  | nil => cases hs
  | cons v2 rest1 =>
  cases rest1 with
  | nil => cases hs
  | cons v1 rest =>
  obtain ⟨a1, a2, hs, hx1, hx2, hv1⟩ := zrg_ok cx.2.2.2.2.2.2.2.1 hs
  obtain ⟨b1, b2, hs, hy1, hy2, hv2⟩ := zrg_ok cx.2.2.2.2.2.2.2.1 hs
  obtain ⟨t, hs, hi⟩ := zlt_ok ⟨hy1, hy2⟩ ⟨hx1, hx2⟩ hs
  cases t with
  | true =>
    simp only [cond] at hs
    rw [zN_eq] at hs
    refine ⟨_, hs, fun hgo => ?_⟩
    intro ad ca tys H locs ls hR
    have H1 := hgo ad ca tys H locs ls hR
    simp only [List.map_cons] at H1 ⊢
    rw [zV_I hv1, zV_I hv2]
    refine lv_icmp_gt cx.1 cx.2.1 hd (tgt := zx x 0) (by omega) (fun _ => H1) (fun hh => absurd (hi.mpr rfl) hh)
  | false =>
    simp only [cond] at hs
    refine ⟨_, znx_eq hs, fun hgo => ?_⟩
    intro ad ca tys H locs ls hR
    have H1 := hgo ad ca tys H locs ls hR
    simp only [List.map_cons] at H1 ⊢
    rw [zV_I hv1, zV_I hv2]
    refine lv_icmp_gt cx.1 cx.2.1 hd (tgt := zx x 0) (by omega) (fun hh => absurd (hi.mp hh) (by simp)) (fun _ => H1)
def zo_if_gt : zSem := fun x M ev st k => match st with
  | (pc, L, stk, G, cu, su) => match stk with
    | v1 :: rest => zrg ev v1 fun a1 a2 => zlt 2147483648 2147483648 a1 a2 fun t => cond t (zN (zx x 0) fun t => k (t, L, rest, G, cu, su)) (znx pc 3 L rest G cu su k)
    | [] => none
theorem zs_if_gt : zSnd (fun pc x => .ifCond .gt ((zx x 0 : Int) - (pc : Int))) 3 ztrue zo_if_gt := by
  intro p l e R s m args below meth c Q M ev X n0 ad0 cx x pc L stk G cu su k r hd hf hs
  dsimp only [zo_if_gt] at hs
  cases stk with
  | nil => cases hs
  | cons v1 rest =>
  have z0 : 2147483648 ≤ zbi (0 : Int32) ∧ zbi (0 : Int32) ≤ 2147483648 := by decide
  obtain ⟨a1, a2, hs, hx1, hx2, hv1⟩ := zrg_ok cx.2.2.2.2.2.2.2.1 hs
  obtain ⟨t, hs, hi⟩ := zlt_ok (x := (0 : Int32)) z0 ⟨hx1, hx2⟩ hs
  cases t with
  | true =>
    simp only [cond] at hs
    rw [zN_eq] at hs
    refine ⟨_, hs, fun hgo => ?_⟩
    intro ad ca tys H locs ls hR
    have H1 := hgo ad ca tys H locs ls hR
    simp only [List.map_cons] at H1 ⊢
    rw [zV_I hv1]
    refine lv_if_gt cx.1 cx.2.1 hd (tgt := zx x 0) (by omega) (fun _ => H1) (fun hh => absurd (hi.mpr rfl) hh)
  | false =>
    simp only [cond] at hs
    refine ⟨_, znx_eq hs, fun hgo => ?_⟩
    intro ad ca tys H locs ls hR
    have H1 := hgo ad ca tys H locs ls hR
    simp only [List.map_cons] at H1 ⊢
    rw [zV_I hv1]
    refine lv_if_gt cx.1 cx.2.1 hd (tgt := zx x 0) (by omega) (fun hh => absurd (hi.mp hh) (by simp)) (fun _ => H1)
def zo_icmp_le : zSem := fun x M ev st k => match st with
  | (pc, L, stk, G, cu, su) => match stk with
    | v2 :: rest1 => match rest1 with
      | v1 :: rest => zrg ev v1 fun a1 a2 => zrg ev v2 fun b1 b2 => zlt b1 b2 a1 a2 fun t => cond t (znx pc 3 L rest G cu su k) (zN (zx x 0) fun t => k (t, L, rest, G, cu, su))
      | [] => none
    | [] => none
theorem zs_icmp_le : zSnd (fun pc x => .if_icmp .le ((zx x 0 : Int) - (pc : Int))) 3 ztrue zo_icmp_le := by
  intro p l e R s m args below meth c Q M ev X n0 ad0 cx x pc L stk G cu su k r hd hf hs
  dsimp only [zo_icmp_le] at hs
  cases stk with
  | nil => cases hs
  | cons v2 rest1 =>
  cases rest1 with
  | nil => cases hs
  | cons v1 rest =>
  obtain ⟨a1, a2, hs, hx1, hx2, hv1⟩ := zrg_ok cx.2.2.2.2.2.2.2.1 hs
  obtain ⟨b1, b2, hs, hy1, hy2, hv2⟩ := zrg_ok cx.2.2.2.2.2.2.2.1 hs
  obtain ⟨t, hs, hi⟩ := zlt_ok ⟨hy1, hy2⟩ ⟨hx1, hx2⟩ hs
  cases t with
  | true =>
    simp only [cond] at hs
    refine ⟨_, znx_eq hs, fun hgo => ?_⟩
    intro ad ca tys H locs ls hR
    have H1 := hgo ad ca tys H locs ls hR
    simp only [List.map_cons] at H1 ⊢
    rw [zV_I hv1, zV_I hv2]
    refine lv_icmp_le cx.1 cx.2.1 hd (tgt := zx x 0) (by omega) (fun hh => absurd (hi.mpr rfl) (Int32.not_lt.mpr hh)) (fun _ => H1)
  | false =>
    simp only [cond] at hs
    rw [zN_eq] at hs
    refine ⟨_, hs, fun hgo => ?_⟩
    intro ad ca tys H locs ls hR
    have H1 := hgo ad ca tys H locs ls hR
    simp only [List.map_cons] at H1 ⊢
    rw [zV_I hv1, zV_I hv2]
    refine lv_icmp_le cx.1 cx.2.1 hd (tgt := zx x 0) (by omega) (fun _ => H1) (fun hh => absurd (hi.mp (Int32.not_le.mp hh)) (by simp))
def zo_if_le : zSem := fun x M ev st k => match st with
  | (pc, L, stk, G, cu, su) => match stk with
    | v1 :: rest => zrg ev v1 fun a1 a2 => zlt 2147483648 2147483648 a1 a2 fun t => cond t (znx pc 3 L rest G cu su k) (zN (zx x 0) fun t => k (t, L, rest, G, cu, su))
    | [] => none
theorem zs_if_le : zSnd (fun pc x => .ifCond .le ((zx x 0 : Int) - (pc : Int))) 3 ztrue zo_if_le := by
  intro p l e R s m args below meth c Q M ev X n0 ad0 cx x pc L stk G cu su k r hd hf hs
  dsimp only [zo_if_le] at hs
  cases stk with
  | nil => cases hs
  | cons v1 rest =>
  have z0 : 2147483648 ≤ zbi (0 : Int32) ∧ zbi (0 : Int32) ≤ 2147483648 := by decide
  obtain ⟨a1, a2, hs, hx1, hx2, hv1⟩ := zrg_ok cx.2.2.2.2.2.2.2.1 hs
  obtain ⟨t, hs, hi⟩ := zlt_ok (x := (0 : Int32)) z0 ⟨hx1, hx2⟩ hs
  cases t with
  | true =>
    simp only [cond] at hs
    refine ⟨_, znx_eq hs, fun hgo => ?_⟩
    intro ad ca tys H locs ls hR
    have H1 := hgo ad ca tys H locs ls hR
    simp only [List.map_cons] at H1 ⊢
    rw [zV_I hv1]
    refine lv_if_le cx.1 cx.2.1 hd (tgt := zx x 0) (by omega) (fun hh => absurd (hi.mpr rfl) (Int32.not_lt.mpr hh)) (fun _ => H1)
  | false =>
    simp only [cond] at hs
    rw [zN_eq] at hs
    refine ⟨_, hs, fun hgo => ?_⟩
    intro ad ca tys H locs ls hR
    have H1 := hgo ad ca tys H locs ls hR
    simp only [List.map_cons] at H1 ⊢
    rw [zV_I hv1]
    refine lv_if_le cx.1 cx.2.1 hd (tgt := zx x 0) (by omega) (fun _ => H1) (fun hh => absurd (hi.mp (Int32.not_le.mp hh)) (by simp))
def zo_ifnull : zSem := fun x M ev st k => match st with
  | (pc, L, stk, G, cu, su) => match stk with
    | v :: rest => cond (Nat.beq v.1 2) (zN (zx x 0) fun t => k (t, L, rest, G, cu, su)) (cond (Nat.beq v.1 3) (znx pc 3 L rest G cu su k) none)
    | [] => none
theorem zs_ifnull : zSnd (fun pc x => .ifnull ((zx x 0 : Int) - (pc : Int))) 3 ztrue zo_ifnull := by
  intro p l e R s m args below meth c Q M ev X n0 ad0 cx x pc L stk G cu su k r hd hf hs
  dsimp only [zo_ifnull] at hs
  cases stk with
  | nil => cases hs
  | cons v rest =>
  dsimp only at hs
  cases hv : Nat.beq v.1 2 with
  | true =>
    rw [hv] at hs
    simp only [cond, zN_eq] at hs
    refine ⟨_, hs, fun hgo => ?_⟩
    intro ad ca tys H locs ls hR
    have H1 := hgo ad ca tys H locs ls hR
    simp only [List.map_cons] at H1 ⊢
    rw [zV_2 hv]
    exact lv_ifnullN cx.1 cx.2.1 hd (tgt := zx x 0) (by omega) H1
  | false =>
    rw [hv] at hs
    obtain ⟨hv, hs⟩ := zc hs
    refine ⟨_, znx_eq hs, fun hgo => ?_⟩
    intro ad ca tys H locs ls hR
    have H1 := hgo ad ca tys H locs ls hR
    simp only [List.map_cons] at H1 ⊢
    rw [zV_3 hv]
    exact lv_ifnull cx.1 cx.2.1 hd H1
def zo_ifnonnull : zSem := fun x M ev st k => match st with
  | (pc, L, stk, G, cu, su) => match stk with
    | v :: rest => cond (Nat.beq v.1 3) (zN (zx x 0) fun t => k (t, L, rest, G, cu, su)) (cond (Nat.beq v.1 2) (znx pc 3 L rest G cu su k) none)
    | [] => none
theorem zs_ifnonnull : zSnd (fun pc x => .ifnonnull ((zx x 0 : Int) - (pc : Int))) 3 ztrue zo_ifnonnull := by
  intro p l e R s m args below meth c Q M ev X n0 ad0 cx x pc L stk G cu su k r hd hf hs
  dsimp only [zo_ifnonnull] at hs
  cases stk with
  | nil => cases hs
  | cons v rest =>
  dsimp only at hs
  cases hv : Nat.beq v.1 3 with
  | true =>
    rw [hv] at hs
    simp only [cond, zN_eq] at hs
    refine ⟨_, hs, fun hgo => ?_⟩
    intro ad ca tys H locs ls hR
    have H1 := hgo ad ca tys H locs ls hR
    simp only [List.map_cons] at H1 ⊢
    rw [zV_3 hv]
    exact lv_ifnonnull cx.1 cx.2.1 hd (tgt := zx x 0) (by omega) H1
  | false =>
    rw [hv] at hs
    obtain ⟨hv, hs⟩ := zc hs
    refine ⟨_, znx_eq hs, fun hgo => ?_⟩
    intro ad ca tys H locs ls hR
    have H1 := hgo ad ca tys H locs ls hR
    simp only [List.map_cons] at H1 ⊢
    rw [zV_2 hv]
    exact lv_ifnonnullN cx.1 cx.2.1 hd H1
def zo_acmp_eq : zSem := fun x M ev st k => match st with
  | (pc, L, stk, G, cu, su) => match stk with
    | v2 :: rest1 => match rest1 with
      | v1 :: rest => cond (Nat.beq v1.1 10 && Nat.beq v2.1 10) (zN (zx x 0) fun t => k (t, L, rest, G, cu, su)) none
      | [] => none
    | [] => none
theorem zs_acmp_eq : zSnd (fun pc x => .if_acmp .eq ((zx x 0 : Int) - (pc : Int))) 3 ztrue zo_acmp_eq := by
  intro p l e R s m args below meth c Q M ev X n0 ad0 cx x pc L stk G cu su k r hd hf hs
  dsimp only [zo_acmp_eq] at hs
  cases stk with
  | nil => cases hs
  | cons v2 rest1 =>
  cases rest1 with
  | nil => cases hs
  | cons v1 rest =>
  obtain ⟨hv, hs⟩ := zc hs
  rw [zN_eq] at hs
  simp only [Bool.and_eq_true] at hv
  refine ⟨_, hs, fun hgo => ?_⟩
  intro ad ca tys H locs ls hR
  have H1 := hgo ad ca tys H locs ls hR
  simp only [List.map_cons] at H1 ⊢
  rw [zV_10 hv.1, zV_10 hv.2]
  exact lv_acmp_eq (rx := some (zxt X)) (ry := some (zxt X)) cx.1 cx.2.1 hd (tgt := zx x 0) (by omega) (fun _ => H1) (fun hh => absurd rfl hh)
