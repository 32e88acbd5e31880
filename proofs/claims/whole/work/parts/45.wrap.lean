def D_W_release (f : Nat) (l1 : Int32) (s : lx_S) : Option (Int32 × lx_S) := oc 0 (some 2) s.1 fun p => ob (D_H_release f p l1 s.1) fun r c => wo_i r c s.2
theorem E_W_release {G : bm_G} (hfl : G.1.flags = pinnedFlags ++ [noTraceFlag]) {f : Nat} {l1 : Int32} {s sz : lx_S} {r : Int32} {Q : Option Value → lx_S → Prop} (h : D_W_release f l1 s = some (r, sz)) (hq : Q (some (.int r)) sz) : lx_TW G me_W_release hh_W_release [.ref 2, .int l1, .ref 95] s Q := by
  refine lx_metW (by decide) (List.forall_mem_cons.mpr ⟨rfl, (List.forall_mem_cons.mpr ⟨rfl, (List.forall_mem_cons.mpr ⟨rfl, (fun _ q => nomatch q)⟩)⟩)⟩) (Nat.le_of_ble_eq_true rfl) ?_
  unfold D_W_release at h
  obtain ⟨p, ep, hp, h⟩ := oc_inv h
  cases ep
  obtain ⟨r0, c2, e0, h⟩ := ob_inv h
  refine lx_aload_n d_W_release_0 rfl ?_
  refine lx_iconst (v := nI 0) d_W_release_1 (by decide) ?_
  refine lx_aload_n d_W_release_2 rfl ?_
  refine lx_iload_n d_W_release_3 rfl ?_
  refine lx_callT (av := [.int l1]) (r := xr_i r0) c_W_release_4 x_W_release_4 w_W_release_4 rfl (Nat.le_of_ble_eq_true rfl) (by decide) hp (fun _ q => E_H_release hfl e0 q) (fun v ev => ?_) (fun x ex => ?_)
  · cases r0 with
    | inl x => cases ev
    | inr v0 =>
      cases ev
      cases h
      refine lx_i2l d_W_release_7 ?_
      refine lx_last d_W_release_8 ?_
      refine lx_goto (tgt := 18) d_W_release_9 (by decide) ?_
      refine lx_iconst (v := nI 0) d_W_release_18 (by decide) ?_
      exact lx_iret d_W_release_19 rfl ⟨_, rfl, hq⟩
  · cases r0 with
    | inr v0 => cases ex
    | inl x0 =>
      cases ex
      have h2 : (if cH c2 x = some (12, 0) then some (nI 1, (c2, s.2)) else if cH c2 x = some (13, 0) then some (nI 2, (c2, s.2)) else none) = some (r, sz) := h
      by_cases q12 : cH c2 x = some (12, 0)
      · rw [if_pos q12] at h2
        cases h2
        refine Or.inl ⟨q12, ?_⟩
        refine lx_astore_n d_W_release_12 (by decide) ?_
        refine lx_iconst (v := nI 1) d_W_release_13 (by decide) ?_
        exact lx_iret d_W_release_14 rfl ⟨_, rfl, hq⟩
      · rw [if_neg q12] at h2
        by_cases q13 : cH c2 x = some (13, 0)
        · rw [if_pos q13] at h2
          cases h2
          refine Or.inr ⟨q13, ?_⟩
          refine lx_astore_n d_W_release_15 (by decide) ?_
          refine lx_iconst (v := nI 2) d_W_release_16 (by decide) ?_
          exact lx_iret d_W_release_17 rfl ⟨_, rfl, hq⟩
        · rw [if_neg q13] at h2
          cases h2
def D_W_batch (f : Nat) (l1 l2 : Int32) (s : lx_S) : Option (Int32 × lx_S) := oc 0 (some 2) s.1 fun p => ob (D_H_batch f p l1 l2 s.1) fun r c => wo_i r c s.2
theorem E_W_batch {G : bm_G} (hfl : G.1.flags = pinnedFlags ++ [noTraceFlag]) {f : Nat} {l1 l2 : Int32} {s sz : lx_S} {r : Int32} {Q : Option Value → lx_S → Prop} (h : D_W_batch f l1 l2 s = some (r, sz)) (hq : Q (some (.int r)) sz) : lx_TW G me_W_batch hh_W_batch [.ref 2, .int l1, .int l2, .ref 95] s Q := by
  refine lx_metW (by decide) (List.forall_mem_cons.mpr ⟨rfl, (List.forall_mem_cons.mpr ⟨rfl, (List.forall_mem_cons.mpr ⟨rfl, (List.forall_mem_cons.mpr ⟨rfl, (fun _ q => nomatch q)⟩)⟩)⟩)⟩) (Nat.le_of_ble_eq_true rfl) ?_
  unfold D_W_batch at h
  obtain ⟨p, ep, hp, h⟩ := oc_inv h
  cases ep
  obtain ⟨r0, c2, e0, h⟩ := ob_inv h
  refine lx_aload_n d_W_batch_0 rfl ?_
  refine lx_iconst (v := nI 0) d_W_batch_1 (by decide) ?_
  refine lx_aload_n d_W_batch_2 rfl ?_
  refine lx_iload_n d_W_batch_3 rfl ?_
  refine lx_iload_n d_W_batch_4 rfl ?_
  refine lx_callT (av := [.int l1, .int l2]) (r := xr_i r0) c_W_batch_5 x_W_batch_5 w_W_batch_5 rfl (Nat.le_of_ble_eq_true rfl) (by decide) hp (fun _ q => E_H_batch hfl e0 q) (fun v ev => ?_) (fun x ex => ?_)
  · cases r0 with
    | inl x => cases ev
    | inr v0 =>
      cases ev
      cases h
      refine lx_i2l d_W_batch_8 ?_
      refine lx_last d_W_batch_9 ?_
      refine lx_goto (tgt := 21) d_W_batch_10 (by decide) ?_
      refine lx_iconst (v := nI 0) d_W_batch_21 (by decide) ?_
      exact lx_iret d_W_batch_22 rfl ⟨_, rfl, hq⟩
  · cases r0 with
    | inr v0 => cases ex
    | inl x0 =>
      cases ex
      have h2 : (if cH c2 x = some (12, 0) then some (nI 1, (c2, s.2)) else if cH c2 x = some (13, 0) then some (nI 2, (c2, s.2)) else none) = some (r, sz) := h
      by_cases q12 : cH c2 x = some (12, 0)
      · rw [if_pos q12] at h2
        cases h2
        refine Or.inl ⟨q12, ?_⟩
        refine lx_astore d_W_batch_13 (by decide) ?_
        refine lx_iconst (v := nI 1) d_W_batch_15 (by decide) ?_
        exact lx_iret d_W_batch_16 rfl ⟨_, rfl, hq⟩
      · rw [if_neg q12] at h2
        by_cases q13 : cH c2 x = some (13, 0)
        · rw [if_pos q13] at h2
          cases h2
          refine Or.inr ⟨q13, ?_⟩
          refine lx_astore d_W_batch_17 (by decide) ?_
          refine lx_iconst (v := nI 2) d_W_batch_19 (by decide) ?_
          exact lx_iret d_W_batch_20 rfl ⟨_, rfl, hq⟩
        · rw [if_neg q13] at h2
          cases h2
def D_W_start (f : Nat) (l1 : Int32) (s : lx_S) : Option (Int32 × lx_S) := oc 0 (some 2) s.1 fun p => ob (D_H_start f p l1 s.1) fun r c => wo_i r c s.2
theorem E_W_start {G : bm_G} (hfl : G.1.flags = pinnedFlags ++ [noTraceFlag]) {f : Nat} {l1 : Int32} {s sz : lx_S} {r : Int32} {Q : Option Value → lx_S → Prop} (h : D_W_start f l1 s = some (r, sz)) (hq : Q (some (.int r)) sz) : lx_TW G me_W_start hh_W_start [.ref 2, .int l1, .ref 95] s Q := by
  refine lx_metW (by decide) (List.forall_mem_cons.mpr ⟨rfl, (List.forall_mem_cons.mpr ⟨rfl, (List.forall_mem_cons.mpr ⟨rfl, (fun _ q => nomatch q)⟩)⟩)⟩) (Nat.le_of_ble_eq_true rfl) ?_
  unfold D_W_start at h
  obtain ⟨p, ep, hp, h⟩ := oc_inv h
  cases ep
  obtain ⟨r0, c2, e0, h⟩ := ob_inv h
  refine lx_aload_n d_W_start_0 rfl ?_
  refine lx_iconst (v := nI 0) d_W_start_1 (by decide) ?_
  refine lx_aload_n d_W_start_2 rfl ?_
  refine lx_iload_n d_W_start_3 rfl ?_
  refine lx_callT (av := [.int l1]) (r := xr_i r0) c_W_start_4 x_W_start_4 w_W_start_4 rfl (Nat.le_of_ble_eq_true rfl) (by decide) hp (fun _ q => E_H_start hfl e0 q) (fun v ev => ?_) (fun x ex => ?_)
  · cases r0 with
    | inl x => cases ev
    | inr v0 =>
      cases ev
      cases h
      refine lx_i2l d_W_start_7 ?_
      refine lx_last d_W_start_8 ?_
      refine lx_goto (tgt := 18) d_W_start_9 (by decide) ?_
      refine lx_iconst (v := nI 0) d_W_start_18 (by decide) ?_
      exact lx_iret d_W_start_19 rfl ⟨_, rfl, hq⟩
  · cases r0 with
    | inr v0 => cases ex
    | inl x0 =>
      cases ex
      have h2 : (if cH c2 x = some (12, 0) then some (nI 1, (c2, s.2)) else if cH c2 x = some (13, 0) then some (nI 2, (c2, s.2)) else none) = some (r, sz) := h
      by_cases q12 : cH c2 x = some (12, 0)
      · rw [if_pos q12] at h2
        cases h2
        refine Or.inl ⟨q12, ?_⟩
        refine lx_astore_n d_W_start_12 (by decide) ?_
        refine lx_iconst (v := nI 1) d_W_start_13 (by decide) ?_
        exact lx_iret d_W_start_14 rfl ⟨_, rfl, hq⟩
      · rw [if_neg q12] at h2
        by_cases q13 : cH c2 x = some (13, 0)
        · rw [if_pos q13] at h2
          cases h2
          refine Or.inr ⟨q13, ?_⟩
          refine lx_astore_n d_W_start_15 (by decide) ?_
          refine lx_iconst (v := nI 2) d_W_start_16 (by decide) ?_
          exact lx_iret d_W_start_17 rfl ⟨_, rfl, hq⟩
        · rw [if_neg q13] at h2
          cases h2
def D_W_hold (f : Nat) (l1 : Int32) (s : lx_S) : Option (Int32 × lx_S) := oc 0 (some 2) s.1 fun p => ob (D_H_hold f p l1 s.1) fun r c => wo_v r c s.2
theorem E_W_hold {G : bm_G} (hfl : G.1.flags = pinnedFlags ++ [noTraceFlag]) {f : Nat} {l1 : Int32} {s sz : lx_S} {r : Int32} {Q : Option Value → lx_S → Prop} (h : D_W_hold f l1 s = some (r, sz)) (hq : Q (some (.int r)) sz) : lx_TW G me_W_hold hh_W_hold [.ref 2, .int l1] s Q := by
  refine lx_metW (by decide) (List.forall_mem_cons.mpr ⟨rfl, (List.forall_mem_cons.mpr ⟨rfl, (fun _ q => nomatch q)⟩)⟩) (Nat.le_of_ble_eq_true rfl) ?_
  unfold D_W_hold at h
  obtain ⟨p, ep, hp, h⟩ := oc_inv h
  cases ep
  obtain ⟨r0, c2, e0, h⟩ := ob_inv h
  refine lx_aload_n d_W_hold_0 rfl ?_
  refine lx_iload_n d_W_hold_1 rfl ?_
  refine lx_callT (av := [.int l1]) (r := xr_v r0) c_W_hold_2 x_W_hold_2 w_W_hold_2 rfl (Nat.le_of_ble_eq_true rfl) (by decide) hp (fun _ q => E_H_hold hfl e0 q) (fun v ev => ?_) (fun x ex => ?_)
  · cases r0 with
    | inl x => cases ev
    | inr v0 =>
      cases ev
      cases h
      refine lx_goto (tgt := 14) d_W_hold_5 (by decide) ?_
      refine lx_iconst (v := nI 0) d_W_hold_14 (by decide) ?_
      exact lx_iret d_W_hold_15 rfl ⟨_, rfl, hq⟩
  · cases r0 with
    | inr v0 => cases ex
    | inl x0 =>
      cases ex
      have h2 : (if cH c2 x = some (12, 0) then some (nI 1, (c2, s.2)) else if cH c2 x = some (13, 0) then some (nI 2, (c2, s.2)) else none) = some (r, sz) := h
      by_cases q12 : cH c2 x = some (12, 0)
      · rw [if_pos q12] at h2
        cases h2
        refine Or.inl ⟨q12, ?_⟩
        refine lx_astore_n d_W_hold_8 (by decide) ?_
        refine lx_iconst (v := nI 1) d_W_hold_9 (by decide) ?_
        exact lx_iret d_W_hold_10 rfl ⟨_, rfl, hq⟩
      · rw [if_neg q12] at h2
        by_cases q13 : cH c2 x = some (13, 0)
        · rw [if_pos q13] at h2
          cases h2
          refine Or.inr ⟨q13, ?_⟩
          refine lx_astore_n d_W_hold_11 (by decide) ?_
          refine lx_iconst (v := nI 2) d_W_hold_12 (by decide) ?_
          exact lx_iret d_W_hold_13 rfl ⟨_, rfl, hq⟩
        · rw [if_neg q13] at h2
          cases h2
def D_W_restart (f : Nat) (l1 : Int32) (s : lx_S) : Option (Int32 × lx_S) := oc 0 (some 2) s.1 fun p => ob (D_H_restart f p l1 s.1) fun r c => wo_i r c s.2
theorem E_W_restart {G : bm_G} (hfl : G.1.flags = pinnedFlags ++ [noTraceFlag]) {f : Nat} {l1 : Int32} {s sz : lx_S} {r : Int32} {Q : Option Value → lx_S → Prop} (h : D_W_restart f l1 s = some (r, sz)) (hq : Q (some (.int r)) sz) : lx_TW G me_W_restart hh_W_restart [.ref 2, .int l1, .ref 95] s Q := by
  refine lx_metW (by decide) (List.forall_mem_cons.mpr ⟨rfl, (List.forall_mem_cons.mpr ⟨rfl, (List.forall_mem_cons.mpr ⟨rfl, (fun _ q => nomatch q)⟩)⟩)⟩) (Nat.le_of_ble_eq_true rfl) ?_
  unfold D_W_restart at h
  obtain ⟨p, ep, hp, h⟩ := oc_inv h
  cases ep
  obtain ⟨r0, c2, e0, h⟩ := ob_inv h
  refine lx_aload_n d_W_restart_0 rfl ?_
  refine lx_iconst (v := nI 0) d_W_restart_1 (by decide) ?_
  refine lx_aload_n d_W_restart_2 rfl ?_
  refine lx_iload_n d_W_restart_3 rfl ?_
  refine lx_callT (av := [.int l1]) (r := xr_i r0) c_W_restart_4 x_W_restart_4 w_W_restart_4 rfl (Nat.le_of_ble_eq_true rfl) (by decide) hp (fun _ q => E_H_restart hfl e0 q) (fun v ev => ?_) (fun x ex => ?_)
  · cases r0 with
    | inl x => cases ev
    | inr v0 =>
      cases ev
      cases h
      refine lx_i2l d_W_restart_7 ?_
      refine lx_last d_W_restart_8 ?_
      refine lx_goto (tgt := 18) d_W_restart_9 (by decide) ?_
      refine lx_iconst (v := nI 0) d_W_restart_18 (by decide) ?_
      exact lx_iret d_W_restart_19 rfl ⟨_, rfl, hq⟩
  · cases r0 with
    | inr v0 => cases ex
    | inl x0 =>
      cases ex
      have h2 : (if cH c2 x = some (12, 0) then some (nI 1, (c2, s.2)) else if cH c2 x = some (13, 0) then some (nI 2, (c2, s.2)) else none) = some (r, sz) := h
      by_cases q12 : cH c2 x = some (12, 0)
      · rw [if_pos q12] at h2
        cases h2
        refine Or.inl ⟨q12, ?_⟩
        refine lx_astore_n d_W_restart_12 (by decide) ?_
        refine lx_iconst (v := nI 1) d_W_restart_13 (by decide) ?_
        exact lx_iret d_W_restart_14 rfl ⟨_, rfl, hq⟩
      · rw [if_neg q12] at h2
        by_cases q13 : cH c2 x = some (13, 0)
        · rw [if_pos q13] at h2
          cases h2
          refine Or.inr ⟨q13, ?_⟩
          refine lx_astore_n d_W_restart_15 (by decide) ?_
          refine lx_iconst (v := nI 2) d_W_restart_16 (by decide) ?_
          exact lx_iret d_W_restart_17 rfl ⟨_, rfl, hq⟩
        · rw [if_neg q13] at h2
          cases h2
def D_W_stop (f : Nat) (l1 : Int32) (s : lx_S) : Option (Int32 × lx_S) := oc 0 (some 2) s.1 fun p => ob (D_H_stop f p l1 s.1) fun r c => wo_i r c s.2
theorem E_W_stop {G : bm_G} (hfl : G.1.flags = pinnedFlags ++ [noTraceFlag]) {f : Nat} {l1 : Int32} {s sz : lx_S} {r : Int32} {Q : Option Value → lx_S → Prop} (h : D_W_stop f l1 s = some (r, sz)) (hq : Q (some (.int r)) sz) : lx_TW G me_W_stop hh_W_stop [.ref 2, .int l1, .ref 95] s Q := by
  refine lx_metW (by decide) (List.forall_mem_cons.mpr ⟨rfl, (List.forall_mem_cons.mpr ⟨rfl, (List.forall_mem_cons.mpr ⟨rfl, (fun _ q => nomatch q)⟩)⟩)⟩) (Nat.le_of_ble_eq_true rfl) ?_
  unfold D_W_stop at h
  obtain ⟨p, ep, hp, h⟩ := oc_inv h
  cases ep
  obtain ⟨r0, c2, e0, h⟩ := ob_inv h
  refine lx_aload_n d_W_stop_0 rfl ?_
  refine lx_iconst (v := nI 0) d_W_stop_1 (by decide) ?_
  refine lx_aload_n d_W_stop_2 rfl ?_
  refine lx_iload_n d_W_stop_3 rfl ?_
  refine lx_callT (av := [.int l1]) (r := xr_i r0) c_W_stop_4 x_W_stop_4 w_W_stop_4 rfl (Nat.le_of_ble_eq_true rfl) (by decide) hp (fun _ q => E_H_stop hfl e0 q) (fun v ev => ?_) (fun x ex => ?_)
  · cases r0 with
    | inl x => cases ev
    | inr v0 =>
      cases ev
      cases h
      refine lx_i2l d_W_stop_7 ?_
      refine lx_last d_W_stop_8 ?_
      refine lx_goto (tgt := 18) d_W_stop_9 (by decide) ?_
      refine lx_iconst (v := nI 0) d_W_stop_18 (by decide) ?_
      exact lx_iret d_W_stop_19 rfl ⟨_, rfl, hq⟩
  · cases r0 with
    | inr v0 => cases ex
    | inl x0 =>
      cases ex
      have h2 : (if cH c2 x = some (12, 0) then some (nI 1, (c2, s.2)) else if cH c2 x = some (13, 0) then some (nI 2, (c2, s.2)) else none) = some (r, sz) := h
      by_cases q12 : cH c2 x = some (12, 0)
      · rw [if_pos q12] at h2
        cases h2
        refine Or.inl ⟨q12, ?_⟩
        refine lx_astore_n d_W_stop_12 (by decide) ?_
        refine lx_iconst (v := nI 1) d_W_stop_13 (by decide) ?_
        exact lx_iret d_W_stop_14 rfl ⟨_, rfl, hq⟩
      · rw [if_neg q12] at h2
        by_cases q13 : cH c2 x = some (13, 0)
        · rw [if_pos q13] at h2
          cases h2
          refine Or.inr ⟨q13, ?_⟩
          refine lx_astore_n d_W_stop_15 (by decide) ?_
          refine lx_iconst (v := nI 2) d_W_stop_16 (by decide) ?_
          exact lx_iret d_W_stop_17 rfl ⟨_, rfl, hq⟩
        · rw [if_neg q13] at h2
          cases h2
def D_W_abort (f : Nat) (l1 : Int32) (s : lx_S) : Option (Int32 × lx_S) := oc 0 (some 2) s.1 fun p => ob (D_H_abort f p l1 s.1) fun r c => wo_v r c s.2
theorem E_W_abort {G : bm_G} (hfl : G.1.flags = pinnedFlags ++ [noTraceFlag]) {f : Nat} {l1 : Int32} {s sz : lx_S} {r : Int32} {Q : Option Value → lx_S → Prop} (h : D_W_abort f l1 s = some (r, sz)) (hq : Q (some (.int r)) sz) : lx_TW G me_W_abort hh_W_abort [.ref 2, .int l1] s Q := by
  refine lx_metW (by decide) (List.forall_mem_cons.mpr ⟨rfl, (List.forall_mem_cons.mpr ⟨rfl, (fun _ q => nomatch q)⟩)⟩) (Nat.le_of_ble_eq_true rfl) ?_
  unfold D_W_abort at h
  obtain ⟨p, ep, hp, h⟩ := oc_inv h
  cases ep
  obtain ⟨r0, c2, e0, h⟩ := ob_inv h
  refine lx_aload_n d_W_abort_0 rfl ?_
  refine lx_iload_n d_W_abort_1 rfl ?_
  refine lx_callT (av := [.int l1]) (r := xr_v r0) c_W_abort_2 x_W_abort_2 w_W_abort_2 rfl (Nat.le_of_ble_eq_true rfl) (by decide) hp (fun _ q => E_H_abort hfl e0 q) (fun v ev => ?_) (fun x ex => ?_)
  · cases r0 with
    | inl x => cases ev
    | inr v0 =>
      cases ev
      cases h
      refine lx_goto (tgt := 14) d_W_abort_5 (by decide) ?_
      refine lx_iconst (v := nI 0) d_W_abort_14 (by decide) ?_
      exact lx_iret d_W_abort_15 rfl ⟨_, rfl, hq⟩
  · cases r0 with
    | inr v0 => cases ex
    | inl x0 =>
      cases ex
      have h2 : (if cH c2 x = some (12, 0) then some (nI 1, (c2, s.2)) else if cH c2 x = some (13, 0) then some (nI 2, (c2, s.2)) else none) = some (r, sz) := h
      by_cases q12 : cH c2 x = some (12, 0)
      · rw [if_pos q12] at h2
        cases h2
        refine Or.inl ⟨q12, ?_⟩
        refine lx_astore_n d_W_abort_8 (by decide) ?_
        refine lx_iconst (v := nI 1) d_W_abort_9 (by decide) ?_
        exact lx_iret d_W_abort_10 rfl ⟨_, rfl, hq⟩
      · rw [if_neg q12] at h2
        by_cases q13 : cH c2 x = some (13, 0)
        · rw [if_pos q13] at h2
          cases h2
          refine Or.inr ⟨q13, ?_⟩
          refine lx_astore_n d_W_abort_11 (by decide) ?_
          refine lx_iconst (v := nI 2) d_W_abort_12 (by decide) ?_
          exact lx_iret d_W_abort_13 rfl ⟨_, rfl, hq⟩
        · rw [if_neg q13] at h2
          cases h2
