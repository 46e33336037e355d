theorem ax_nlE {l : List AV} (h : l.all ax_nl = true) : ∀ v ∈ l.reverse, ∀ z, v ≠ xL z := by
  intro v hv z e
  have := List.all_eq_true.mp h v (List.mem_reverse.mp hv)
  rw [e] at this
  cases this
theorem ax_pu0 {b : Nat} {v : AV} {st : List AV} (h : ax_rk b = 0) : ax_push b v st = st := by simp only [ax_push, h]
theorem ax_pu1 {b : Nat} {v : AV} {st : List AV} (h : ¬ ax_rk b = 0) : ax_push b v st = v :: st := by
  unfold ax_push
  generalize ax_rk b = r at h
  cases r with
  | zero => exact absurd rfl h
  | succ r => rfl
theorem ax_gIe {b : Nat} {st : List AV} {F : Int → Mem → Prop} {P : List AV → Mem → Prop} (hb : ¬ ax_rk b = 0) (h : ∀ x μ', F x μ' → P (xI x :: st) μ') : ∀ v μ', gI F v μ' → P (ax_push b v st) μ' := by
  intro v μ' hv
  rw [ax_pu1 hb]
  match v, hv with
  | .inl x, hv => exact h x μ' hv
theorem ax_gRe {b : Nat} {st : List AV} {F : Nat → Mem → Prop} {P : List AV → Mem → Prop} (hb : ¬ ax_rk b = 0) (h : ∀ x μ', F x μ' → P (xR x :: st) μ') : ∀ v μ', gR F v μ' → P (ax_push b v st) μ' := by
  intro v μ' hv
  rw [ax_pu1 hb]
  match v, hv with
  | .inr (.inl x), hv => exact h x μ' hv
theorem ax_gVe {b : Nat} {st : List AV} {F : Mem → Prop} {P : List AV → Mem → Prop} (hb : ax_rk b = 0) (h : ∀ μ', F μ' → P st μ') : ∀ v μ', gV F v μ' → P (ax_push b v st) μ' := by
  intro v μ' hv
  rw [ax_pu0 hb]
  exact h μ' hv
set_option maxHeartbeats 4000000 in
theorem ax_sound : ∀ (n d k : Nat), k < ax_K → ∀ (R : List AOp) (i : Nat) (L st : List AV) (μ : Mem) (Q : AV → Mem → Prop), (ax_codes k).drop i = R → ax_wp n d k (ax_codes k) R L st μ Q → ax_SW d k i L st μ Q := by
  intro n
  induction n with
  | zero => intro d k hk R i L st μ Q hR h; exact h.elim
  | succ n ih =>
    intro d k hk R i L st μ Q hR h
    cases R with
    | nil => exact h.elim
    | cons op R' =>
      obtain ⟨hop, hR'⟩ := ax_drop hR
      have ok := ax_okAt hk hop
      have nx : ∀ (d : Nat) (L st : List AV) (μ : Mem), ax_wp n d k (ax_codes k) R' L st μ Q → ax_SW d k (i + 1) L st μ Q := fun d L st μ h => ih d k hk R' (i + 1) L st μ Q hR' h
      have jp : ∀ (a : Nat) (L st : List AV) (μ : Mem), ax_wp n d k (ax_codes k) ((ax_codes k).drop a) L st μ Q → ax_SW d k a L st μ Q := fun a L st μ h => ih d k hk _ a L st μ Q rfl h
      clear hR hop
      obtain ⟨o, a, b, c, z, t⟩ := op
      have pure9 : (match ax_pu (o, a, b, c, z, t) L st with
          | some p => ax_wp n d k (ax_codes k) R' p.1 p.2 μ Q
          | none => False) → ax_SW d k i L st μ Q := by
        intro h
        split at h
        · next p hp => exact ax_pu_ok (L' := p.1) (st' := p.2) ok hp (nx d _ _ _ h)
        · exact h.elim
      match o, ok, h, pure9 with
      | 0, ok, h, pure9 => exact pure9 h
      | 1, ok, h, pure9 => exact pure9 h
      | 2, ok, h, pure9 => exact pure9 h
      | 3, ok, h, pure9 => exact pure9 h
      | 4, ok, h, pure9 => exact pure9 h
      | 5, ok, h, pure9 => exact pure9 h
      | 6, ok, h, pure9 => exact pure9 h
      | 7, ok, h, pure9 => exact pure9 h
      | 8, ok, h, pure9 => exact pure9 h
      | 9, ok, h, pure9 => exact pure9 h
      | 10, ok, h, pure9 => exact pure9 h
      | 11, ok, h, _ =>
        simp only [ax_wp] at h
        split at h
        · obtain ⟨h1, h2⟩ := wz_e h; exact ax_s11 ok h1 (nx _ _ _ _ h2)
        · exact h.elim
      | 12, ok, h, _ =>
        simp only [ax_wp] at h
        split at h
        · obtain ⟨h1, h2⟩ := wz_e h; exact ax_s12 ok h1 (nx _ _ _ _ h2)
        · exact h.elim
      | 13, ok, h, pure9 => exact pure9 h
      | 14, ok, h, pure9 => exact pure9 h
      | 15, ok, h, pure9 => exact pure9 h
      | 16, ok, h, pure9 => exact pure9 h
      | 17, ok, h, pure9 => exact pure9 h
      | 18, ok, h, pure9 => exact pure9 h
      | 19, ok, h, pure9 => exact pure9 h
      | 20, ok, h, pure9 => exact pure9 h
      | 21, ok, h, pure9 => exact pure9 h
      | 22, ok, h, pure9 => exact pure9 h
      | 23, ok, h, pure9 => exact pure9 h
      | 24, ok, h, pure9 => exact pure9 h
      | 25, ok, h, pure9 => exact pure9 h
      | 26, ok, h, pure9 => exact pure9 h
      | 27, ok, h, pure9 => exact pure9 h
      | 28, ok, h, pure9 => exact pure9 h
      | 29, ok, h, _ =>
        simp only [ax_wp] at h
        split at h
        · exact ax_s29 ok (fun c => jp _ _ _ _ (by rw [if_pos c] at h; exact h)) (fun c => nx _ _ _ _ (by rw [if_neg c] at h; exact h))
        · exact h.elim
      | 30, ok, h, _ =>
        simp only [ax_wp] at h
        split at h
        · exact ax_s30 ok (fun c => jp _ _ _ _ (by rw [if_neg c] at h; exact h)) (fun c => nx _ _ _ _ (by rw [if_pos c] at h; exact h))
        · exact h.elim
      | 31, ok, h, _ =>
        simp only [ax_wp] at h
        split at h
        · exact ax_s31 ok (fun c => jp _ _ _ _ (by rw [if_pos c] at h; exact h)) (fun c => nx _ _ _ _ (by rw [if_neg c] at h; exact h))
        · exact h.elim
      | 32, ok, h, _ =>
        simp only [ax_wp] at h
        split at h
        · exact ax_s32 ok (fun c => jp _ _ _ _ (by rw [if_neg c] at h; exact h)) (fun c => nx _ _ _ _ (by rw [if_pos c] at h; exact h))
        · exact h.elim
      | 33, ok, h, _ =>
        simp only [ax_wp] at h
        split at h
        · exact ax_s33 ok (fun c => jp _ _ _ _ (by rw [if_pos c] at h; exact h)) (fun c => nx _ _ _ _ (by rw [if_neg c] at h; exact h))
        · exact h.elim
      | 34, ok, h, _ =>
        simp only [ax_wp] at h
        split at h
        · exact ax_s34 ok (fun c => jp _ _ _ _ (by rw [if_neg c] at h; exact h)) (fun c => nx _ _ _ _ (by rw [if_pos c] at h; exact h))
        · exact h.elim
      | 35, ok, h, _ =>
        simp only [ax_wp] at h
        split at h
        · exact ax_s35 ok (fun c => jp _ _ _ _ (by rw [if_pos c] at h; exact h)) (fun c => nx _ _ _ _ (by rw [if_neg c] at h; exact h))
        · exact h.elim
      | 36, ok, h, _ =>
        simp only [ax_wp] at h
        split at h
        · exact ax_s36 ok (fun c => jp _ _ _ _ (by rw [if_neg c] at h; exact h)) (fun c => nx _ _ _ _ (by rw [if_pos c] at h; exact h))
        · exact h.elim
      | 37, ok, h, _ =>
        simp only [ax_wp] at h
        split at h
        · exact ax_s37 ok (fun c => jp _ _ _ _ (by rw [if_pos c] at h; exact h)) (fun c => nx _ _ _ _ (by rw [if_neg c] at h; exact h))
        · exact h.elim
      | 38, ok, h, _ =>
        simp only [ax_wp] at h
        split at h
        · exact ax_s38 ok (fun c => jp _ _ _ _ (by rw [if_neg c] at h; exact h)) (fun c => nx _ _ _ _ (by rw [if_pos c] at h; exact h))
        · exact h.elim
      | 39, ok, h, _ =>
        simp only [ax_wp] at h
        split at h
        · exact ax_s39 ok (fun c => jp _ _ _ _ (by rw [if_pos c] at h; exact h)) (fun c => nx _ _ _ _ (by rw [if_neg c] at h; exact h))
        · exact h.elim
      | 40, ok, h, _ =>
        simp only [ax_wp] at h
        split at h
        · exact ax_s40 ok (fun c => jp _ _ _ _ (by rw [if_neg c] at h; exact h)) (fun c => nx _ _ _ _ (by rw [if_pos c] at h; exact h))
        · exact h.elim
      | 41, ok, h, _ => exact ax_s41 ok (jp _ _ _ _ h)
      | 42, ok, h, _ =>
        simp only [ax_wp] at h
        split at h
        · exact ax_s42 ok (ax_sw_mono (fun g hg => jp g _ _ _ hg) h)
        · exact h.elim
      | 43, ok, h, _ =>
        simp only [ax_wp] at h
        split at h
        · exact ax_s43 ok (ax_sw_mono (fun g hg => jp g _ _ _ hg) h)
        · exact h.elim
      | 44, ok, h, _ =>
        simp only [ax_wp] at h
        split at h
        · next r st' =>
          split at h
          · next hf => exact ax_s44 ok hf (nx _ _ _ _ h)
          · next hf => exact ax_s44 ok hf (nx _ _ _ _ h)
          · next g hf => exact ax_s44 ok hf (nx _ _ _ _ h)
          · split at h
            · next hs =>
              simp only [Bool.and_eq_true] at hs
              have hb := Nat.eq_of_beq_eq_true hs.2
              subst hb
              split at h
              · exact ax_s44v ok hs.1 (nx _ _ _ _ h)
              · exact ax_s44c ok hs.1 (nx _ _ _ _ h)
              · exact h.elim
            · exact h.elim
        · exact h.elim
      | 45, ok, h, _ =>
        simp only [ax_wp] at h
        split at h
        · split at h
          · next hf => exact ax_s45 ok hf (nx _ _ _ _ h)
          · exact h.elim
        · split at h
          · next hf => exact ax_s45l ok hf (nx _ _ _ _ h)
          · exact h.elim
        · exact h.elim
      | 46, ok, h, _ =>
        simp only [ax_wp] at h
        match b, ok, h with
        | 0, ok, h => exact ax_s46a ok (nx _ _ _ _ h)
        | 1, ok, h => exact ax_s46b ok (nx _ _ _ _ h)
        | g + 2, ok, h => exact ax_s46c ok (nx _ _ _ _ h)
      | 47, ok, h, _ =>
        simp only [ax_wp] at h
        split at h
        · next x r st' =>
          split at h
          · next len ha =>
            obtain ⟨hin, ks, hcd⟩ := ax_arr_e ha
            obtain ⟨⟨h0, h1⟩, h2⟩ := wb_e h
            exact ax_s47 ok hin hcd (fun q => ax_rvR (ax_ne150 hcd (by decide))) h0 h1 (nx _ _ _ _ h2)
          · split at h
            · next l hc =>
              obtain ⟨⟨h0, h1⟩, h2⟩ := wb_e h
              exact ax_s47c ok hc h0 h1 (nx _ _ _ _ h2)
            · exact h.elim
        · next x w st' =>
          split at h
          · next nm hr =>
            obtain ⟨⟨h0, h1⟩, h2⟩ := wb_e h
            exact ax_rowld ok hr h0 h1 (nx _ _ _ _ h2)
          · exact h.elim
        · exact h.elim
      | 48, ok, h, _ =>
        simp only [ax_wp] at h
        split at h
        · next y x r st' =>
          split at h
          · next len ha =>
            obtain ⟨hin, ks, hcd⟩ := ax_arr_e ha
            obtain ⟨⟨h0, h1⟩, h2⟩ := wb_e h
            exact ax_s48 ok hin hcd (fun q => ax_rvR (ax_ne150 hcd (by decide))) h0 h1 (nx _ _ _ _ h2)
          · exact h.elim
        · next y x w st' =>
          split at h
          · next nm hr =>
            obtain ⟨⟨h0, h1⟩, h2⟩ := wb_e h
            exact ax_rowst ok hr h0 h1 (nx _ _ _ _ h2)
          · exact h.elim
        · exact h.elim
      | 49, ok, h, _ =>
        simp only [ax_wp] at h
        split at h
        · next x r st' =>
          split at h
          · next len ha =>
            obtain ⟨hin, ks, hcd⟩ := ax_arr_e ha
            obtain ⟨⟨h0, h1⟩, h2⟩ := wb_e h
            exact ax_s49 ok hin hcd h0 h1 (nx _ _ _ _ h2)
          · split at h
            · next l hc =>
              obtain ⟨⟨h0, h1⟩, h2⟩ := wb_e h
              exact ax_s49c ok hc h0 h1 (nx _ _ _ _ h2)
            · exact h.elim
        · exact h.elim
      | 50, ok, h, _ =>
        simp only [ax_wp] at h
        split at h
        · split at h
          · next len ha =>
            obtain ⟨hin, ks, hcd⟩ := ax_arr_e ha
            obtain ⟨⟨h0, h1⟩, h2⟩ := wb_e h
            obtain ⟨⟨y0, y1⟩, h3⟩ := wb_e h2
            exact ax_s50 ok hin hcd h0 h1 y0 y1 (nx _ _ _ _ h3)
          · exact h.elim
        · exact h.elim
      | 51, ok, h, _ =>
        simp only [ax_wp] at h
        split at h
        · next x r st' =>
          split at h
          · next ks hc =>
            obtain ⟨j, g, hj, hx, h2⟩ := ax_sel_e h
            exact ax_s51 ok hc hj (by rw [hx]; omega) (nx _ _ _ _ h2)
          · split at h
            · next nm hr =>
              obtain ⟨⟨h0, h1⟩, h2⟩ := wb_e h
              exact ax_s51w ok hr h0 h1 (nx _ _ _ _ h2)
            · exact h.elim
        · exact h.elim
      | 52, ok, h, _ =>
        simp only [ax_wp] at h
        split at h
        · split at h
          · next hc => exact ax_s52 ok hc (nx _ _ _ _ h)
          · split at h
            · next hc => exact ax_s52c ok hc (nx _ _ _ _ h)
            · split at h
              · next hc => exact ax_s52b ok hc (nx _ _ _ _ h)
              · exact h.elim
        · exact h.elim
      | 53, ok, h, _ =>
        simp only [ax_wp] at h
        split at h
        · next x =>
          split at h
          · next hr => exact ax_s53 (ty := .int) ok (fun hk => (ax_rtk k hk).2.1 hr) (by rw [hr]; decide) (fun _ => rfl) h
          · next hr =>
            obtain ⟨⟨h0, h1⟩, h2⟩ := wb_e h
            exact ax_s53 (ty := .boolean) ok (fun hk => (ax_rtk k hk).2.2.1 hr) (by rw [hr]; decide) (fun _ => (ax_nb h0 h1).2) h2
          · next hr =>
            obtain ⟨⟨h0, h1⟩, h2⟩ := wb_e h
            exact ax_s53 (ty := .char) ok (fun hk => (ax_rtk k hk).2.2.2.2.1 hr) (by rw [hr]; decide) (fun _ => ax_nc h0 h1) h2
          · next hr =>
            obtain ⟨⟨h0, h1⟩, h2⟩ := wb_e h
            exact ax_s53 (ty := .byte) ok (fun hk => (ax_rtk k hk).2.2.2.2.2 hr) (by rw [hr]; decide) (fun _ => ax_nby h0 h1) h2
          · exact h.elim
        · exact h.elim
      | 54, ok, h, _ =>
        simp only [ax_wp] at h
        split at h
        · split at h
          · next hr => exact ax_s54 ok hr h
          · exact h.elim
        · exact h.elim
      | 55, ok, h, _ =>
        simp only [ax_wp] at h
        split at h
        · split at h
          · next hr =>
            split at h
            · exact h.elim
            · next hb => exact ax_s55 ok hr (fun e => by rw [e] at hb; cases hb) h
          · exact h.elim
        · exact h.elim
      | 56, ok, h, _ =>
        cases d with
        | zero => exact h.elim
        | succ d' =>
          simp only [ax_wp] at h
          split at h
          · next r st' hst =>
            split at h
            · next hrc =>
              split at h
              · next hlen =>
                simp only [Bool.and_eq_true] at hlen
                have hlc := Nat.eq_of_beq_eq_true hlen.1
                have hst2 : st = ((st.take c).reverse).reverse ++ xR r :: st' := by rw [List.reverse_reverse, ← hst, List.take_append_drop]
                have hac : (st.take c).reverse.length = c := by rw [List.length_reverse]; exact hlc
                have hrc' : (ax_inS k r = true ∧ ∃ ks : List Nat, ax_cd r = (0, ax_mciL.getD b 99, ks)) ∨ (ax_str r = true ∧ ax_mciL.getD b 99 = 50) := by
                  simp only [Bool.or_eq_true, Bool.and_eq_true] at hrc
                  rcases hrc with ⟨⟨h1, h2⟩, h3⟩ | ⟨h1, h2⟩
                  · refine Or.inl ⟨h1, (ax_cd r).2.2, ?_⟩
                    rw [← Nat.eq_of_beq_eq_true h3, ← Nat.eq_of_beq_eq_true h2]
                  · exact Or.inr ⟨h1, Nat.eq_of_beq_eq_true h2⟩
                have ok2 := ok
                simp only [ax_ok, Bool.and_eq_true, decide_eq_true_eq] at ok2
                obtain ⟨⟨⟨⟨⟨⟨⟨hq, w1⟩, w2⟩, w3⟩, w4⟩, hpar⟩, hbK⟩, hsd⟩ := ok2
                rw [hst2]
                split at h
                · split at h
                  · next hr => exact ax_callV ok hrc' hac (Nat.le_of_ble_eq_true hlen.2) h (ax_gVe (P := fun S μ' => ax_SW (d' + 1) k (i + 1) L S μ' Q) hr (fun μ' hq => nx _ _ _ _ hq))
                  · next hr => exact ax_callV ok hrc' hac (Nat.le_of_ble_eq_true hlen.2) h (ax_gRe (P := fun S μ' => ax_SW (d' + 1) k (i + 1) L S μ' Q) (by rw [hr]; decide) (fun x μ' hq => nx _ _ _ _ hq))
                  · next hr _ => exact ax_callV ok hrc' hac (Nat.le_of_ble_eq_true hlen.2) h (ax_gIe (P := fun S μ' => ax_SW (d' + 1) k (i + 1) L S μ' Q) (fun e => hr e) (fun x μ' hq => nx _ _ _ _ hq))
                · split at h
                  · next hnl =>
                    split at h
                    · next hr => exact ax_callV ok hrc' hac (Nat.le_of_ble_eq_true hlen.2) (ax_gm (ax_blt hbK) (by rw [List.length_cons, hac]; exact ax_mlv b (ax_blt hbK) c hpar (ax_inM w2)) (ax_cc (fun z e => by cases e) (ax_nlE hnl)) (ih d' b (ax_blt hbK) _ 0 _ _ _ _ rfl (by rw [List.length_cons, hac]; exact h))) (ax_gVe (P := fun S μ' => ax_SW (d' + 1) k (i + 1) L S μ' Q) hr (fun μ' hq => nx _ _ _ _ hq))
                    · next hr => exact ax_callV ok hrc' hac (Nat.le_of_ble_eq_true hlen.2) (ax_gm (ax_blt hbK) (by rw [List.length_cons, hac]; exact ax_mlv b (ax_blt hbK) c hpar (ax_inM w2)) (ax_cc (fun z e => by cases e) (ax_nlE hnl)) (ih d' b (ax_blt hbK) _ 0 _ _ _ _ rfl (by rw [List.length_cons, hac]; exact h))) (ax_gRe (P := fun S μ' => ax_SW (d' + 1) k (i + 1) L S μ' Q) (by rw [hr]; decide) (fun x μ' hq => nx _ _ _ _ hq))
                    · next hr _ => exact ax_callV ok hrc' hac (Nat.le_of_ble_eq_true hlen.2) (ax_gm (ax_blt hbK) (by rw [List.length_cons, hac]; exact ax_mlv b (ax_blt hbK) c hpar (ax_inM w2)) (ax_cc (fun z e => by cases e) (ax_nlE hnl)) (ih d' b (ax_blt hbK) _ 0 _ _ _ _ rfl (by rw [List.length_cons, hac]; exact h))) (ax_gIe (P := fun S μ' => ax_SW (d' + 1) k (i + 1) L S μ' Q) (fun e => hr e) (fun x μ' hq => nx _ _ _ _ hq))
                  · exact h.elim
              · exact h.elim
            · exact h.elim
          · exact h.elim
      | 57, ok, h, _ =>
        cases d with
        | zero => exact h.elim
        | succ d' =>
          simp only [ax_wp] at h
          split at h
          · next hlen =>
            simp only [Bool.and_eq_true] at hlen
            have hlc := Nat.eq_of_beq_eq_true hlen.1
            have hst2 : st = ((st.take c).reverse).reverse ++ st.drop c := by rw [List.reverse_reverse, List.take_append_drop]
            have hac : (st.take c).reverse.length = c := by rw [List.length_reverse]; exact hlc
            have ok2 := ok
            simp only [ax_ok, Bool.and_eq_true, decide_eq_true_eq] at ok2
            obtain ⟨⟨⟨⟨⟨⟨hq, w1⟩, w2⟩, w4⟩, hpar⟩, hbK⟩, hsd⟩ := ok2
            rw [hst2]
            split at h
            · split at h
              · next hr => exact ax_callS ok hac (Nat.le_of_ble_eq_true hlen.2) h (ax_gVe (P := fun S μ' => ax_SW (d' + 1) k (i + 1) L S μ' Q) hr (fun μ' hq => nx _ _ _ _ hq))
              · next hr => exact ax_callS ok hac (Nat.le_of_ble_eq_true hlen.2) h (ax_gRe (P := fun S μ' => ax_SW (d' + 1) k (i + 1) L S μ' Q) (by rw [hr]; decide) (fun x μ' hq => nx _ _ _ _ hq))
              · next hr _ => exact ax_callS ok hac (Nat.le_of_ble_eq_true hlen.2) h (ax_gIe (P := fun S μ' => ax_SW (d' + 1) k (i + 1) L S μ' Q) (fun e => hr e) (fun x μ' hq => nx _ _ _ _ hq))
            · split at h
              · next hnl =>
                split at h
                · next hr => exact ax_callS ok hac (Nat.le_of_ble_eq_true hlen.2) (ax_gm (ax_blt hbK) (by rw [hac]; exact ax_mlc (ax_blt hbK) hpar) (ax_nlE hnl) (ih d' b (ax_blt hbK) _ 0 _ _ _ _ rfl (by rw [hac]; exact h))) (ax_gVe (P := fun S μ' => ax_SW (d' + 1) k (i + 1) L S μ' Q) hr (fun μ' hq => nx _ _ _ _ hq))
                · next hr => exact ax_callS ok hac (Nat.le_of_ble_eq_true hlen.2) (ax_gm (ax_blt hbK) (by rw [hac]; exact ax_mlc (ax_blt hbK) hpar) (ax_nlE hnl) (ih d' b (ax_blt hbK) _ 0 _ _ _ _ rfl (by rw [hac]; exact h))) (ax_gRe (P := fun S μ' => ax_SW (d' + 1) k (i + 1) L S μ' Q) (by rw [hr]; decide) (fun x μ' hq => nx _ _ _ _ hq))
                · next hr _ => exact ax_callS ok hac (Nat.le_of_ble_eq_true hlen.2) (ax_gm (ax_blt hbK) (by rw [hac]; exact ax_mlc (ax_blt hbK) hpar) (ax_nlE hnl) (ih d' b (ax_blt hbK) _ 0 _ _ _ _ rfl (by rw [hac]; exact h))) (ax_gIe (P := fun S μ' => ax_SW (d' + 1) k (i + 1) L S μ' Q) (fun e => hr e) (fun x μ' hq => nx _ _ _ _ hq))
              · exact h.elim
          · exact h.elim
      | 58, ok, h, _ =>
        cases d with
        | zero => exact h.elim
        | succ d' =>
          simp only [ax_wp] at h
          split at h
          · split at h
            · next l0 hrs =>
              split at h
              · next l1 hrd =>
                obtain ⟨⟨a0, a1⟩, h⟩ := wb_e h
                obtain ⟨⟨b0, b1⟩, h⟩ := wb_e h
                obtain ⟨⟨c0, c1⟩, h⟩ := wb_e h
                obtain ⟨⟨d0, d1⟩, h⟩ := wb_e h
                obtain ⟨⟨e0, e1⟩, h⟩ := wb_e h
                exact ax_s58 ok hrs hrd a0 b0 c0 (by omega) (by omega) (nx _ _ _ _ h)
              · exact h.elim
            · exact h.elim
          · exact h.elim
      | 59, ok, h, _ =>
        simp only [ax_wp] at h
        split at h
        · have ha : a = i := by
            simp only [ax_ok, Bool.and_eq_true] at ok
            exact Nat.eq_of_beq_eq_true ok.2
          rw [ha] at h
          exact ax_s59 ok h
        · exact h.elim
      | 60, ok, h, pure9 => exact pure9 h
      | 61, ok, h, _ =>
        cases d with
        | zero => exact h.elim
        | succ d' =>
          simp only [ax_wp] at h
          split at h
          · split at h
            · next hb => exact ax_s61 ok (Nat.le_of_ble_eq_true hb) (nx _ _ _ _ h)
            · exact h.elim
          · exact h.elim
      | 62, ok, h, _ =>
        cases d with
        | zero => exact h.elim
        | succ d' =>
          simp only [ax_wp] at h
          split at h
          · split at h
            · next hb => exact ax_s62 ok (Nat.le_of_ble_eq_true hb) (nx _ _ _ _ h)
            · exact h.elim
          · exact h.elim
      | o + 63, ok, h, pure9 => exact pure9 h
/-- from a cut on -/
theorem DW_wp {n d k a : Nat} {L : List AV} {μ : Mem} {Q : AV → Mem → Prop} (hk : k < ax_K) (h : ax_wp n d k (ax_codes k) ((ax_codes k).drop (a + 1)) L [] μ Q) : DW d k a L μ Q := ax_sound n d k hk _ (a + 1) L [] μ Q rfl h
/-- a method from its entry on -/
theorem GM_wp {n d k : Nat} {av : List AV} {μ : Mem} {Q : AV → Mem → Prop} (hk : k < ax_K) (hlen : av.length ≤ ax_ml k) (hnl : av.all ax_nl = true) (h : ax_wp n d k (ax_codes k) (ax_codes k) (av ++ List.replicate (ax_ml k - av.length) (xL 0)) [] μ Q) : GM d k av μ Q :=
  ax_gm hk hlen (fun v hv z e => by have := List.all_eq_true.mp hnl v hv; rw [e] at this; cases this) (ax_sound n d k hk _ 0 _ [] μ Q rfl h)
