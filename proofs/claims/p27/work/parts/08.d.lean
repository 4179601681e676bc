/-! walks of the law's own methods over maps -/
def w_X10_told (c : Nat → ClassId) (K : (Nat → Nat) × (Nat → Nat)) (h : HW) (a0 : Nat) (a1 : Int32) (post : Int32 → HW → Prop) : Prop :=
  (a1 = 0 → gI h a0 10 0 (fun (g5 : Int32) => post g5 h)) ∧ (¬ a1 = 0 → (a1 = (1 : Int32) → gR h a0 10 10 (fun (g17 : Nat) => lenA h (c 2) g17 (fun (x20 : Int32) => post x20 h))) ∧ (¬ a1 = (1 : Int32) → (a1 = (2 : Int32) → gI h a0 10 1 (fun (g30 : Int32) => post g30 h)) ∧ (¬ a1 = (2 : Int32) → (a1 = (3 : Int32) → gI h a0 10 2 (fun (g42 : Int32) => post g42 h)) ∧ (¬ a1 = (3 : Int32) → (a1 = (4 : Int32) → gI h a0 10 4 (fun (g54 : Int32) => post g54 h)) ∧ (¬ a1 = (4 : Int32) → (a1 = (5 : Int32) → gI h a0 10 5 (fun (g66 : Int32) => (g66 = 0 → post (0 : Int32) h) ∧ (¬ g66 = 0 → post (1 : Int32) h))) ∧ (¬ a1 = (5 : Int32) → (a1 = (6 : Int32) → gI h a0 10 6 (fun (g87 : Int32) => post g87 h)) ∧ (¬ a1 = (6 : Int32) → (a1 = (7 : Int32) → gR h a0 10 14 (fun (g100 : Nat) => lenA h (c 0) g100 (fun (x103 : Int32) => post x103 h))) ∧ (¬ a1 = (7 : Int32) → (a1 = (8 : Int32) → gI h a0 10 7 (fun (g114 : Int32) => (g114 = 0 → post (0 : Int32) h) ∧ (¬ g114 = 0 → post (1 : Int32) h))) ∧ (¬ a1 = (8 : Int32) → (a1 = (9 : Int32) → gI h a0 10 8 (fun (g135 : Int32) => post g135 h)) ∧ (¬ a1 = (9 : Int32) → (a1 = (10 : Int32) → (∃ w fs, h a0 = some (w, .inr (10, fs))) ∧ w_X10_plays c K h a0 (fun (r148 : Int32) (h148 : HW) => post r148 h148)) ∧ (¬ a1 = (10 : Int32) → (a1 = (11 : Int32) → gI h a0 10 9 (fun (g161 : Int32) => post g161 h)) ∧ (¬ a1 = (11 : Int32) → gI h a0 10 3 (fun (g168 : Int32) => post g168 h)))))))))))))

abbrev rm_X10_told : Room := { frames := 3, cells := 0, slots := 0, locals := 74 }
theorem he_X10_told : yX10_told.cls ≠ "java/lang/invoke/MethodHandle" ∧ yX10_told.cls ≠ "java/lang/invoke/VarHandle" ∧ (parseMethodDescriptor yX10_told.desc).map (fun d => d.parameters.length) = some 1 := by decide +kernel
theorem heV_X10_told : yX10_told.cls = RX10 ∧ yX10_told.cls ≠ "java/lang/invoke/MethodHandle" ∧ yX10_told.cls ≠ "java/lang/invoke/VarHandle" ∧ (parseMethodDescriptor yX10_told.desc).map (fun d => d.parameters.length) = some 1 := by decide +kernel
set_option maxHeartbeats 4000000 in
set_option maxRecDepth 100000 in
theorem h_X10_told (l : Launch) (G : va_G) (K : (Nat → Nat) × (Nat → Nat)) (c : Nat → ClassId) (h : HW) (a0 : Nat) (a1 : Int32) (post : Int32 → HW → Prop) (hm : w_X10_told c K h a0 a1 post) : hMi l yX10_told wsX10_told (rm_X10_told) G K (TY c) [.ref a0, .int a1] h 0 0 post := by
  refine hMi.of (cc := cX10_told) (maxL := 2) (lv := [(0, .ref a0), (1, .int a1)]) (by decide) rfl (Nat.le_of_ble_eq_true rfl) rfl ?_
  intro p e s m args below meth c1 A Q H locs hx hb hml hown hmn hts hK hN hZ hXX hP hD hA hS hend ls hl
  have hown : s.vm.findClass RX10 = some m.cls := hown
  have hi_10 : ∀ w ∈ u_ws RX10 TX10 17, w ∈ wsX10_told := fun w h => (fun w h => List.mem_cons_of_mem _ (List.mem_append_right _ (h))) w h
  unfold w_X10_told at hm
  refine lv_iload_n hx hb dX10_told_0 rfl (lv_at hl 1 rfl) ?_
  refine lv_if_ne (tgt := 11) hx hb dX10_told_1 (by decide) (fun c_1 => ?_) (fun c_1 => ?_)
  · have hm := hm.2 c_1
    refine lv_iload_n hx hb dX10_told_11 rfl (lv_at hl 1 rfl) ?_
    refine lv_iconst (v := 1) hx hb dX10_told_12 (by decide) ?_
    refine lv_icmp_ne (tgt := 24) hx hb dX10_told_13 (by decide) (fun c_13 => ?_) (fun c_13 => ?_)
    · have hm := hm.2 c_13
      refine lv_iload_n hx hb dX10_told_24 rfl (lv_at hl 1 rfl) ?_
      refine lv_iconst (v := 2) hx hb dX10_told_25 (by decide) ?_
      refine lv_icmp_ne (tgt := 36) hx hb dX10_told_26 (by decide) (fun c_26 => ?_) (fun c_26 => ?_)
      · have hm := hm.2 c_26
        refine lv_iload_n hx hb dX10_told_36 rfl (lv_at hl 1 rfl) ?_
        refine lv_iconst (v := 3) hx hb dX10_told_37 (by decide) ?_
        refine lv_icmp_ne (tgt := 48) hx hb dX10_told_38 (by decide) (fun c_38 => ?_) (fun c_38 => ?_)
        · have hm := hm.2 c_38
          refine lv_iload_n hx hb dX10_told_48 rfl (lv_at hl 1 rfl) ?_
          refine lv_iconst (v := 4) hx hb dX10_told_49 (by decide) ?_
          refine lv_icmp_ne (tgt := 60) hx hb dX10_told_50 (by decide) (fun c_50 => ?_) (fun c_50 => ?_)
          · have hm := hm.2 c_50
            refine lv_iload_n hx hb dX10_told_60 rfl (lv_at hl 1 rfl) ?_
            refine lv_iconst (v := 5) hx hb dX10_told_61 (by decide) ?_
            refine lv_icmp_ne (tgt := 80) hx hb dX10_told_62 (by decide) (fun c_62 => ?_) (fun c_62 => ?_)
            · have hm := hm.2 c_62
              refine lv_iload_n hx hb dX10_told_80 rfl (lv_at hl 1 rfl) ?_
              refine lv_bipush (v := 6) hx hb dX10_told_81 (by decide) ?_
              refine lv_icmp_ne (tgt := 93) hx hb dX10_told_83 (by decide) (fun c_83 => ?_) (fun c_83 => ?_)
              · have hm := hm.2 c_83
                refine lv_iload_n hx hb dX10_told_93 rfl (lv_at hl 1 rfl) ?_
                refine lv_bipush (v := 7) hx hb dX10_told_94 (by decide) ?_
                refine lv_icmp_ne (tgt := 107) hx hb dX10_told_96 (by decide) (fun c_96 => ?_) (fun c_96 => ?_)
                · have hm := hm.2 c_96
                  refine lv_iload_n hx hb dX10_told_107 rfl (lv_at hl 1 rfl) ?_
                  refine lv_bipush (v := 8) hx hb dX10_told_108 (by decide) ?_
                  refine lv_icmp_ne (tgt := 128) hx hb dX10_told_110 (by decide) (fun c_110 => ?_) (fun c_110 => ?_)
                  · have hm := hm.2 c_110
                    refine lv_iload_n hx hb dX10_told_128 rfl (lv_at hl 1 rfl) ?_
                    refine lv_bipush (v := 9) hx hb dX10_told_129 (by decide) ?_
                    refine lv_icmp_ne (tgt := 141) hx hb dX10_told_131 (by decide) (fun c_131 => ?_) (fun c_131 => ?_)
                    · have hm := hm.2 c_131
                      refine lv_iload_n hx hb dX10_told_141 rfl (lv_at hl 1 rfl) ?_
                      refine lv_bipush (v := 10) hx hb dX10_told_142 (by decide) ?_
                      refine lv_icmp_ne (tgt := 154) hx hb dX10_told_144 (by decide) (fun c_144 => ?_) (fun c_144 => ?_)
                      · have hm := hm.2 c_144
                        refine lv_iload_n hx hb dX10_told_154 rfl (lv_at hl 1 rfl) ?_
                        refine lv_bipush (v := 11) hx hb dX10_told_155 (by decide) ?_
                        refine lv_icmp_ne (tgt := 167) hx hb dX10_told_157 (by decide) (fun c_157 => ?_) (fun c_157 => ?_)
                        · have hm := hm.2 c_157
                          refine lv_aload_n hx hb dX10_told_167 rfl (lv_at hl 0 rfl) ?_
                          obtain ⟨wq168, fs168, g168, hq168, hv168, hm⟩ := hm
                          refine mr_get (ci := 10) (C := RX10) (T := TX10) (N := 17) hx hb hts hi_10 hown hK (mRd hK hP hZ hS) hq168 rfl 3 (by decide) (hts (.fieldLink RX10 19 "HubTrainsLaw$Table" "seed" "I") ((List.mem_of_getElem? (i := 12) rfl))) (fun _ h9 => h9) hv168 dX10_told_168 ?_
                          exact hend H locs ls 171 _ _ g168 h (Nat.le_refl _) (Nat.le_refl _) rfl hm hP hD hS dX10_told_171
                        · have hm := hm.1 c_157
                          refine lv_aload_n hx hb dX10_told_160 rfl (lv_at hl 0 rfl) ?_
                          obtain ⟨wq161, fs161, g161, hq161, hv161, hm⟩ := hm
                          refine mr_get (ci := 10) (C := RX10) (T := TX10) (N := 17) hx hb hts hi_10 hown hK (mRd hK hP hZ hS) hq161 rfl 9 (by decide) (hts (.fieldLink RX10 62 "HubTrainsLaw$Table" "passes" "I") ((List.mem_of_getElem? (i := 11) rfl))) (fun _ h9 => h9) hv161 dX10_told_161 ?_
                          refine lv_goto (tgt := 171) hx hb dX10_told_164 (by decide) ?_
                          exact hend H locs ls 171 _ _ g161 h (Nat.le_refl _) (Nat.le_refl _) rfl hm hP hD hS dX10_told_171
                      · have hm := hm.1 c_144
                        refine lv_aload_n hx hb dX10_told_147 rfl (lv_at hl 0 rfl) ?_
                        obtain ⟨⟨wr148, fr148, hrq148⟩, hm⟩ := hm
                        refine hcVi (As := []) (rest := []) ⟨hx, hb, hml, hown, hts⟩ (h_X10_plays l G K c h a0 _ hm) (cwV 0 hts gX10_told_X10_plays rfl rfl rfl (heV_X10_plays) ⟨Nat.le_of_ble_eq_true rfl, Nat.le_of_ble_eq_true rfl⟩) hK hN hZ hXX hP hD hS hA (mr_recv hK (mRd hK hP hZ hS) (ci := 10) rfl hrq148) rfl hl.1 rfl (Nat.le_of_ble_eq_true rfl) dX10_told_148 ⟨Nat.le_refl _, Nat.le_refl _⟩ (fun r148 h148 H locs hm hP hD hS => ?_)
                        refine lv_goto (tgt := 171) hx hb dX10_told_151 (by decide) ?_
                        exact hend H locs ls 171 _ _ r148 h148 (Nat.le_refl _) (Nat.le_refl _) rfl hm hP hD hS dX10_told_171
                    · have hm := hm.1 c_131
                      refine lv_aload_n hx hb dX10_told_134 rfl (lv_at hl 0 rfl) ?_
                      obtain ⟨wq135, fs135, g135, hq135, hv135, hm⟩ := hm
                      refine mr_get (ci := 10) (C := RX10) (T := TX10) (N := 17) hx hb hts hi_10 hown hK (mRd hK hP hZ hS) hq135 rfl 8 (by decide) (hts (.fieldLink RX10 59 "HubTrainsLaw$Table" "rounds" "I") ((List.mem_of_getElem? (i := 10) rfl))) (fun _ h9 => h9) hv135 dX10_told_135 ?_
                      refine lv_goto (tgt := 171) hx hb dX10_told_138 (by decide) ?_
                      exact hend H locs ls 171 _ _ g135 h (Nat.le_refl _) (Nat.le_refl _) rfl hm hP hD hS dX10_told_171
                  · have hm := hm.1 c_110
                    refine lv_aload_n hx hb dX10_told_113 rfl (lv_at hl 0 rfl) ?_
                    obtain ⟨wq114, fs114, g114, hq114, hv114, hm⟩ := hm
                    refine mr_get (ci := 10) (C := RX10) (T := TX10) (N := 17) hx hb hts hi_10 hown hK (mRd hK hP hZ hS) hq114 rfl 7 (by decide) (hts (.fieldLink RX10 56 "HubTrainsLaw$Table" "isOver" "Z") ((List.mem_of_getElem? (i := 9) rfl))) (fun _ h9 => h9) hv114 dX10_told_114 ?_
                    refine lv_if_eq (tgt := 124) hx hb dX10_told_117 (by decide) (fun c_117 => ?_) (fun c_117 => ?_)
                    · have hm := hm.1 c_117
                      refine lv_iconst (v := 0) hx hb dX10_told_124 (by decide) ?_
                      refine lv_goto (tgt := 171) hx hb dX10_told_125 (by decide) ?_
                      exact hend H locs ls 171 _ _ (0 : Int32) h (Nat.le_refl _) (Nat.le_refl _) rfl hm hP hD hS dX10_told_171
                    · have hm := hm.2 c_117
                      refine lv_iconst (v := 1) hx hb dX10_told_120 (by decide) ?_
                      refine lv_goto (tgt := 171) hx hb dX10_told_121 (by decide) ?_
                      exact hend H locs ls 171 _ _ (1 : Int32) h (Nat.le_refl _) (Nat.le_refl _) rfl hm hP hD hS dX10_told_171
                · have hm := hm.1 c_96
                  refine lv_aload_n hx hb dX10_told_99 rfl (lv_at hl 0 rfl) ?_
                  obtain ⟨wq100, fs100, g100, hq100, hv100, hm⟩ := hm
                  refine mr_get (ci := 10) (C := RX10) (T := TX10) (N := 17) hx hb hts hi_10 hown hK (mRd hK hP hZ hS) hq100 rfl 14 (by decide) (hts (.fieldLink RX10 41 "HubTrainsLaw$Table" "stock" "[I") ((List.mem_of_getElem? (i := 8) rfl))) (fun _ h9 => h9) hv100 dX10_told_100 ?_
                  obtain ⟨wq103, xx103, hq103, hm⟩ := hm
                  refine mr_alen hx hb hK (mRd hK hP hZ hS) 0 hq103 rfl dX10_told_103 (fun x103 ex103 => ?_)
                  have hm := hm x103 ex103
                  refine lv_goto (tgt := 171) hx hb dX10_told_104 (by decide) ?_
                  exact hend H locs ls 171 _ _ x103 h (Nat.le_refl _) (Nat.le_refl _) rfl hm hP hD hS dX10_told_171
              · have hm := hm.1 c_83
                refine lv_aload_n hx hb dX10_told_86 rfl (lv_at hl 0 rfl) ?_
                obtain ⟨wq87, fs87, g87, hq87, hv87, hm⟩ := hm
                refine mr_get (ci := 10) (C := RX10) (T := TX10) (N := 17) hx hb hts hi_10 hown hK (mRd hK hP hZ hS) hq87 rfl 6 (by decide) (hts (.fieldLink RX10 22 "HubTrainsLaw$Table" "cover" "I") ((List.mem_of_getElem? (i := 7) rfl))) (fun _ h9 => h9) hv87 dX10_told_87 ?_
                refine lv_goto (tgt := 171) hx hb dX10_told_90 (by decide) ?_
                exact hend H locs ls 171 _ _ g87 h (Nat.le_refl _) (Nat.le_refl _) rfl hm hP hD hS dX10_told_171
            · have hm := hm.1 c_62
              refine lv_aload_n hx hb dX10_told_65 rfl (lv_at hl 0 rfl) ?_
              obtain ⟨wq66, fs66, g66, hq66, hv66, hm⟩ := hm
              refine mr_get (ci := 10) (C := RX10) (T := TX10) (N := 17) hx hb hts hi_10 hown hK (mRd hK hP hZ hS) hq66 rfl 5 (by decide) (hts (.fieldLink RX10 52 "HubTrainsLaw$Table" "drew" "Z") ((List.mem_of_getElem? (i := 6) rfl))) (fun _ h9 => h9) hv66 dX10_told_66 ?_
              refine lv_if_eq (tgt := 76) hx hb dX10_told_69 (by decide) (fun c_69 => ?_) (fun c_69 => ?_)
              · have hm := hm.1 c_69
                refine lv_iconst (v := 0) hx hb dX10_told_76 (by decide) ?_
                refine lv_goto (tgt := 171) hx hb dX10_told_77 (by decide) ?_
                exact hend H locs ls 171 _ _ (0 : Int32) h (Nat.le_refl _) (Nat.le_refl _) rfl hm hP hD hS dX10_told_171
              · have hm := hm.2 c_69
                refine lv_iconst (v := 1) hx hb dX10_told_72 (by decide) ?_
                refine lv_goto (tgt := 171) hx hb dX10_told_73 (by decide) ?_
                exact hend H locs ls 171 _ _ (1 : Int32) h (Nat.le_refl _) (Nat.le_refl _) rfl hm hP hD hS dX10_told_171
          · have hm := hm.1 c_50
            refine lv_aload_n hx hb dX10_told_53 rfl (lv_at hl 0 rfl) ?_
            obtain ⟨wq54, fs54, g54, hq54, hv54, hm⟩ := hm
            refine mr_get (ci := 10) (C := RX10) (T := TX10) (N := 17) hx hb hts hi_10 hown hK (mRd hK hP hZ hS) hq54 rfl 4 (by decide) (hts (.fieldLink RX10 49 "HubTrainsLaw$Table" "turn" "I") ((List.mem_of_getElem? (i := 5) rfl))) (fun _ h9 => h9) hv54 dX10_told_54 ?_
            refine lv_goto (tgt := 171) hx hb dX10_told_57 (by decide) ?_
            exact hend H locs ls 171 _ _ g54 h (Nat.le_refl _) (Nat.le_refl _) rfl hm hP hD hS dX10_told_171
        · have hm := hm.1 c_38
          refine lv_aload_n hx hb dX10_told_41 rfl (lv_at hl 0 rfl) ?_
          obtain ⟨wq42, fs42, g42, hq42, hv42, hm⟩ := hm
          refine mr_get (ci := 10) (C := RX10) (T := TX10) (N := 17) hx hb hts hi_10 hown hK (mRd hK hP hZ hS) hq42 rfl 2 (by decide) (hts (.fieldLink RX10 16 "HubTrainsLaw$Table" "hub" "I") ((List.mem_of_getElem? (i := 4) rfl))) (fun _ h9 => h9) hv42 dX10_told_42 ?_
          refine lv_goto (tgt := 171) hx hb dX10_told_45 (by decide) ?_
          exact hend H locs ls 171 _ _ g42 h (Nat.le_refl _) (Nat.le_refl _) rfl hm hP hD hS dX10_told_171
      · have hm := hm.1 c_26
        refine lv_aload_n hx hb dX10_told_29 rfl (lv_at hl 0 rfl) ?_
        obtain ⟨wq30, fs30, g30, hq30, hv30, hm⟩ := hm
        refine mr_get (ci := 10) (C := RX10) (T := TX10) (N := 17) hx hb hts hi_10 hown hK (mRd hK hP hZ hS) hq30 rfl 1 (by decide) (hts (.fieldLink RX10 13 "HubTrainsLaw$Table" "handSize" "I") ((List.mem_of_getElem? (i := 3) rfl))) (fun _ h9 => h9) hv30 dX10_told_30 ?_
        refine lv_goto (tgt := 171) hx hb dX10_told_33 (by decide) ?_
        exact hend H locs ls 171 _ _ g30 h (Nat.le_refl _) (Nat.le_refl _) rfl hm hP hD hS dX10_told_171
    · have hm := hm.1 c_13
      refine lv_aload_n hx hb dX10_told_16 rfl (lv_at hl 0 rfl) ?_
      obtain ⟨wq17, fs17, g17, hq17, hv17, hm⟩ := hm
      refine mr_get (ci := 10) (C := RX10) (T := TX10) (N := 17) hx hb hts hi_10 hown hK (mRd hK hP hZ hS) hq17 rfl 10 (by decide) (hts (.fieldLink RX10 27 "HubTrainsLaw$Table" "hands" "[[I") ((List.mem_of_getElem? (i := 2) rfl))) (fun _ h9 => h9) hv17 dX10_told_17 ?_
      obtain ⟨wq20, xx20, hq20, hm⟩ := hm
      refine mr_alen hx hb hK (mRd hK hP hZ hS) 2 hq20 rfl dX10_told_20 (fun x20 ex20 => ?_)
      have hm := hm x20 ex20
      refine lv_goto (tgt := 171) hx hb dX10_told_21 (by decide) ?_
      exact hend H locs ls 171 _ _ x20 h (Nat.le_refl _) (Nat.le_refl _) rfl hm hP hD hS dX10_told_171
  · have hm := hm.1 c_1
    refine lv_aload_n hx hb dX10_told_4 rfl (lv_at hl 0 rfl) ?_
    obtain ⟨wq5, fs5, g5, hq5, hv5, hm⟩ := hm
    refine mr_get (ci := 10) (C := RX10) (T := TX10) (N := 17) hx hb hts hi_10 hown hK (mRd hK hP hZ hS) hq5 rfl 0 (by decide) (hts (.fieldLink RX10 7 "HubTrainsLaw$Table" "most" "I") ((List.mem_of_getElem? (i := 1) rfl))) (fun _ h9 => h9) hv5 dX10_told_5 ?_
    refine lv_goto (tgt := 171) hx hb dX10_told_8 (by decide) ?_
    exact hend H locs ls 171 _ _ g5 h (Nat.le_refl _) (Nat.le_refl _) rfl hm hP hD hS dX10_told_171

def w_X10_ofPlayer_J102 (c : Nat → ClassId) (K : (Nat → Nat) × (Nat → Nat)) (a0 : Nat) (a1 : Int32) (a2 : Int32) (post : Int32 → HW → Prop) (h_102 : HW) (v3_102 : Int32) : Prop :=
  (a2 = 0 → gR h_102 a0 10 10 (fun (g107 : Nat) => lR h_102 (c 2) g107 a1 (fun (x111 : Nat) => lenA h_102 (c 0) x111 (fun (x112 : Int32) => post x112 h_102)))) ∧ (¬ a2 = 0 → (a2 = (1 : Int32) → gR h_102 a0 10 10 (fun (g122 : Nat) => lR h_102 (c 2) g122 a1 (fun (x126 : Nat) => w_L_pips c K h_102 x126 (fun (r127 : Int32) (h127 : HW) => post r127 h127)))) ∧ (¬ a2 = (1 : Int32) → (a2 = (2 : Int32) → gR h_102 a0 10 11 (fun (g139 : Nat) => lI h_102 (c 0) g139 a1 (fun (x143 : Int32) => post x143 h_102))) ∧ (¬ a2 = (2 : Int32) → post v3_102 h_102)))

def w_X10_ofPlayer_J96 (c : Nat → ClassId) (K : (Nat → Nat) × (Nat → Nat)) (rec_31 : HW → Int32 → Int32 → Prop) (v6_31 : Int32) (h_51 : HW) (v3_96 : Int32) : Prop :=
  ∀ x96 : Int32, x96 = (v6_31 + 1) → (rec_31 h_51 v3_96 x96)

def w_X10_ofPlayer_J79 (c : Nat → ClassId) (K : (Nat → Nat) × (Nat → Nat)) (rec_51 : HW → Int32 → Int32 → Prop) (v9_51 : Int32) (h68 : HW) (s0_79 : Int32) (s1_79 : Int32) : Prop :=
  ∀ x79 : Int32, x79 = s1_79 ||| s0_79 → (∀ x82 : Int32, x82 = (v9_51 + 1) → (rec_51 h68 x79 x82))

def w_X10_ofPlayer_B51 (c : Nat → ClassId) (K : (Nat → Nat) × (Nat → Nat)) (a0 : Nat) (rec_31 : HW → Int32 → Int32 → Prop) (v3_31 : Int32) (v6_31 : Int32) (x42 : Int32) (rec_51 : HW → Int32 → Int32 → Prop) (h_51 : HW) (v8_51 : Int32) (v9_51 : Int32) : Prop :=
  gR h_51 a0 10 12 (fun (g54 : Nat) => lenA h_51 (c 2) g54 (fun (x57 : Int32) => (x57 ≤ v9_51 → (v8_51 = 0 → w_X10_ofPlayer_J96 c K rec_31 v6_31 h_51 v3_31) ∧ (¬ v8_51 = 0 → ∀ x93 : Int32, x93 = (v3_31 + 1) → (w_X10_ofPlayer_J96 c K rec_31 v6_31 h_51 x93))) ∧ (¬ x57 ≤ v9_51 → (∃ w fs, h_51 a0 = some (w, .inr (10, fs))) ∧ w_X10_why c K h_51 a0 x42 v9_51 (fun (r68 : Int32) (h68 : HW) => (r68 = 0 → w_X10_ofPlayer_J79 c K rec_51 v9_51 h68 (1 : Int32) v8_51) ∧ (¬ r68 = 0 → w_X10_ofPlayer_J79 c K rec_51 v9_51 h68 (0 : Int32) v8_51)))))

def w_X10_ofPlayer_B31 (c : Nat → ClassId) (K : (Nat → Nat) × (Nat → Nat)) (a0 : Nat) (a1 : Int32) (a2 : Int32) (post : Int32 → HW → Prop) (x20 : Nat) (x25 : Int32) (rec_31 : HW → Int32 → Int32 → Prop) (h_31 : HW) (v3_31 : Int32) (v6_31 : Int32) : Prop :=
  (x25 ≤ v6_31 → w_X10_ofPlayer_J102 c K a0 a1 a2 post h_31 v3_31) ∧ (¬ x25 ≤ v6_31 → lI h_31 (c 0) x20 v6_31 (fun (x42 : Int32) => ∃ n_51 : Nat, itP3 (w_X10_ofPlayer_B51 c K a0 rec_31 v3_31 v6_31 x42) n_51 h_31 (0 : Int32) (0 : Int32)))

def w_X10_ofPlayer (c : Nat → ClassId) (K : (Nat → Nat) × (Nat → Nat)) (h : HW) (a0 : Nat) (a1 : Int32) (a2 : Int32) (post : Int32 → HW → Prop) : Prop :=
  (a2 = (3 : Int32) → gI h a0 10 4 (fun (g9 : Int32) => (a1 = g9 → gR h a0 10 10 (fun (g16 : Nat) => lR h (c 2) g16 a1 (fun (x20 : Nat) => lenA h (c 0) x20 (fun (x25 : Int32) => ∃ n_31 : Nat, itP3 (w_X10_ofPlayer_B31 c K a0 a1 a2 post x20 x25) n_31 h (0 : Int32) (0 : Int32))))) ∧ (¬ a1 = g9 → w_X10_ofPlayer_J102 c K a0 a1 a2 post h (0 : Int32)))) ∧ (¬ a2 = (3 : Int32) → w_X10_ofPlayer_J102 c K a0 a1 a2 post h (0 : Int32))

abbrev rm_X10_ofPlayer : Room := { frames := 2, cells := 0, slots := 0, locals := 48 }
theorem he_X10_ofPlayer : yX10_ofPlayer.cls ≠ "java/lang/invoke/MethodHandle" ∧ yX10_ofPlayer.cls ≠ "java/lang/invoke/VarHandle" ∧ (parseMethodDescriptor yX10_ofPlayer.desc).map (fun d => d.parameters.length) = some 2 := by decide +kernel
theorem heV_X10_ofPlayer : yX10_ofPlayer.cls = RX10 ∧ yX10_ofPlayer.cls ≠ "java/lang/invoke/MethodHandle" ∧ yX10_ofPlayer.cls ≠ "java/lang/invoke/VarHandle" ∧ (parseMethodDescriptor yX10_ofPlayer.desc).map (fun d => d.parameters.length) = some 2 := by decide +kernel
set_option maxHeartbeats 4000000 in
set_option maxRecDepth 100000 in
theorem h_X10_ofPlayer (l : Launch) (G : va_G) (K : (Nat → Nat) × (Nat → Nat)) (c : Nat → ClassId) (h : HW) (a0 : Nat) (a1 : Int32) (a2 : Int32) (post : Int32 → HW → Prop) (hm : w_X10_ofPlayer c K h a0 a1 a2 post) : hMi l yX10_ofPlayer wsX10_ofPlayer (rm_X10_ofPlayer) G K (TY c) [.ref a0, .int a1, .int a2] h 0 0 post := by
  refine hMi.of (cc := cX10_ofPlayer) (maxL := 10) (lv := [(0, .ref a0), (1, .int a1), (2, .int a2)]) (by decide) rfl (Nat.le_of_ble_eq_true rfl) rfl ?_
  intro p e s m args below meth c1 A Q H locs hx hb hml hown hmn hts hK hN hZ hXX hP hD hA hS hend ls hl
  have hown : s.vm.findClass RX10 = some m.cls := hown
  have hi_10 : ∀ w ∈ u_ws RX10 TX10 17, w ∈ wsX10_ofPlayer := fun w h => (fun w h => List.mem_cons_of_mem _ (List.mem_append_right _ (h))) w h
  unfold w_X10_ofPlayer at hm
  refine lv_iconst (v := 0) hx hb dX10_ofPlayer_0 (by decide) ?_
  refine lv_istore_n (lv' := [(3, .int (0 : Int32)), (0, .ref a0), (1, .int a1), (2, .int a2)]) hx hb dX10_ofPlayer_1 rfl hl (by decide) rfl (fun ls hl => ?_)
  refine lv_iload_n hx hb dX10_ofPlayer_2 rfl (lv_at hl 3 rfl) ?_
  refine lv_iconst (v := 3) hx hb dX10_ofPlayer_3 (by decide) ?_
  have J_102 : ∀ (h_102 : HW) (v3_102 : Int32) (H : Heap) (locs : List Loc) (ls : Array Slot), mP G K h_102 H → mD A h_102 → va_S A s.heap H locs → lv_has ls 10 [(0, .ref a0), (1, .int a1), (2, .int a2), (3, .int v3_102)] → w_X10_ofPlayer_J102 c K a0 a1 a2 post h_102 v3_102 → W p l e (rm_X10_ofPlayer) s m args below meth c1 H locs 0 0 Q (F0 m 102 ls []) := by
    intro h_102 v3_102 H locs ls hP hD hS hl hm
    unfold w_X10_ofPlayer_J102 at hm
    refine lv_iload_n hx hb dX10_ofPlayer_102 rfl (lv_at hl 2 rfl) ?_
    refine lv_if_ne (tgt := 116) hx hb dX10_ofPlayer_103 (by decide) (fun c_103 => ?_) (fun c_103 => ?_)
    · have hm := hm.2 c_103
      refine lv_iload_n hx hb dX10_ofPlayer_116 rfl (lv_at hl 2 rfl) ?_
      refine lv_iconst (v := 1) hx hb dX10_ofPlayer_117 (by decide) ?_
      refine lv_icmp_ne (tgt := 133) hx hb dX10_ofPlayer_118 (by decide) (fun c_118 => ?_) (fun c_118 => ?_)
      · have hm := hm.2 c_118
        refine lv_iload_n hx hb dX10_ofPlayer_133 rfl (lv_at hl 2 rfl) ?_
        refine lv_iconst (v := 2) hx hb dX10_ofPlayer_134 (by decide) ?_
        refine lv_icmp_ne (tgt := 147) hx hb dX10_ofPlayer_135 (by decide) (fun c_135 => ?_) (fun c_135 => ?_)
        · have hm := hm.2 c_135
          refine lv_iload_n hx hb dX10_ofPlayer_147 rfl (lv_at hl 3 rfl) ?_
          exact hend H locs ls 148 _ _ v3_102 h_102 (Nat.le_refl _) (Nat.le_refl _) rfl hm hP hD hS dX10_ofPlayer_148
        · have hm := hm.1 c_135
          refine lv_aload_n hx hb dX10_ofPlayer_138 rfl (lv_at hl 0 rfl) ?_
          obtain ⟨wq139, fs139, g139, hq139, hv139, hm⟩ := hm
          refine mr_get (ci := 10) (C := RX10) (T := TX10) (N := 17) hx hb hts hi_10 hown hK (mRd hK hP hZ hS) hq139 rfl 11 (by decide) (hts (.fieldLink RX10 30 "HubTrainsLaw$Table" "totals" "[I") ((List.mem_of_getElem? (i := 4) rfl))) (fun _ h9 => h9) hv139 dX10_ofPlayer_139 ?_
          refine lv_iload_n hx hb dX10_ofPlayer_142 rfl (lv_at hl 1 rfl) ?_
          obtain ⟨wq143, n143, f143, hq143, hi143, hm⟩ := hm
          refine mr_iald hx hb hK (mRd hK hP hZ hS) 0 hq143 rfl hi143 dX10_ofPlayer_143 (fun x143 ex143 => ?_)
          have hm := hm x143 ex143
          refine lv_goto (tgt := 148) hx hb dX10_ofPlayer_144 (by decide) ?_
          exact hend H locs ls 148 _ _ x143 h_102 (Nat.le_refl _) (Nat.le_refl _) rfl hm hP hD hS dX10_ofPlayer_148
      · have hm := hm.1 c_118
        refine lv_aload_n hx hb dX10_ofPlayer_121 rfl (lv_at hl 0 rfl) ?_
        obtain ⟨wq122, fs122, g122, hq122, hv122, hm⟩ := hm
        refine mr_get (ci := 10) (C := RX10) (T := TX10) (N := 17) hx hb hts hi_10 hown hK (mRd hK hP hZ hS) hq122 rfl 10 (by decide) (hts (.fieldLink RX10 27 "HubTrainsLaw$Table" "hands" "[[I") ((List.mem_of_getElem? (i := 2) rfl))) (fun _ h9 => h9) hv122 dX10_ofPlayer_122 ?_
        refine lv_iload_n hx hb dX10_ofPlayer_125 rfl (lv_at hl 1 rfl) ?_
        obtain ⟨wq126, n126, f126, x126, hq126, hi126, hv126, hm⟩ := hm
        refine mr_aldq (ty := (.array .int)) hx hb hK (mRd hK hP hZ hS) 2 rfl hq126 rfl hi126 dX10_ofPlayer_126 (fun o126 eo126 => ?_)
        obtain rfl := eo126.trans hv126
        refine hcSNi (As := [.ref x126]) (rest := []) ⟨hx, hb, hml, hown, hts⟩ (h_L_pips l G K c h_102 x126 _ hm) ⟨va_cnB 1 hts gX10_ofPlayer_L_pips_n110 rfl rfl rfl (nwm_HubTrainsLaw_Table_110 hN.2.1) (hts (.initialized RL) ((List.mem_of_getElem? (i := 14) rfl))) he_L_pips ⟨Nat.le_of_ble_eq_true rfl, Nat.le_of_ble_eq_true rfl⟩, (hts (.static yL_pips) ((List.mem_of_getElem? (i := 21) rfl))), trivial⟩ hK hN hZ hXX hP hD hS hA rfl hl.1 rfl (Nat.le_of_ble_eq_true rfl) dX10_ofPlayer_127 ⟨Nat.le_refl _, Nat.le_refl _⟩ (fun r127 h127 H locs hm hP hD hS => ?_)
        refine lv_goto (tgt := 148) hx hb dX10_ofPlayer_130 (by decide) ?_
        exact hend H locs ls 148 _ _ r127 h127 (Nat.le_refl _) (Nat.le_refl _) rfl hm hP hD hS dX10_ofPlayer_148
    · have hm := hm.1 c_103
      refine lv_aload_n hx hb dX10_ofPlayer_106 rfl (lv_at hl 0 rfl) ?_
      obtain ⟨wq107, fs107, g107, hq107, hv107, hm⟩ := hm
      refine mr_get (ci := 10) (C := RX10) (T := TX10) (N := 17) hx hb hts hi_10 hown hK (mRd hK hP hZ hS) hq107 rfl 10 (by decide) (hts (.fieldLink RX10 27 "HubTrainsLaw$Table" "hands" "[[I") ((List.mem_of_getElem? (i := 2) rfl))) (fun _ h9 => h9) hv107 dX10_ofPlayer_107 ?_
      refine lv_iload_n hx hb dX10_ofPlayer_110 rfl (lv_at hl 1 rfl) ?_
      obtain ⟨wq111, n111, f111, x111, hq111, hi111, hv111, hm⟩ := hm
      refine mr_aldq (ty := (.array .int)) hx hb hK (mRd hK hP hZ hS) 2 rfl hq111 rfl hi111 dX10_ofPlayer_111 (fun o111 eo111 => ?_)
      obtain rfl := eo111.trans hv111
      obtain ⟨wq112, xx112, hq112, hm⟩ := hm
      refine mr_alen hx hb hK (mRd hK hP hZ hS) 0 hq112 rfl dX10_ofPlayer_112 (fun x112 ex112 => ?_)
      have hm := hm x112 ex112
      refine lv_goto (tgt := 148) hx hb dX10_ofPlayer_113 (by decide) ?_
      exact hend H locs ls 148 _ _ x112 h_102 (Nat.le_refl _) (Nat.le_refl _) rfl hm hP hD hS dX10_ofPlayer_148
  refine lv_icmp_ne (tgt := 102) hx hb dX10_ofPlayer_4 (by decide) (fun c_4 => ?_) (fun c_4 => ?_)
  · have hm := hm.2 c_4
    exact J_102 h (0 : Int32) H locs ls hP hD hS (lv_sub hl [1, 2, 3, 0] rfl) hm
  · have hm := hm.1 c_4
    refine lv_iload_n hx hb dX10_ofPlayer_7 rfl (lv_at hl 2 rfl) ?_
    refine lv_aload_n hx hb dX10_ofPlayer_8 rfl (lv_at hl 1 rfl) ?_
    obtain ⟨wq9, fs9, g9, hq9, hv9, hm⟩ := hm
    refine mr_get (ci := 10) (C := RX10) (T := TX10) (N := 17) hx hb hts hi_10 hown hK (mRd hK hP hZ hS) hq9 rfl 4 (by decide) (hts (.fieldLink RX10 49 "HubTrainsLaw$Table" "turn" "I") ((List.mem_of_getElem? (i := 1) rfl))) (fun _ h9 => h9) hv9 dX10_ofPlayer_9 ?_
    refine lv_icmp_ne (tgt := 102) hx hb dX10_ofPlayer_12 (by decide) (fun c_12 => ?_) (fun c_12 => ?_)
    · have hm := hm.2 c_12
      exact J_102 h (0 : Int32) H locs ls hP hD hS (lv_sub hl [1, 2, 3, 0] rfl) hm
    · have hm := hm.1 c_12
      refine lv_aload_n hx hb dX10_ofPlayer_15 rfl (lv_at hl 1 rfl) ?_
      obtain ⟨wq16, fs16, g16, hq16, hv16, hm⟩ := hm
      refine mr_get (ci := 10) (C := RX10) (T := TX10) (N := 17) hx hb hts hi_10 hown hK (mRd hK hP hZ hS) hq16 rfl 10 (by decide) (hts (.fieldLink RX10 27 "HubTrainsLaw$Table" "hands" "[[I") ((List.mem_of_getElem? (i := 2) rfl))) (fun _ h9 => h9) hv16 dX10_ofPlayer_16 ?_
      refine lv_iload_n hx hb dX10_ofPlayer_19 rfl (lv_at hl 2 rfl) ?_
      obtain ⟨wq20, n20, f20, x20, hq20, hi20, hv20, hm⟩ := hm
      refine mr_aldq (ty := (.array .int)) hx hb hK (mRd hK hP hZ hS) 2 rfl hq20 rfl hi20 dX10_ofPlayer_20 (fun o20 eo20 => ?_)
      obtain rfl := eo20.trans hv20
      refine lv_astore (lv' := [(4, .ref x20), (3, .int (0 : Int32)), (0, .ref a0), (1, .int a1), (2, .int a2)]) hx hb dX10_ofPlayer_21 hl (by decide) rfl (fun ls hl => ?_)
      refine lv_aload hx hb dX10_ofPlayer_23 (lv_at hl 0 rfl) ?_
      obtain ⟨wq25, xx25, hq25, hm⟩ := hm
      refine mr_alen hx hb hK (mRd hK hP hZ hS) 0 hq25 rfl dX10_ofPlayer_25 (fun x25 ex25 => ?_)
      have hm := hm x25 ex25
      refine lv_istore (lv' := [(5, .int x25), (4, .ref x20), (3, .int (0 : Int32)), (0, .ref a0), (1, .int a1), (2, .int a2)]) hx hb dX10_ofPlayer_26 hl (by decide) rfl (fun ls hl => ?_)
      refine lv_iconst (v := 0) hx hb dX10_ofPlayer_28 (by decide) ?_
      refine lv_istore (lv' := [(6, .int (0 : Int32)), (5, .int x25), (4, .ref x20), (3, .int (0 : Int32)), (0, .ref a0), (1, .int a1), (2, .int a2)]) hx hb dX10_ofPlayer_29 hl (by decide) rfl (fun ls hl => ?_)
      obtain ⟨n_31, hm⟩ := hm
      have L_31 : ∀ (n_31 : Nat) (h_31 : HW) (v3_31 : Int32) (v6_31 : Int32) (H : Heap) (locs : List Loc) (ls : Array Slot), mP G K h_31 H → mD A h_31 → va_S A s.heap H locs → lv_has ls 10 [(0, .ref a0), (1, .int a1), (2, .int a2), (3, .int v3_31), (4, .ref x20), (5, .int x25), (6, .int v6_31)] → itP3 (w_X10_ofPlayer_B31 c K a0 a1 a2 post x20 x25) n_31 h_31 v3_31 v6_31 → W p l e (rm_X10_ofPlayer) s m args below meth c1 H locs 0 0 Q (F0 m 31 ls []) := by
        intro n_31
        induction n_31 with
        | zero => intro h_31 v3_31 v6_31 H locs ls hP hD hS hl hm; exact hm.elim
        | succ n_31 ih_31 =>
          intro h_31 v3_31 v6_31 H locs ls hP hD hS hl hm
          have hm : (w_X10_ofPlayer_B31 c K a0 a1 a2 post x20 x25) (itP3 (w_X10_ofPlayer_B31 c K a0 a1 a2 post x20 x25) n_31) h_31 v3_31 v6_31 := hm
          generalize itP3 (w_X10_ofPlayer_B31 c K a0 a1 a2 post x20 x25) n_31 = rec_31 at hm ih_31
          unfold w_X10_ofPlayer_B31 at hm
          refine lv_iload hx hb dX10_ofPlayer_31 (lv_at hl 6 rfl) ?_
          refine lv_iload hx hb dX10_ofPlayer_33 (lv_at hl 5 rfl) ?_
          refine lv_icmp_ge (tgt := 102) hx hb dX10_ofPlayer_35 (by decide) (fun c_35 => ?_) (fun c_35 => ?_)
          · have hm := hm.1 c_35
            exact J_102 h_31 v3_31 H locs ls hP hD hS (lv_sub hl [0, 1, 2, 3] rfl) hm
          · have hm := hm.2 c_35
            refine lv_aload hx hb dX10_ofPlayer_38 (lv_at hl 4 rfl) ?_
            refine lv_iload hx hb dX10_ofPlayer_40 (lv_at hl 6 rfl) ?_
            obtain ⟨wq42, n42, f42, hq42, hi42, hm⟩ := hm
            refine mr_iald hx hb hK (mRd hK hP hZ hS) 0 hq42 rfl hi42 dX10_ofPlayer_42 (fun x42 ex42 => ?_)
            have hm := hm x42 ex42
            refine lv_istore (lv' := [(7, .int x42), (0, .ref a0), (1, .int a1), (2, .int a2), (3, .int v3_31), (4, .ref x20), (5, .int x25), (6, .int v6_31)]) hx hb dX10_ofPlayer_43 hl (by decide) rfl (fun ls hl => ?_)
            refine lv_iconst (v := 0) hx hb dX10_ofPlayer_45 (by decide) ?_
            refine lv_istore (lv' := [(8, .int (0 : Int32)), (7, .int x42), (0, .ref a0), (1, .int a1), (2, .int a2), (3, .int v3_31), (4, .ref x20), (5, .int x25), (6, .int v6_31)]) hx hb dX10_ofPlayer_46 hl (by decide) rfl (fun ls hl => ?_)
            refine lv_iconst (v := 0) hx hb dX10_ofPlayer_48 (by decide) ?_
            refine lv_istore (lv' := [(9, .int (0 : Int32)), (8, .int (0 : Int32)), (7, .int x42), (0, .ref a0), (1, .int a1), (2, .int a2), (3, .int v3_31), (4, .ref x20), (5, .int x25), (6, .int v6_31)]) hx hb dX10_ofPlayer_49 hl (by decide) rfl (fun ls hl => ?_)
            obtain ⟨n_51, hm⟩ := hm
            have L_51 : ∀ (n_51 : Nat) (h_51 : HW) (v8_51 : Int32) (v9_51 : Int32) (H : Heap) (locs : List Loc) (ls : Array Slot), mP G K h_51 H → mD A h_51 → va_S A s.heap H locs → lv_has ls 10 [(0, .ref a0), (1, .int a1), (2, .int a2), (3, .int v3_31), (4, .ref x20), (5, .int x25), (6, .int v6_31), (7, .int x42), (8, .int v8_51), (9, .int v9_51)] → itP3 (w_X10_ofPlayer_B51 c K a0 rec_31 v3_31 v6_31 x42) n_51 h_51 v8_51 v9_51 → W p l e (rm_X10_ofPlayer) s m args below meth c1 H locs 0 0 Q (F0 m 51 ls []) := by
              intro n_51
              induction n_51 with
              | zero => intro h_51 v8_51 v9_51 H locs ls hP hD hS hl hm; exact hm.elim
              | succ n_51 ih_51 =>
                intro h_51 v8_51 v9_51 H locs ls hP hD hS hl hm
                have hm : (w_X10_ofPlayer_B51 c K a0 rec_31 v3_31 v6_31 x42) (itP3 (w_X10_ofPlayer_B51 c K a0 rec_31 v3_31 v6_31 x42) n_51) h_51 v8_51 v9_51 := hm
                generalize itP3 (w_X10_ofPlayer_B51 c K a0 rec_31 v3_31 v6_31 x42) n_51 = rec_51 at hm ih_51
                unfold w_X10_ofPlayer_B51 at hm
                refine lv_iload hx hb dX10_ofPlayer_51 (lv_at hl 9 rfl) ?_
                refine lv_aload_n hx hb dX10_ofPlayer_53 rfl (lv_at hl 0 rfl) ?_
                obtain ⟨wq54, fs54, g54, hq54, hv54, hm⟩ := hm
                refine mr_get (ci := 10) (C := RX10) (T := TX10) (N := 17) hx hb hts hi_10 hown hK (mRd hK hP hZ hS) hq54 rfl 12 (by decide) (hts (.fieldLink RX10 34 "HubTrainsLaw$Table" "trains" "[[I") ((List.mem_of_getElem? (i := 3) rfl))) (fun _ h9 => h9) hv54 dX10_ofPlayer_54 ?_
                obtain ⟨wq57, xx57, hq57, hm⟩ := hm
                refine mr_alen hx hb hK (mRd hK hP hZ hS) 2 hq57 rfl dX10_ofPlayer_57 (fun x57 ex57 => ?_)
                have hm := hm x57 ex57
                refine lv_icmp_ge (tgt := 88) hx hb dX10_ofPlayer_58 (by decide) (fun c_58 => ?_) (fun c_58 => ?_)
                · have hm := hm.1 c_58
                  refine lv_iload hx hb dX10_ofPlayer_88 (lv_at hl 8 rfl) ?_
                  have J_96 : ∀ (v3_96 : Int32) (H : Heap) (locs : List Loc) (ls : Array Slot), mP G K h_51 H → mD A h_51 → va_S A s.heap H locs → lv_has ls 10 [(0, .ref a0), (1, .int a1), (2, .int a2), (3, .int v3_96), (4, .ref x20), (5, .int x25), (6, .int v6_31)] → w_X10_ofPlayer_J96 c K rec_31 v6_31 h_51 v3_96 → W p l e (rm_X10_ofPlayer) s m args below meth c1 H locs 0 0 Q (F0 m 96 ls []) := by
                    intro v3_96 H locs ls hP hD hS hl hm
                    unfold w_X10_ofPlayer_J96 at hm
                    obtain ⟨x96, ex96⟩ : ∃ z : Int32, z = (v6_31 + 1) := ⟨_, rfl⟩
                    have hm := hm x96 ex96
                    refine lv_iinc (k := 6) (v := x96) (lv' := [(6, .int x96), (0, .ref a0), (1, .int a1), (2, .int a2), (3, .int v3_96), (4, .ref x20), (5, .int x25)]) hx hb dX10_ofPlayer_96 hl rfl ex96.symm (by decide) rfl (fun ls hl => ?_)
                    refine lv_goto (tgt := 31) hx hb dX10_ofPlayer_99 (by decide) ?_
                    exact ih_31 h_51 v3_96 x96 H locs ls hP hD hS (lv_sub hl [1, 2, 3, 4, 5, 6, 0] rfl) hm
                  refine lv_if_eq (tgt := 96) hx hb dX10_ofPlayer_90 (by decide) (fun c_90 => ?_) (fun c_90 => ?_)
                  · have hm := hm.1 c_90
                    exact J_96 v3_31 H locs ls hP hD hS (lv_sub hl [0, 1, 2, 3, 4, 5, 6] rfl) hm
                  · have hm := hm.2 c_90
                    obtain ⟨x93, ex93⟩ : ∃ z : Int32, z = (v3_31 + 1) := ⟨_, rfl⟩
                    have hm := hm x93 ex93
                    refine lv_iinc (k := 3) (v := x93) (lv' := [(3, .int x93), (0, .ref a0), (1, .int a1), (2, .int a2), (4, .ref x20), (5, .int x25), (6, .int v6_31), (7, .int x42), (8, .int v8_51), (9, .int v9_51)]) hx hb dX10_ofPlayer_93 hl rfl ex93.symm (by decide) rfl (fun ls hl => ?_)
                    exact J_96 x93 H locs ls hP hD hS (lv_sub hl [1, 2, 3, 0, 4, 5, 6] rfl) hm
                · have hm := hm.2 c_58
                  refine lv_iload hx hb dX10_ofPlayer_61 (lv_at hl 8 rfl) ?_
                  refine lv_aload_n hx hb dX10_ofPlayer_63 rfl (lv_at hl 0 rfl) ?_
                  refine lv_iload hx hb dX10_ofPlayer_64 (lv_at hl 7 rfl) ?_
                  refine lv_iload hx hb dX10_ofPlayer_66 (lv_at hl 9 rfl) ?_
                  obtain ⟨⟨wr68, fr68, hrq68⟩, hm⟩ := hm
                  refine hcVi (As := [.int x42, .int v9_51]) (rest := [.int v8_51]) ⟨hx, hb, hml, hown, hts⟩ (h_X10_why l G K c h_51 a0 x42 v9_51 _ hm) (cwV 2 hts gX10_ofPlayer_X10_why rfl rfl rfl (heV_X10_why) ⟨Nat.le_of_ble_eq_true rfl, Nat.le_of_ble_eq_true rfl⟩) hK hN hZ hXX hP hD hS hA (mr_recv hK (mRd hK hP hZ hS) (ci := 10) rfl hrq68) rfl hl.1 rfl (Nat.le_of_ble_eq_true rfl) dX10_ofPlayer_68 ⟨Nat.le_refl _, Nat.le_refl _⟩ (fun r68 h68 H locs hm hP hD hS => ?_)
                  have J_79 : ∀ (s0_79 : Int32) (s1_79 : Int32) (H : Heap) (locs : List Loc) (ls : Array Slot), mP G K h68 H → mD A h68 → va_S A s.heap H locs → lv_has ls 10 [(0, .ref a0), (1, .int a1), (2, .int a2), (3, .int v3_31), (4, .ref x20), (5, .int x25), (6, .int v6_31), (7, .int x42), (9, .int v9_51)] → w_X10_ofPlayer_J79 c K rec_51 v9_51 h68 s0_79 s1_79 → W p l e (rm_X10_ofPlayer) s m args below meth c1 H locs 0 0 Q (F0 m 79 ls [.int s0_79, .int s1_79]) := by
                    intro s0_79 s1_79 H locs ls hP hD hS hl hm
                    unfold w_X10_ofPlayer_J79 at hm
                    refine lv_ior hx hb dX10_ofPlayer_79 ?_
                    refine lv_topi (fun x79 ex79 => ?_)
                    have hm := hm x79 ex79
                    refine lv_istore (lv' := [(8, .int x79), (0, .ref a0), (1, .int a1), (2, .int a2), (3, .int v3_31), (4, .ref x20), (5, .int x25), (6, .int v6_31), (7, .int x42), (9, .int v9_51)]) hx hb dX10_ofPlayer_80 hl (by decide) rfl (fun ls hl => ?_)
                    obtain ⟨x82, ex82⟩ : ∃ z : Int32, z = (v9_51 + 1) := ⟨_, rfl⟩
                    have hm := hm x82 ex82
                    refine lv_iinc (k := 9) (v := x82) (lv' := [(9, .int x82), (8, .int x79), (0, .ref a0), (1, .int a1), (2, .int a2), (3, .int v3_31), (4, .ref x20), (5, .int x25), (6, .int v6_31), (7, .int x42)]) hx hb dX10_ofPlayer_82 hl rfl ex82.symm (by decide) rfl (fun ls hl => ?_)
                    refine lv_goto (tgt := 51) hx hb dX10_ofPlayer_85 (by decide) ?_
                    exact ih_51 h68 x79 x82 H locs ls hP hD hS (lv_sub hl [2, 3, 4, 5, 6, 7, 8, 9, 1, 0] rfl) hm
                  refine lv_if_ne (tgt := 78) hx hb dX10_ofPlayer_71 (by decide) (fun c_71 => ?_) (fun c_71 => ?_)
                  · have hm := hm.2 c_71
                    refine lv_iconst (v := 0) hx hb dX10_ofPlayer_78 (by decide) ?_
                    exact J_79 (0 : Int32) v8_51 H locs ls hP hD hS (lv_sub hl [0, 1, 2, 3, 4, 5, 6, 7, 9] rfl) hm
                  · have hm := hm.1 c_71
                    refine lv_iconst (v := 1) hx hb dX10_ofPlayer_74 (by decide) ?_
                    refine lv_goto (tgt := 79) hx hb dX10_ofPlayer_75 (by decide) ?_
                    exact J_79 (1 : Int32) v8_51 H locs ls hP hD hS (lv_sub hl [0, 1, 2, 3, 4, 5, 6, 7, 9] rfl) hm
            exact L_51 n_51 h_31 (0 : Int32) (0 : Int32) H locs ls hP hD hS (lv_sub hl [3, 4, 5, 6, 7, 8, 9, 2, 1, 0] rfl) hm
      exact L_31 n_31 h (0 : Int32) (0 : Int32) H locs ls hP hD hS (lv_sub hl [4, 5, 6, 3, 2, 1, 0] rfl) hm

def w_X10_sorted_J31 (c : Nat → ClassId) (K : (Nat → Nat) × (Nat → Nat)) (rec_6 : HW → Nat → Nat → Nat → Int32 → Prop) (v3_6 : Int32) (h_31 : HW) (mc_31 ms_31 : Nat) (v2_31 : Nat) : Prop :=
  ∀ x31 : Int32, x31 = (v3_6 + 1) → (rec_6 h_31 mc_31 ms_31 v2_31 x31)

def w_X10_sorted_B6 (c : Nat → ClassId) (K : (Nat → Nat) × (Nat → Nat)) (a0 : Nat) (a1 : Int32) (post : Option Nat → HW → Prop) (rec_6 : HW → Nat → Nat → Nat → Int32 → Prop) (h_6 : HW) (mc_6 : Nat) (ms_6 : Nat) (v2_6 : Nat) (v3_6 : Int32) : Prop :=
  ((100 : Int32) ≤ v3_6 → post (some v2_6) h_6) ∧ (¬ (100 : Int32) ≤ v3_6 → gR h_6 a0 10 10 (fun (g13 : Nat) => lR h_6 (c 2) g13 a1 (fun (x17 : Nat) => w_L_has c K h_6 x17 v3_6 (fun (r19 : Int32) (h19 : HW) => (r19 = 0 → w_X10_sorted_J31 c K rec_6 v3_6 h19 mc_6 ms_6 v2_6) ∧ (¬ r19 = 0 → (∃ m27 z27 mB27 zB27 : Nat, mc_6 = m27 + mB27 ∧ ms_6 = z27 + zB27 ∧ w_L_with c K h19 v2_6 v3_6 m27 z27 (fun (r27 : Option Nat) (h27 : HW) => dRf r27 (fun (a27 : Nat) => w_X10_sorted_J31 c K rec_6 v3_6 h27 mB27 zB27 a27))))))))

def w_X10_sorted (c : Nat → ClassId) (K : (Nat → Nat) × (Nat → Nat)) (h : HW) (a0 : Nat) (a1 : Int32) (mc ms : Nat) (post : Option Nat → HW → Prop) : Prop :=
  nwI h (c 0) (0 : Int32) mc ms (fun (q1 : Nat) (h1 : HW) (mB1 zB1 : Nat) => ∃ n_6 : Nat, itP5 (w_X10_sorted_B6 c K a0 a1 post) n_6 h1 mB1 zB1 q1 (0 : Int32))

abbrev rm_X10_sorted (mc ms : Nat) : Room := { frames := 1, cells := mc, slots := ms, locals := 26 }
theorem he_X10_sorted : yX10_sorted.cls ≠ "java/lang/invoke/MethodHandle" ∧ yX10_sorted.cls ≠ "java/lang/invoke/VarHandle" ∧ (parseMethodDescriptor yX10_sorted.desc).map (fun d => d.parameters.length) = some 1 := by decide +kernel
theorem heV_X10_sorted : yX10_sorted.cls = RX10 ∧ yX10_sorted.cls ≠ "java/lang/invoke/MethodHandle" ∧ yX10_sorted.cls ≠ "java/lang/invoke/VarHandle" ∧ (parseMethodDescriptor yX10_sorted.desc).map (fun d => d.parameters.length) = some 1 := by decide +kernel
set_option maxHeartbeats 4000000 in
set_option maxRecDepth 100000 in
theorem h_X10_sorted (l : Launch) (G : va_G) (K : (Nat → Nat) × (Nat → Nat)) (c : Nat → ClassId) (h : HW) (a0 : Nat) (a1 : Int32) (mc ms : Nat) (post : Option Nat → HW → Prop) (hm : w_X10_sorted c K h a0 a1 mc ms post) : hMq l yX10_sorted wsX10_sorted (rm_X10_sorted mc ms) G K (TY c) [.ref a0, .int a1] h mc ms post := by
  refine hMq.of (Or.inr ⟨_, rfl⟩) (cc := cX10_sorted) (maxL := 4) (lv := [(0, .ref a0), (1, .int a1)]) (by decide) rfl (Nat.le_of_ble_eq_true rfl) rfl ?_
  intro p e s m args below meth c1 A Q H locs hx hb hml hown hmn hts hK hN hZ hXX hP hD hA hS hend ls hl
  have hown : s.vm.findClass RX10 = some m.cls := hown
  have hi_10 : ∀ w ∈ u_ws RX10 TX10 17, w ∈ wsX10_sorted := fun w h => (fun w h => List.mem_cons_of_mem _ (List.mem_append_right _ (h))) w h
  unfold w_X10_sorted at hm
  have hf : 0 + mc ≤ mc ∧ 0 + ms ≤ ms := ⟨by omega, by omega⟩
  refine lv_iconst (v := 0) hx hb dX10_sorted_0 (by decide) ?_
  obtain ⟨hn1, hb1, mB1, zB1, hc1, hs1, hm⟩ := hm
  refine mr_newa (atype := .int) (a0 := (fun N => (N, .inl (fun _ => 0)))) hx hb (hts (.arrayClass .int) ((List.mem_of_getElem? (i := 1) rfl))) hK 0 rfl hP hD hS hA (fun _ => rfl) hn1 (c65 hb1 (by decide)) (by show 0 + 1 ≤ mc; omega) (by show 0 + _ ≤ ms; omega) dX10_sorted_1 (fun q1 H hfr1 hP hD hS => ?_)
  have hm := hm q1 hfr1
  generalize hup h q1 (eI (c 0) (0 : Int32).toNatClampNeg (fun _ => 0)) = h1 at hm hP hD
  replace hf : (0 + 1) + mB1 ≤ mc ∧ (0 + (0 : Int32).toNatClampNeg) + zB1 ≤ ms := ⟨by omega, by omega⟩
  clear hc1 hs1 hb1
  refine lv_astore_n (lv' := [(2, .ref q1), (0, .ref a0), (1, .int a1)]) hx hb dX10_sorted_3 rfl hl (by decide) rfl (fun ls hl => ?_)
  refine lv_iconst (v := 0) hx hb dX10_sorted_4 (by decide) ?_
  refine lv_istore_n (lv' := [(3, .int (0 : Int32)), (2, .ref q1), (0, .ref a0), (1, .int a1)]) hx hb dX10_sorted_5 rfl hl (by decide) rfl (fun ls hl => ?_)
  obtain ⟨n_6, hm⟩ := hm
  have L_6 : ∀ (n_6 : Nat) (h_6 : HW) (mc_6 : Nat) (ms_6 : Nat) (v2_6 : Nat) (v3_6 : Int32) (cl_6 sl_6 : Nat) (H : Heap) (locs : List Loc) (ls : Array Slot), cl_6 + mc_6 ≤ mc ∧ sl_6 + ms_6 ≤ ms → mP G K h_6 H → mD A h_6 → va_S A s.heap H locs → lv_has ls 4 [(0, .ref a0), (1, .int a1), (2, .ref v2_6), (3, .int v3_6)] → itP5 (w_X10_sorted_B6 c K a0 a1 post) n_6 h_6 mc_6 ms_6 v2_6 v3_6 → W p l e (rm_X10_sorted mc ms) s m args below meth c1 H locs cl_6 sl_6 Q (F0 m 6 ls []) := by
    intro n_6
    induction n_6 with
    | zero => intro h_6 mc_6 ms_6 v2_6 v3_6 cl_6 sl_6 H locs ls hf hP hD hS hl hm; exact hm.elim
    | succ n_6 ih_6 =>
      intro h_6 mc_6 ms_6 v2_6 v3_6 cl_6 sl_6 H locs ls hf hP hD hS hl hm
      have hm : (w_X10_sorted_B6 c K a0 a1 post) (itP5 (w_X10_sorted_B6 c K a0 a1 post) n_6) h_6 mc_6 ms_6 v2_6 v3_6 := hm
      generalize itP5 (w_X10_sorted_B6 c K a0 a1 post) n_6 = rec_6 at hm ih_6
      unfold w_X10_sorted_B6 at hm
      refine lv_iload_n hx hb dX10_sorted_6 rfl (lv_at hl 3 rfl) ?_
      refine lv_bipush (v := 100) hx hb dX10_sorted_7 (by decide) ?_
      refine lv_icmp_ge (tgt := 37) hx hb dX10_sorted_9 (by decide) (fun c_9 => ?_) (fun c_9 => ?_)
      · have hm := hm.1 c_9
        refine lv_aload_n hx hb dX10_sorted_37 rfl (lv_at hl 2 rfl) ?_
        exact hend H locs ls 38 _ _ (some v2_6) h_6 (by omega) (by omega) hm hP hD hS dX10_sorted_38
      · have hm := hm.2 c_9
        refine lv_aload_n hx hb dX10_sorted_12 rfl (lv_at hl 0 rfl) ?_
        obtain ⟨wq13, fs13, g13, hq13, hv13, hm⟩ := hm
        refine mr_get (ci := 10) (C := RX10) (T := TX10) (N := 17) hx hb hts hi_10 hown hK (mRd hK hP hZ hS) hq13 rfl 10 (by decide) (hts (.fieldLink RX10 27 "HubTrainsLaw$Table" "hands" "[[I") ((List.mem_of_getElem? (i := 2) rfl))) (fun _ h9 => h9) hv13 dX10_sorted_13 ?_
        refine lv_iload_n hx hb dX10_sorted_16 rfl (lv_at hl 1 rfl) ?_
        obtain ⟨wq17, n17, f17, x17, hq17, hi17, hv17, hm⟩ := hm
        refine mr_aldq (ty := (.array .int)) hx hb hK (mRd hK hP hZ hS) 2 rfl hq17 rfl hi17 dX10_sorted_17 (fun o17 eo17 => ?_)
        obtain rfl := eo17.trans hv17
        refine lv_iload_n hx hb dX10_sorted_18 rfl (lv_at hl 3 rfl) ?_
        refine hcSNi (As := [.ref x17, .int v3_6]) (rest := []) ⟨hx, hb, hml, hown, hts⟩ (h_L_has l G K c h_6 x17 v3_6 _ hm) ⟨va_cnB 2 hts gX10_sorted_L_has_n77 rfl rfl rfl (nwm_HubTrainsLaw_Table_77 hN.2.1) (hts (.initialized RL) ((List.mem_of_getElem? (i := 4) rfl))) he_L_has ⟨Nat.le_of_ble_eq_true rfl, Nat.le_of_ble_eq_true rfl⟩, (hts (.static yL_has) ((List.mem_of_getElem? (i := 3) rfl))), trivial⟩ hK hN hZ hXX hP hD hS hA rfl hl.1 rfl (Nat.le_of_ble_eq_true rfl) dX10_sorted_19 ⟨by show cl_6 + 0 ≤ mc; omega, by show sl_6 + 0 ≤ ms; omega⟩ (fun r19 h19 H locs hm hP hD hS => ?_)
        have J_31 : ∀ (h_31 : HW) (mc_31 ms_31 : Nat) (v2_31 : Nat) (cl_31 sl_31 : Nat) (H : Heap) (locs : List Loc) (ls : Array Slot), cl_31 + mc_31 ≤ mc ∧ sl_31 + ms_31 ≤ ms → mP G K h_31 H → mD A h_31 → va_S A s.heap H locs → lv_has ls 4 [(0, .ref a0), (1, .int a1), (2, .ref v2_31), (3, .int v3_6)] → w_X10_sorted_J31 c K rec_6 v3_6 h_31 mc_31 ms_31 v2_31 → W p l e (rm_X10_sorted mc ms) s m args below meth c1 H locs cl_31 sl_31 Q (F0 m 31 ls []) := by
          intro h_31 mc_31 ms_31 v2_31 cl_31 sl_31 H locs ls hf hP hD hS hl hm
          unfold w_X10_sorted_J31 at hm
          obtain ⟨x31, ex31⟩ : ∃ z : Int32, z = (v3_6 + 1) := ⟨_, rfl⟩
          have hm := hm x31 ex31
          refine lv_iinc (k := 3) (v := x31) (lv' := [(3, .int x31), (0, .ref a0), (1, .int a1), (2, .ref v2_31)]) hx hb dX10_sorted_31 hl rfl ex31.symm (by decide) rfl (fun ls hl => ?_)
          refine lv_goto (tgt := 6) hx hb dX10_sorted_34 (by decide) ?_
          exact ih_6 h_31 mc_31 ms_31 v2_31 x31 cl_31 sl_31 H locs ls ⟨by omega, by omega⟩ hP hD hS (lv_sub hl [1, 2, 3, 0] rfl) hm
        refine lv_if_eq (tgt := 31) hx hb dX10_sorted_22 (by decide) (fun c_22 => ?_) (fun c_22 => ?_)
        · have hm := hm.1 c_22
          exact J_31 h19 mc_6 ms_6 v2_6 cl_6 sl_6 H locs ls ⟨by omega, by omega⟩ hP hD hS (lv_sub hl [0, 1, 2, 3] rfl) hm
        · have hm := hm.2 c_22
          refine lv_aload_n hx hb dX10_sorted_25 rfl (lv_at hl 2 rfl) ?_
          refine lv_iload_n hx hb dX10_sorted_26 rfl (lv_at hl 3 rfl) ?_
          obtain ⟨m27, z27, mB27, zB27, hbm27, hbs27, hm⟩ := hm
          refine hcSNq (As := [.ref v2_6, .int v3_6]) (rest := []) ⟨hx, hb, hml, hown, hts⟩ (h_L_with l G K c h19 v2_6 v3_6 m27 z27 _ hm) ⟨va_cnB 2 hts gX10_sorted_L_with_n83 rfl rfl rfl (nwm_HubTrainsLaw_Table_83 hN.2.1) (hts (.initialized RL) ((List.mem_of_getElem? (i := 4) rfl))) he_L_with ⟨Nat.le_of_ble_eq_true rfl, Nat.le_of_ble_eq_true rfl⟩, (hts (.static yL_with) ((List.mem_of_getElem? (i := 6) rfl))), trivial⟩ hK hN hZ hXX hP hD hS hA rfl hl.1 rfl (Nat.le_of_ble_eq_true rfl) dX10_sorted_27 ⟨by show cl_6 + m27 ≤ mc; omega, by show sl_6 + z27 ≤ ms; omega⟩ (fun r27 h27 H locs hm hP hD hS => ?_)
          obtain ⟨a27, rfl, hm⟩ := hm
          replace hf : (cl_6 + m27) + mB27 ≤ mc ∧ (sl_6 + z27) + zB27 ≤ ms := ⟨by omega, by omega⟩
          clear hbm27 hbs27
          refine lv_astore_n (lv' := [(2, .ref a27), (0, .ref a0), (1, .int a1), (3, .int v3_6)]) hx hb dX10_sorted_30 rfl hl (by decide) rfl (fun ls hl => ?_)
          exact J_31 h27 mB27 zB27 a27 (cl_6 + m27) (sl_6 + z27) H locs ls ⟨by omega, by omega⟩ hP hD hS (lv_sub hl [1, 2, 0, 3] rfl) hm
  exact L_6 n_6 h1 mB1 zB1 q1 (0 : Int32) (0 + 1) (0 + (0 : Int32).toNatClampNeg) H locs ls ⟨by omega, by omega⟩ hP hD hS (lv_sub hl [2, 3, 1, 0] rfl) hm

def w_X10_ofTrain (c : Nat → ClassId) (K : (Nat → Nat) × (Nat → Nat)) (h : HW) (a0 : Nat) (a1 : Int32) (a2 : Int32) (post : Int32 → HW → Prop) : Prop :=
  gR h a0 10 12 (fun (g1 : Nat) => lR h (c 2) g1 a1 (fun (x5 : Nat) => (a2 = 0 → lenA h (c 0) x5 (fun (x12 : Int32) => post x12 h)) ∧ (¬ a2 = 0 → (a2 = (1 : Int32) → (∃ w fs, h a0 = some (w, .inr (10, fs))) ∧ w_X10_end c K h a0 a1 (fun (r23 : Int32) (h23 : HW) => post r23 h23)) ∧ (¬ a2 = (1 : Int32) → (a2 = (2 : Int32) → gR h a0 10 13 (fun (g35 : Nat) => lI h (c 4) g35 a1 (fun (x39 : Int32) => (x39 = 0 → post (0 : Int32) h) ∧ (¬ x39 = 0 → post (1 : Int32) h)))) ∧ (¬ a2 = (2 : Int32) → (a2 = (3 : Int32) → lenA h (c 0) x5 (fun (x57 : Int32) => (x57 = 0 → post (-1 : Int32) h) ∧ (¬ x57 = 0 → lenA h (c 0) x5 (fun (x67 : Int32) => ∀ x69 : Int32, x69 = x67 - (1 : Int32) → (lI h (c 0) x5 x69 (fun (x70 : Int32) => post x70 h)))))) ∧ (¬ a2 = (3 : Int32) → w_L_pips c K h x5 (fun (r75 : Int32) (h75 : HW) => post r75 h75)))))))

abbrev rm_X10_ofTrain : Room := { frames := 1, cells := 0, slots := 0, locals := 26 }
theorem he_X10_ofTrain : yX10_ofTrain.cls ≠ "java/lang/invoke/MethodHandle" ∧ yX10_ofTrain.cls ≠ "java/lang/invoke/VarHandle" ∧ (parseMethodDescriptor yX10_ofTrain.desc).map (fun d => d.parameters.length) = some 2 := by decide +kernel
theorem heV_X10_ofTrain : yX10_ofTrain.cls = RX10 ∧ yX10_ofTrain.cls ≠ "java/lang/invoke/MethodHandle" ∧ yX10_ofTrain.cls ≠ "java/lang/invoke/VarHandle" ∧ (parseMethodDescriptor yX10_ofTrain.desc).map (fun d => d.parameters.length) = some 2 := by decide +kernel
set_option maxHeartbeats 4000000 in
set_option maxRecDepth 100000 in
theorem h_X10_ofTrain (l : Launch) (G : va_G) (K : (Nat → Nat) × (Nat → Nat)) (c : Nat → ClassId) (h : HW) (a0 : Nat) (a1 : Int32) (a2 : Int32) (post : Int32 → HW → Prop) (hm : w_X10_ofTrain c K h a0 a1 a2 post) : hMi l yX10_ofTrain wsX10_ofTrain (rm_X10_ofTrain) G K (TY c) [.ref a0, .int a1, .int a2] h 0 0 post := by
  refine hMi.of (cc := cX10_ofTrain) (maxL := 4) (lv := [(0, .ref a0), (1, .int a1), (2, .int a2)]) (by decide) rfl (Nat.le_of_ble_eq_true rfl) rfl ?_
  intro p e s m args below meth c1 A Q H locs hx hb hml hown hmn hts hK hN hZ hXX hP hD hA hS hend ls hl
  have hown : s.vm.findClass RX10 = some m.cls := hown
  have hi_10 : ∀ w ∈ u_ws RX10 TX10 17, w ∈ wsX10_ofTrain := fun w h => (fun w h => List.mem_cons_of_mem _ (List.mem_append_right _ (h))) w h
  unfold w_X10_ofTrain at hm
  refine lv_aload_n hx hb dX10_ofTrain_0 rfl (lv_at hl 0 rfl) ?_
  obtain ⟨wq1, fs1, g1, hq1, hv1, hm⟩ := hm
  refine mr_get (ci := 10) (C := RX10) (T := TX10) (N := 17) hx hb hts hi_10 hown hK (mRd hK hP hZ hS) hq1 rfl 12 (by decide) (hts (.fieldLink RX10 34 "HubTrainsLaw$Table" "trains" "[[I") ((List.mem_of_getElem? (i := 1) rfl))) (fun _ h9 => h9) hv1 dX10_ofTrain_1 ?_
  refine lv_iload_n hx hb dX10_ofTrain_4 rfl (lv_at hl 1 rfl) ?_
  obtain ⟨wq5, n5, f5, x5, hq5, hi5, hv5, hm⟩ := hm
  refine mr_aldq (ty := (.array .int)) hx hb hK (mRd hK hP hZ hS) 2 rfl hq5 rfl hi5 dX10_ofTrain_5 (fun o5 eo5 => ?_)
  obtain rfl := eo5.trans hv5
  refine lv_astore_n (lv' := [(3, .ref x5), (0, .ref a0), (1, .int a1), (2, .int a2)]) hx hb dX10_ofTrain_6 rfl hl (by decide) rfl (fun ls hl => ?_)
  refine lv_iload_n hx hb dX10_ofTrain_7 rfl (lv_at hl 3 rfl) ?_
  refine lv_if_ne (tgt := 16) hx hb dX10_ofTrain_8 (by decide) (fun c_8 => ?_) (fun c_8 => ?_)
  · have hm := hm.2 c_8
    refine lv_iload_n hx hb dX10_ofTrain_16 rfl (lv_at hl 3 rfl) ?_
    refine lv_iconst (v := 1) hx hb dX10_ofTrain_17 (by decide) ?_
    refine lv_icmp_ne (tgt := 29) hx hb dX10_ofTrain_18 (by decide) (fun c_18 => ?_) (fun c_18 => ?_)
    · have hm := hm.2 c_18
      refine lv_iload_n hx hb dX10_ofTrain_29 rfl (lv_at hl 3 rfl) ?_
      refine lv_iconst (v := 2) hx hb dX10_ofTrain_30 (by decide) ?_
      refine lv_icmp_ne (tgt := 51) hx hb dX10_ofTrain_31 (by decide) (fun c_31 => ?_) (fun c_31 => ?_)
      · have hm := hm.2 c_31
        refine lv_iload_n hx hb dX10_ofTrain_51 rfl (lv_at hl 3 rfl) ?_
        refine lv_iconst (v := 3) hx hb dX10_ofTrain_52 (by decide) ?_
        refine lv_icmp_ne (tgt := 74) hx hb dX10_ofTrain_53 (by decide) (fun c_53 => ?_) (fun c_53 => ?_)
        · have hm := hm.2 c_53
          refine lv_aload_n hx hb dX10_ofTrain_74 rfl (lv_at hl 0 rfl) ?_
          refine hcSNi (As := [.ref x5]) (rest := []) ⟨hx, hb, hml, hown, hts⟩ (h_L_pips l G K c h x5 _ hm) ⟨va_cnB 1 hts gX10_ofTrain_L_pips_n110 rfl rfl rfl (nwm_HubTrainsLaw_Table_110 hN.2.1) (hts (.initialized RL) ((List.mem_of_getElem? (i := 10) rfl))) he_L_pips ⟨Nat.le_of_ble_eq_true rfl, Nat.le_of_ble_eq_true rfl⟩, (hts (.static yL_pips) ((List.mem_of_getElem? (i := 9) rfl))), trivial⟩ hK hN hZ hXX hP hD hS hA rfl hl.1 rfl (Nat.le_of_ble_eq_true rfl) dX10_ofTrain_75 ⟨Nat.le_refl _, Nat.le_refl _⟩ (fun r75 h75 H locs hm hP hD hS => ?_)
          exact hend H locs ls 78 _ _ r75 h75 (Nat.le_refl _) (Nat.le_refl _) rfl hm hP hD hS dX10_ofTrain_78
        · have hm := hm.1 c_53
          refine lv_aload_n hx hb dX10_ofTrain_56 rfl (lv_at hl 0 rfl) ?_
          obtain ⟨wq57, xx57, hq57, hm⟩ := hm
          refine mr_alen hx hb hK (mRd hK hP hZ hS) 0 hq57 rfl dX10_ofTrain_57 (fun x57 ex57 => ?_)
          have hm := hm x57 ex57
          refine lv_if_ne (tgt := 65) hx hb dX10_ofTrain_58 (by decide) (fun c_58 => ?_) (fun c_58 => ?_)
          · have hm := hm.2 c_58
            refine lv_aload_n hx hb dX10_ofTrain_65 rfl (lv_at hl 0 rfl) ?_
            refine lv_aload_n hx hb dX10_ofTrain_66 rfl (lv_at hl 0 rfl) ?_
            obtain ⟨wq67, xx67, hq67, hm⟩ := hm
            refine mr_alen hx hb hK (mRd hK hP hZ hS) 0 hq67 rfl dX10_ofTrain_67 (fun x67 ex67 => ?_)
            have hm := hm x67 ex67
            refine lv_iconst (v := 1) hx hb dX10_ofTrain_68 (by decide) ?_
            refine lv_isub hx hb dX10_ofTrain_69 ?_
            refine lv_topi (fun x69 ex69 => ?_)
            have hm := hm x69 ex69
            obtain ⟨wq70, n70, f70, hq70, hi70, hm⟩ := hm
            refine mr_iald hx hb hK (mRd hK hP hZ hS) 0 hq70 rfl hi70 dX10_ofTrain_70 (fun x70 ex70 => ?_)
            have hm := hm x70 ex70
            refine lv_goto (tgt := 78) hx hb dX10_ofTrain_71 (by decide) ?_
            exact hend H locs ls 78 _ _ x70 h (Nat.le_refl _) (Nat.le_refl _) rfl hm hP hD hS dX10_ofTrain_78
          · have hm := hm.1 c_58
            refine lv_iconst (v := (-1)) hx hb dX10_ofTrain_61 (by decide) ?_
            refine lv_goto (tgt := 78) hx hb dX10_ofTrain_62 (by decide) ?_
            exact hend H locs ls 78 _ _ (-1 : Int32) h (Nat.le_refl _) (Nat.le_refl _) rfl hm hP hD hS dX10_ofTrain_78
      · have hm := hm.1 c_31
        refine lv_aload_n hx hb dX10_ofTrain_34 rfl (lv_at hl 1 rfl) ?_
        obtain ⟨wq35, fs35, g35, hq35, hv35, hm⟩ := hm
        refine mr_get (ci := 10) (C := RX10) (T := TX10) (N := 17) hx hb hts hi_10 hown hK (mRd hK hP hZ hS) hq35 rfl 13 (by decide) (hts (.fieldLink RX10 37 "HubTrainsLaw$Table" "isOpen" "[Z") ((List.mem_of_getElem? (i := 2) rfl))) (fun _ h9 => h9) hv35 dX10_ofTrain_35 ?_
        refine lv_iload_n hx hb dX10_ofTrain_38 rfl (lv_at hl 2 rfl) ?_
        obtain ⟨wq39, n39, f39, hq39, hi39, hm⟩ := hm
        refine mr_zald hx hb hK (mRd hK hP hZ hS) 4 hq39 rfl hi39 dX10_ofTrain_39 (fun x39 ex39 => ?_)
        have hm := hm x39 ex39
        refine lv_if_eq (tgt := 47) hx hb dX10_ofTrain_40 (by decide) (fun c_40 => ?_) (fun c_40 => ?_)
        · have hm := hm.1 c_40
          refine lv_iconst (v := 0) hx hb dX10_ofTrain_47 (by decide) ?_
          refine lv_goto (tgt := 78) hx hb dX10_ofTrain_48 (by decide) ?_
          exact hend H locs ls 78 _ _ (0 : Int32) h (Nat.le_refl _) (Nat.le_refl _) rfl hm hP hD hS dX10_ofTrain_78
        · have hm := hm.2 c_40
          refine lv_iconst (v := 1) hx hb dX10_ofTrain_43 (by decide) ?_
          refine lv_goto (tgt := 78) hx hb dX10_ofTrain_44 (by decide) ?_
          exact hend H locs ls 78 _ _ (1 : Int32) h (Nat.le_refl _) (Nat.le_refl _) rfl hm hP hD hS dX10_ofTrain_78
    · have hm := hm.1 c_18
      refine lv_aload_n hx hb dX10_ofTrain_21 rfl (lv_at hl 1 rfl) ?_
      refine lv_iload_n hx hb dX10_ofTrain_22 rfl (lv_at hl 2 rfl) ?_
      obtain ⟨⟨wr23, fr23, hrq23⟩, hm⟩ := hm
      refine hcVi (As := [.int a1]) (rest := []) ⟨hx, hb, hml, hown, hts⟩ (h_X10_end l G K c h a0 a1 _ hm) (cwV 1 hts gX10_ofTrain_X10_end rfl rfl rfl (heV_X10_end) ⟨Nat.le_of_ble_eq_true rfl, Nat.le_of_ble_eq_true rfl⟩) hK hN hZ hXX hP hD hS hA (mr_recv hK (mRd hK hP hZ hS) (ci := 10) rfl hrq23) rfl hl.1 rfl (Nat.le_of_ble_eq_true rfl) dX10_ofTrain_23 ⟨Nat.le_refl _, Nat.le_refl _⟩ (fun r23 h23 H locs hm hP hD hS => ?_)
      refine lv_goto (tgt := 78) hx hb dX10_ofTrain_26 (by decide) ?_
      exact hend H locs ls 78 _ _ r23 h23 (Nat.le_refl _) (Nat.le_refl _) rfl hm hP hD hS dX10_ofTrain_78
  · have hm := hm.1 c_8
    refine lv_aload_n hx hb dX10_ofTrain_11 rfl (lv_at hl 0 rfl) ?_
    obtain ⟨wq12, xx12, hq12, hm⟩ := hm
    refine mr_alen hx hb hK (mRd hK hP hZ hS) 0 hq12 rfl dX10_ofTrain_12 (fun x12 ex12 => ?_)
    have hm := hm x12 ex12
    refine lv_goto (tgt := 78) hx hb dX10_ofTrain_13 (by decide) ?_
    exact hend H locs ls 78 _ _ x12 h (Nat.le_refl _) (Nat.le_refl _) rfl hm hP hD hS dX10_ofTrain_78

def w_X10_checksum_B135 (c : Nat → ClassId) (K : (Nat → Nat) × (Nat → Nat)) (a0 : Nat) (rec_123 : HW → Nat → Nat → Int64 → Int32 → Prop) (v3_123 : Int32) (rec_135 : HW → Nat → Nat → Int64 → Int32 → Prop) (h_135 : HW) (mc_135 : Nat) (ms_135 : Nat) (v1_135 : Int64) (v4_135 : Int32) : Prop :=
  ((5 : Int32) ≤ v4_135 → ∀ x162 : Int32, x162 = (v3_123 + 1) → (rec_123 h_135 mc_135 ms_135 v1_135 x162)) ∧ (¬ (5 : Int32) ≤ v4_135 → ∀ x145 : Int64, x145 = (31 : Int64) * v1_135 → ((∃ w fs, h_135 a0 = some (w, .inr (10, fs))) ∧ w_X10_ofTrain c K h_135 a0 v3_123 v4_135 (fun (r150 : Int32) (h150 : HW) => ∀ x153 : Int64, x153 = r150.toInt64 → (∀ x154 : Int64, x154 = x145 + x153 → (∀ x156 : Int32, x156 = (v4_135 + 1) → (rec_135 h150 mc_135 ms_135 x154 x156))))))

def w_X10_checksum_B123 (c : Nat → ClassId) (K : (Nat → Nat) × (Nat → Nat)) (a0 : Nat) (post : Int64 → HW → Prop) (rec_123 : HW → Nat → Nat → Int64 → Int32 → Prop) (h_123 : HW) (mc_123 : Nat) (ms_123 : Nat) (v1_123 : Int64) (v3_123 : Int32) : Prop :=
  gR h_123 a0 10 12 (fun (g125 : Nat) => lenA h_123 (c 2) g125 (fun (x128 : Int32) => (x128 ≤ v3_123 → post v1_123 h_123) ∧ (¬ x128 ≤ v3_123 → ∃ n_135 : Nat, itP5 (w_X10_checksum_B135 c K a0 rec_123 v3_123) n_135 h_123 mc_123 ms_123 v1_123 (0 : Int32))))

def w_X10_checksum_B85 (c : Nat → ClassId) (K : (Nat → Nat) × (Nat → Nat)) (rec_31 : HW → Nat → Nat → Int64 → Int32 → Prop) (v3_31 : Int32) (h72 : HW) (a72 : Nat) (x79 : Int32) (rec_85 : Nat → Nat → Int64 → Int32 → Prop) (mc_85 : Nat) (ms_85 : Nat) (v1_85 : Int64) (v6_85 : Int32) : Prop :=
  (x79 ≤ v6_85 → ∀ x115 : Int32, x115 = (v3_31 + 1) → (rec_31 h72 mc_85 ms_85 v1_85 x115)) ∧ (¬ x79 ≤ v6_85 → lI h72 (c 0) a72 v6_85 (fun (x96 : Int32) => ∀ x103 : Int64, x103 = (31 : Int64) * v1_85 → (∀ x106 : Int64, x106 = x96.toInt64 → (∀ x107 : Int64, x107 = x103 + x106 → (∀ x109 : Int32, x109 = (v6_85 + 1) → (rec_85 mc_85 ms_85 x107 x109))))))

def w_X10_checksum_B43 (c : Nat → ClassId) (K : (Nat → Nat) × (Nat → Nat)) (a0 : Nat) (rec_31 : HW → Nat → Nat → Int64 → Int32 → Prop) (v3_31 : Int32) (rec_43 : HW → Nat → Nat → Int64 → Int32 → Prop) (h_43 : HW) (mc_43 : Nat) (ms_43 : Nat) (v1_43 : Int64) (v4_43 : Int32) : Prop :=
  ((4 : Int32) ≤ v4_43 → (∃ w fs, h_43 a0 = some (w, .inr (10, fs))) ∧ (∃ m72 z72 mB72 zB72 : Nat, mc_43 = m72 + mB72 ∧ ms_43 = z72 + zB72 ∧ w_X10_sorted c K h_43 a0 v3_31 m72 z72 (fun (r72 : Option Nat) (h72 : HW) => dRf r72 (fun (a72 : Nat) => lenA h72 (c 0) a72 (fun (x79 : Int32) => ∃ n_85 : Nat, itP4 (w_X10_checksum_B85 c K rec_31 v3_31 h72 a72 x79) n_85 mB72 zB72 v1_43 (0 : Int32)))))) ∧ (¬ (4 : Int32) ≤ v4_43 → ∀ x53 : Int64, x53 = (31 : Int64) * v1_43 → ((∃ w fs, h_43 a0 = some (w, .inr (10, fs))) ∧ w_X10_ofPlayer c K h_43 a0 v3_31 v4_43 (fun (r58 : Int32) (h58 : HW) => ∀ x61 : Int64, x61 = r58.toInt64 → (∀ x62 : Int64, x62 = x53 + x61 → (∀ x64 : Int32, x64 = (v4_43 + 1) → (rec_43 h58 mc_43 ms_43 x62 x64))))))

def w_X10_checksum_B31 (c : Nat → ClassId) (K : (Nat → Nat) × (Nat → Nat)) (a0 : Nat) (post : Int64 → HW → Prop) (rec_31 : HW → Nat → Nat → Int64 → Int32 → Prop) (h_31 : HW) (mc_31 : Nat) (ms_31 : Nat) (v1_31 : Int64) (v3_31 : Int32) : Prop :=
  gR h_31 a0 10 10 (fun (g33 : Nat) => lenA h_31 (c 2) g33 (fun (x36 : Int32) => (x36 ≤ v3_31 → ∃ n_123 : Nat, itP5 (w_X10_checksum_B123 c K a0 post) n_123 h_31 mc_31 ms_31 v1_31 (0 : Int32)) ∧ (¬ x36 ≤ v3_31 → ∃ n_43 : Nat, itP5 (w_X10_checksum_B43 c K a0 rec_31 v3_31) n_43 h_31 mc_31 ms_31 v1_31 (0 : Int32))))

def w_X10_checksum_B4 (c : Nat → ClassId) (K : (Nat → Nat) × (Nat → Nat)) (a0 : Nat) (post : Int64 → HW → Prop) (rec_4 : HW → Nat → Nat → Int64 → Int32 → Prop) (h_4 : HW) (mc_4 : Nat) (ms_4 : Nat) (v1_4 : Int64) (v3_4 : Int32) : Prop :=
  ((13 : Int32) ≤ v3_4 → ∃ n_31 : Nat, itP5 (w_X10_checksum_B31 c K a0 post) n_31 h_4 mc_4 ms_4 v1_4 (0 : Int32)) ∧ (¬ (13 : Int32) ≤ v3_4 → ∀ x14 : Int64, x14 = (31 : Int64) * v1_4 → ((∃ w fs, h_4 a0 = some (w, .inr (10, fs))) ∧ w_X10_told c K h_4 a0 v3_4 (fun (r17 : Int32) (h17 : HW) => ∀ x20 : Int64, x20 = r17.toInt64 → (∀ x21 : Int64, x21 = x14 + x20 → (∀ x23 : Int32, x23 = (v3_4 + 1) → (rec_4 h17 mc_4 ms_4 x21 x23))))))

def w_X10_checksum (c : Nat → ClassId) (K : (Nat → Nat) × (Nat → Nat)) (h : HW) (a0 : Nat) (mc ms : Nat) (post : Int64 → HW → Prop) : Prop :=
  ∃ n_4 : Nat, itP5 (w_X10_checksum_B4 c K a0 post) n_4 h mc ms (0 : Int64) (0 : Int32)

abbrev rm_X10_checksum (mc ms : Nat) : Room := { frames := 4, cells := mc, slots := ms, locals := 95 }
theorem he_X10_checksum : yX10_checksum.cls ≠ "java/lang/invoke/MethodHandle" ∧ yX10_checksum.cls ≠ "java/lang/invoke/VarHandle" ∧ (parseMethodDescriptor yX10_checksum.desc).map (fun d => d.parameters.length) = some 0 := by decide +kernel
theorem heV_X10_checksum : yX10_checksum.cls = RX10 ∧ yX10_checksum.cls ≠ "java/lang/invoke/MethodHandle" ∧ yX10_checksum.cls ≠ "java/lang/invoke/VarHandle" ∧ (parseMethodDescriptor yX10_checksum.desc).map (fun d => d.parameters.length) = some 0 := by decide +kernel
set_option maxHeartbeats 4000000 in
set_option maxRecDepth 100000 in
theorem h_X10_checksum (l : Launch) (G : va_G) (K : (Nat → Nat) × (Nat → Nat)) (c : Nat → ClassId) (h : HW) (a0 : Nat) (mc ms : Nat) (post : Int64 → HW → Prop) (hm : w_X10_checksum c K h a0 mc ms post) : hMl l yX10_checksum wsX10_checksum (rm_X10_checksum mc ms) G K (TY c) [.ref a0] h mc ms post := by
  refine hMl.of (cc := cX10_checksum) (maxL := 8) (lv := [(0, .ref a0)]) (by decide) rfl (Nat.le_of_ble_eq_true rfl) rfl ?_
  intro p e s m args below meth c1 A Q H locs hx hb hml hown hmn hts hK hN hZ hXX hP hD hA hS hend ls hl
  have hown : s.vm.findClass RX10 = some m.cls := hown
  have hi_10 : ∀ w ∈ u_ws RX10 TX10 17, w ∈ wsX10_checksum := fun w h => (fun w h => List.mem_cons_of_mem _ (List.mem_append_right _ (h))) w h
  unfold w_X10_checksum at hm
  have hf : 0 + mc ≤ mc ∧ 0 + ms ≤ ms := ⟨by omega, by omega⟩
  refine lv_lconst (v := 0) hx hb dX10_checksum_0 (by decide) ?_
  refine lv_lstore_n (lv' := [(1, .long (0 : Int64)), (0, .ref a0)]) hx hb dX10_checksum_1 rfl hl (by decide) rfl (fun ls hl => ?_)
  refine lv_iconst (v := 0) hx hb dX10_checksum_2 (by decide) ?_
  refine lv_istore_n (lv' := [(3, .int (0 : Int32)), (1, .long (0 : Int64)), (0, .ref a0)]) hx hb dX10_checksum_3 rfl hl (by decide) rfl (fun ls hl => ?_)
  obtain ⟨n_4, hm⟩ := hm
  have L_4 : ∀ (n_4 : Nat) (h_4 : HW) (mc_4 : Nat) (ms_4 : Nat) (v1_4 : Int64) (v3_4 : Int32) (cl_4 sl_4 : Nat) (H : Heap) (locs : List Loc) (ls : Array Slot), cl_4 + mc_4 ≤ mc ∧ sl_4 + ms_4 ≤ ms → mP G K h_4 H → mD A h_4 → va_S A s.heap H locs → lv_has ls 8 [(0, .ref a0), (1, .long v1_4), (3, .int v3_4)] → itP5 (w_X10_checksum_B4 c K a0 post) n_4 h_4 mc_4 ms_4 v1_4 v3_4 → W p l e (rm_X10_checksum mc ms) s m args below meth c1 H locs cl_4 sl_4 Q (F0 m 4 ls []) := by
    intro n_4
    induction n_4 with
    | zero => intro h_4 mc_4 ms_4 v1_4 v3_4 cl_4 sl_4 H locs ls hf hP hD hS hl hm; exact hm.elim
    | succ n_4 ih_4 =>
      intro h_4 mc_4 ms_4 v1_4 v3_4 cl_4 sl_4 H locs ls hf hP hD hS hl hm
      have hm : (w_X10_checksum_B4 c K a0 post) (itP5 (w_X10_checksum_B4 c K a0 post) n_4) h_4 mc_4 ms_4 v1_4 v3_4 := hm
      generalize itP5 (w_X10_checksum_B4 c K a0 post) n_4 = rec_4 at hm ih_4
      unfold w_X10_checksum_B4 at hm
      refine lv_iload_n hx hb dX10_checksum_4 rfl (lv_at hl 2 rfl) ?_
      refine lv_bipush (v := 13) hx hb dX10_checksum_5 (by decide) ?_
      refine lv_icmp_ge (tgt := 29) hx hb dX10_checksum_7 (by decide) (fun c_7 => ?_) (fun c_7 => ?_)
      · have hm := hm.1 c_7
        refine lv_iconst (v := 0) hx hb dX10_checksum_29 (by decide) ?_
        refine lv_istore_n (lv' := [(3, .int (0 : Int32)), (0, .ref a0), (1, .long v1_4)]) hx hb dX10_checksum_30 rfl hl (by decide) rfl (fun ls hl => ?_)
        obtain ⟨n_31, hm⟩ := hm
        have L_31 : ∀ (n_31 : Nat) (h_31 : HW) (mc_31 : Nat) (ms_31 : Nat) (v1_31 : Int64) (v3_31 : Int32) (cl_31 sl_31 : Nat) (H : Heap) (locs : List Loc) (ls : Array Slot), cl_31 + mc_31 ≤ mc ∧ sl_31 + ms_31 ≤ ms → mP G K h_31 H → mD A h_31 → va_S A s.heap H locs → lv_has ls 8 [(0, .ref a0), (1, .long v1_31), (3, .int v3_31)] → itP5 (w_X10_checksum_B31 c K a0 post) n_31 h_31 mc_31 ms_31 v1_31 v3_31 → W p l e (rm_X10_checksum mc ms) s m args below meth c1 H locs cl_31 sl_31 Q (F0 m 31 ls []) := by
          intro n_31
          induction n_31 with
          | zero => intro h_31 mc_31 ms_31 v1_31 v3_31 cl_31 sl_31 H locs ls hf hP hD hS hl hm; exact hm.elim
          | succ n_31 ih_31 =>
            intro h_31 mc_31 ms_31 v1_31 v3_31 cl_31 sl_31 H locs ls hf hP hD hS hl hm
            have hm : (w_X10_checksum_B31 c K a0 post) (itP5 (w_X10_checksum_B31 c K a0 post) n_31) h_31 mc_31 ms_31 v1_31 v3_31 := hm
            generalize itP5 (w_X10_checksum_B31 c K a0 post) n_31 = rec_31 at hm ih_31
            unfold w_X10_checksum_B31 at hm
            refine lv_iload_n hx hb dX10_checksum_31 rfl (lv_at hl 2 rfl) ?_
            refine lv_aload_n hx hb dX10_checksum_32 rfl (lv_at hl 0 rfl) ?_
            obtain ⟨wq33, fs33, g33, hq33, hv33, hm⟩ := hm
            refine mr_get (ci := 10) (C := RX10) (T := TX10) (N := 17) hx hb hts hi_10 hown hK (mRd hK hP hZ hS) hq33 rfl 10 (by decide) (hts (.fieldLink RX10 27 "HubTrainsLaw$Table" "hands" "[[I") ((List.mem_of_getElem? (i := 2) rfl))) (fun _ h9 => h9) hv33 dX10_checksum_33 ?_
            obtain ⟨wq36, xx36, hq36, hm⟩ := hm
            refine mr_alen hx hb hK (mRd hK hP hZ hS) 2 hq36 rfl dX10_checksum_36 (fun x36 ex36 => ?_)
            have hm := hm x36 ex36
            refine lv_icmp_ge (tgt := 121) hx hb dX10_checksum_37 (by decide) (fun c_37 => ?_) (fun c_37 => ?_)
            · have hm := hm.1 c_37
              refine lv_iconst (v := 0) hx hb dX10_checksum_121 (by decide) ?_
              refine lv_istore_n (lv' := [(3, .int (0 : Int32)), (0, .ref a0), (1, .long v1_31)]) hx hb dX10_checksum_122 rfl hl (by decide) rfl (fun ls hl => ?_)
              obtain ⟨n_123, hm⟩ := hm
              have L_123 : ∀ (n_123 : Nat) (h_123 : HW) (mc_123 : Nat) (ms_123 : Nat) (v1_123 : Int64) (v3_123 : Int32) (cl_123 sl_123 : Nat) (H : Heap) (locs : List Loc) (ls : Array Slot), cl_123 + mc_123 ≤ mc ∧ sl_123 + ms_123 ≤ ms → mP G K h_123 H → mD A h_123 → va_S A s.heap H locs → lv_has ls 8 [(0, .ref a0), (1, .long v1_123), (3, .int v3_123)] → itP5 (w_X10_checksum_B123 c K a0 post) n_123 h_123 mc_123 ms_123 v1_123 v3_123 → W p l e (rm_X10_checksum mc ms) s m args below meth c1 H locs cl_123 sl_123 Q (F0 m 123 ls []) := by
                intro n_123
                induction n_123 with
                | zero => intro h_123 mc_123 ms_123 v1_123 v3_123 cl_123 sl_123 H locs ls hf hP hD hS hl hm; exact hm.elim
                | succ n_123 ih_123 =>
                  intro h_123 mc_123 ms_123 v1_123 v3_123 cl_123 sl_123 H locs ls hf hP hD hS hl hm
                  have hm : (w_X10_checksum_B123 c K a0 post) (itP5 (w_X10_checksum_B123 c K a0 post) n_123) h_123 mc_123 ms_123 v1_123 v3_123 := hm
                  generalize itP5 (w_X10_checksum_B123 c K a0 post) n_123 = rec_123 at hm ih_123
                  unfold w_X10_checksum_B123 at hm
                  refine lv_iload_n hx hb dX10_checksum_123 rfl (lv_at hl 2 rfl) ?_
                  refine lv_aload_n hx hb dX10_checksum_124 rfl (lv_at hl 0 rfl) ?_
                  obtain ⟨wq125, fs125, g125, hq125, hv125, hm⟩ := hm
                  refine mr_get (ci := 10) (C := RX10) (T := TX10) (N := 17) hx hb hts hi_10 hown hK (mRd hK hP hZ hS) hq125 rfl 12 (by decide) (hts (.fieldLink RX10 34 "HubTrainsLaw$Table" "trains" "[[I") ((List.mem_of_getElem? (i := 3) rfl))) (fun _ h9 => h9) hv125 dX10_checksum_125 ?_
                  obtain ⟨wq128, xx128, hq128, hm⟩ := hm
                  refine mr_alen hx hb hK (mRd hK hP hZ hS) 2 hq128 rfl dX10_checksum_128 (fun x128 ex128 => ?_)
                  have hm := hm x128 ex128
                  refine lv_icmp_ge (tgt := 168) hx hb dX10_checksum_129 (by decide) (fun c_129 => ?_) (fun c_129 => ?_)
                  · have hm := hm.1 c_129
                    refine lv_lload_n hx hb dX10_checksum_168 rfl (lv_at hl 1 rfl) ?_
                    exact hend H locs ls 169 _ _ v1_123 h_123 (by omega) (by omega) hm hP hD hS dX10_checksum_169
                  · have hm := hm.2 c_129
                    refine lv_iconst (v := 0) hx hb dX10_checksum_132 (by decide) ?_
                    refine lv_istore (lv' := [(4, .int (0 : Int32)), (0, .ref a0), (1, .long v1_123), (3, .int v3_123)]) hx hb dX10_checksum_133 hl (by decide) rfl (fun ls hl => ?_)
                    obtain ⟨n_135, hm⟩ := hm
                    have L_135 : ∀ (n_135 : Nat) (h_135 : HW) (mc_135 : Nat) (ms_135 : Nat) (v1_135 : Int64) (v4_135 : Int32) (cl_135 sl_135 : Nat) (H : Heap) (locs : List Loc) (ls : Array Slot), cl_135 + mc_135 ≤ mc ∧ sl_135 + ms_135 ≤ ms → mP G K h_135 H → mD A h_135 → va_S A s.heap H locs → lv_has ls 8 [(0, .ref a0), (1, .long v1_135), (3, .int v3_123), (4, .int v4_135)] → itP5 (w_X10_checksum_B135 c K a0 rec_123 v3_123) n_135 h_135 mc_135 ms_135 v1_135 v4_135 → W p l e (rm_X10_checksum mc ms) s m args below meth c1 H locs cl_135 sl_135 Q (F0 m 135 ls []) := by
                      intro n_135
                      induction n_135 with
                      | zero => intro h_135 mc_135 ms_135 v1_135 v4_135 cl_135 sl_135 H locs ls hf hP hD hS hl hm; exact hm.elim
                      | succ n_135 ih_135 =>
                        intro h_135 mc_135 ms_135 v1_135 v4_135 cl_135 sl_135 H locs ls hf hP hD hS hl hm
                        have hm : (w_X10_checksum_B135 c K a0 rec_123 v3_123) (itP5 (w_X10_checksum_B135 c K a0 rec_123 v3_123) n_135) h_135 mc_135 ms_135 v1_135 v4_135 := hm
                        generalize itP5 (w_X10_checksum_B135 c K a0 rec_123 v3_123) n_135 = rec_135 at hm ih_135
                        unfold w_X10_checksum_B135 at hm
                        refine lv_iload hx hb dX10_checksum_135 (lv_at hl 3 rfl) ?_
                        refine lv_iconst (v := 5) hx hb dX10_checksum_137 (by decide) ?_
                        refine lv_icmp_ge (tgt := 162) hx hb dX10_checksum_138 (by decide) (fun c_138 => ?_) (fun c_138 => ?_)
                        · have hm := hm.1 c_138
                          obtain ⟨x162, ex162⟩ : ∃ z : Int32, z = (v3_123 + 1) := ⟨_, rfl⟩
                          have hm := hm x162 ex162
                          refine lv_iinc (k := 2) (v := x162) (lv' := [(3, .int x162), (0, .ref a0), (1, .long v1_135), (4, .int v4_135)]) hx hb dX10_checksum_162 hl rfl ex162.symm (by decide) rfl (fun ls hl => ?_)
                          refine lv_goto (tgt := 123) hx hb dX10_checksum_165 (by decide) ?_
                          exact ih_123 h_135 mc_135 ms_135 v1_135 x162 cl_135 sl_135 H locs ls ⟨by omega, by omega⟩ hP hD hS (lv_sub hl [1, 2, 0] rfl) hm
                        · have hm := hm.2 c_138
                          refine lv_ldc2 (v := 31) hx hb hown (hts (.constantLong RX10 138 (31)) ((List.mem_of_getElem? (i := 1) rfl))) dX10_checksum_141 ?_
                          refine lv_lload_n hx hb dX10_checksum_144 rfl (lv_at hl 1 rfl) ?_
                          refine lv_lmul hx hb dX10_checksum_145 ?_
                          refine lv_topl (fun x145 ex145 => ?_)
                          have hm := hm x145 ex145
                          refine lv_aload_n hx hb dX10_checksum_146 rfl (lv_at hl 0 rfl) ?_
                          refine lv_iload_n hx hb dX10_checksum_147 rfl (lv_at hl 2 rfl) ?_
                          refine lv_iload hx hb dX10_checksum_148 (lv_at hl 3 rfl) ?_
                          obtain ⟨⟨wr150, fr150, hrq150⟩, hm⟩ := hm
                          refine hcVi (As := [.int v3_123, .int v4_135]) (rest := [.long x145]) ⟨hx, hb, hml, hown, hts⟩ (h_X10_ofTrain l G K c h_135 a0 v3_123 v4_135 _ hm) (cwV 2 hts gX10_checksum_X10_ofTrain rfl rfl rfl (heV_X10_ofTrain) ⟨Nat.le_of_ble_eq_true rfl, Nat.le_of_ble_eq_true rfl⟩) hK hN hZ hXX hP hD hS hA (mr_recv hK (mRd hK hP hZ hS) (ci := 10) rfl hrq150) rfl hl.1 rfl (Nat.le_of_ble_eq_true rfl) dX10_checksum_150 ⟨by show cl_135 + 0 ≤ mc; omega, by show sl_135 + 0 ≤ ms; omega⟩ (fun r150 h150 H locs hm hP hD hS => ?_)
                          refine lv_i2l hx hb dX10_checksum_153 rfl ?_
                          refine lv_topl (fun x153 ex153 => ?_)
                          have hm := hm x153 ex153
                          refine lv_ladd hx hb dX10_checksum_154 ?_
                          refine lv_topl (fun x154 ex154 => ?_)
                          have hm := hm x154 ex154
                          refine lv_lstore_n (lv' := [(1, .long x154), (0, .ref a0), (3, .int v3_123), (4, .int v4_135)]) hx hb dX10_checksum_155 rfl hl (by decide) rfl (fun ls hl => ?_)
                          obtain ⟨x156, ex156⟩ : ∃ z : Int32, z = (v4_135 + 1) := ⟨_, rfl⟩
                          have hm := hm x156 ex156
                          refine lv_iinc (k := 3) (v := x156) (lv' := [(4, .int x156), (1, .long x154), (0, .ref a0), (3, .int v3_123)]) hx hb dX10_checksum_156 hl rfl ex156.symm (by decide) rfl (fun ls hl => ?_)
                          refine lv_goto (tgt := 135) hx hb dX10_checksum_159 (by decide) ?_
                          exact ih_135 h150 mc_135 ms_135 x154 x156 cl_135 sl_135 H locs ls ⟨by omega, by omega⟩ hP hD hS (lv_sub hl [2, 1, 3, 0] rfl) hm
                    exact L_135 n_135 h_123 mc_123 ms_123 v1_123 (0 : Int32) cl_123 sl_123 H locs ls ⟨by omega, by omega⟩ hP hD hS (lv_sub hl [1, 2, 3, 0] rfl) hm
              exact L_123 n_123 h_31 mc_31 ms_31 v1_31 (0 : Int32) cl_31 sl_31 H locs ls ⟨by omega, by omega⟩ hP hD hS (lv_sub hl [1, 2, 0] rfl) hm
            · have hm := hm.2 c_37
              refine lv_iconst (v := 0) hx hb dX10_checksum_40 (by decide) ?_
              refine lv_istore (lv' := [(4, .int (0 : Int32)), (0, .ref a0), (1, .long v1_31), (3, .int v3_31)]) hx hb dX10_checksum_41 hl (by decide) rfl (fun ls hl => ?_)
              obtain ⟨n_43, hm⟩ := hm
              have L_43 : ∀ (n_43 : Nat) (h_43 : HW) (mc_43 : Nat) (ms_43 : Nat) (v1_43 : Int64) (v4_43 : Int32) (cl_43 sl_43 : Nat) (H : Heap) (locs : List Loc) (ls : Array Slot), cl_43 + mc_43 ≤ mc ∧ sl_43 + ms_43 ≤ ms → mP G K h_43 H → mD A h_43 → va_S A s.heap H locs → lv_has ls 8 [(0, .ref a0), (1, .long v1_43), (3, .int v3_31), (4, .int v4_43)] → itP5 (w_X10_checksum_B43 c K a0 rec_31 v3_31) n_43 h_43 mc_43 ms_43 v1_43 v4_43 → W p l e (rm_X10_checksum mc ms) s m args below meth c1 H locs cl_43 sl_43 Q (F0 m 43 ls []) := by
                intro n_43
                induction n_43 with
                | zero => intro h_43 mc_43 ms_43 v1_43 v4_43 cl_43 sl_43 H locs ls hf hP hD hS hl hm; exact hm.elim
                | succ n_43 ih_43 =>
                  intro h_43 mc_43 ms_43 v1_43 v4_43 cl_43 sl_43 H locs ls hf hP hD hS hl hm
                  have hm : (w_X10_checksum_B43 c K a0 rec_31 v3_31) (itP5 (w_X10_checksum_B43 c K a0 rec_31 v3_31) n_43) h_43 mc_43 ms_43 v1_43 v4_43 := hm
                  generalize itP5 (w_X10_checksum_B43 c K a0 rec_31 v3_31) n_43 = rec_43 at hm ih_43
                  unfold w_X10_checksum_B43 at hm
                  refine lv_iload hx hb dX10_checksum_43 (lv_at hl 3 rfl) ?_
                  refine lv_iconst (v := 4) hx hb dX10_checksum_45 (by decide) ?_
                  refine lv_icmp_ge (tgt := 70) hx hb dX10_checksum_46 (by decide) (fun c_46 => ?_) (fun c_46 => ?_)
                  · have hm := hm.1 c_46
                    refine lv_aload_n hx hb dX10_checksum_70 rfl (lv_at hl 0 rfl) ?_
                    refine lv_iload_n hx hb dX10_checksum_71 rfl (lv_at hl 2 rfl) ?_
                    obtain ⟨⟨wr72, fr72, hrq72⟩, hm⟩ := hm
                    obtain ⟨m72, z72, mB72, zB72, hbm72, hbs72, hm⟩ := hm
                    refine hcVq (As := [.int v3_31]) (rest := []) ⟨hx, hb, hml, hown, hts⟩ (h_X10_sorted l G K c h_43 a0 v3_31 m72 z72 _ hm) (cwV 1 hts gX10_checksum_X10_sorted rfl rfl rfl (heV_X10_sorted) ⟨Nat.le_of_ble_eq_true rfl, Nat.le_of_ble_eq_true rfl⟩) hK hN hZ hXX hP hD hS hA (mr_recv hK (mRd hK hP hZ hS) (ci := 10) rfl hrq72) rfl hl.1 rfl (Nat.le_of_ble_eq_true rfl) dX10_checksum_72 ⟨by show cl_43 + m72 ≤ mc; omega, by show sl_43 + z72 ≤ ms; omega⟩ (fun r72 h72 H locs hm hP hD hS => ?_)
                    obtain ⟨a72, rfl, hm⟩ := hm
                    replace hf : (cl_43 + m72) + mB72 ≤ mc ∧ (sl_43 + z72) + zB72 ≤ ms := ⟨by omega, by omega⟩
                    clear hbm72 hbs72
                    refine lv_astore (lv' := [(4, .ref a72), (0, .ref a0), (1, .long v1_43), (3, .int v3_31)]) hx hb dX10_checksum_75 hl (by decide) rfl (fun ls hl => ?_)
                    refine lv_aload hx hb dX10_checksum_77 (lv_at hl 0 rfl) ?_
                    obtain ⟨wq79, xx79, hq79, hm⟩ := hm
                    refine mr_alen hx hb hK (mRd hK hP hZ hS) 0 hq79 rfl dX10_checksum_79 (fun x79 ex79 => ?_)
                    have hm := hm x79 ex79
                    refine lv_istore (lv' := [(5, .int x79), (4, .ref a72), (0, .ref a0), (1, .long v1_43), (3, .int v3_31)]) hx hb dX10_checksum_80 hl (by decide) rfl (fun ls hl => ?_)
                    refine lv_iconst (v := 0) hx hb dX10_checksum_82 (by decide) ?_
                    refine lv_istore (lv' := [(6, .int (0 : Int32)), (5, .int x79), (4, .ref a72), (0, .ref a0), (1, .long v1_43), (3, .int v3_31)]) hx hb dX10_checksum_83 hl (by decide) rfl (fun ls hl => ?_)
                    obtain ⟨n_85, hm⟩ := hm
                    have L_85 : ∀ (n_85 : Nat) (mc_85 : Nat) (ms_85 : Nat) (v1_85 : Int64) (v6_85 : Int32) (cl_85 sl_85 : Nat) (H : Heap) (locs : List Loc) (ls : Array Slot), cl_85 + mc_85 ≤ mc ∧ sl_85 + ms_85 ≤ ms → mP G K h72 H → mD A h72 → va_S A s.heap H locs → lv_has ls 8 [(0, .ref a0), (1, .long v1_85), (3, .int v3_31), (4, .ref a72), (5, .int x79), (6, .int v6_85)] → itP4 (w_X10_checksum_B85 c K rec_31 v3_31 h72 a72 x79) n_85 mc_85 ms_85 v1_85 v6_85 → W p l e (rm_X10_checksum mc ms) s m args below meth c1 H locs cl_85 sl_85 Q (F0 m 85 ls []) := by
                      intro n_85
                      induction n_85 with
                      | zero => intro mc_85 ms_85 v1_85 v6_85 cl_85 sl_85 H locs ls hf hP hD hS hl hm; exact hm.elim
                      | succ n_85 ih_85 =>
                        intro mc_85 ms_85 v1_85 v6_85 cl_85 sl_85 H locs ls hf hP hD hS hl hm
                        have hm : (w_X10_checksum_B85 c K rec_31 v3_31 h72 a72 x79) (itP4 (w_X10_checksum_B85 c K rec_31 v3_31 h72 a72 x79) n_85) mc_85 ms_85 v1_85 v6_85 := hm
                        generalize itP4 (w_X10_checksum_B85 c K rec_31 v3_31 h72 a72 x79) n_85 = rec_85 at hm ih_85
                        unfold w_X10_checksum_B85 at hm
                        refine lv_iload hx hb dX10_checksum_85 (lv_at hl 5 rfl) ?_
                        refine lv_iload hx hb dX10_checksum_87 (lv_at hl 4 rfl) ?_
                        refine lv_icmp_ge (tgt := 115) hx hb dX10_checksum_89 (by decide) (fun c_89 => ?_) (fun c_89 => ?_)
                        · have hm := hm.1 c_89
                          obtain ⟨x115, ex115⟩ : ∃ z : Int32, z = (v3_31 + 1) := ⟨_, rfl⟩
                          have hm := hm x115 ex115
                          refine lv_iinc (k := 2) (v := x115) (lv' := [(3, .int x115), (0, .ref a0), (1, .long v1_85), (4, .ref a72), (5, .int x79), (6, .int v6_85)]) hx hb dX10_checksum_115 hl rfl ex115.symm (by decide) rfl (fun ls hl => ?_)
                          refine lv_goto (tgt := 31) hx hb dX10_checksum_118 (by decide) ?_
                          exact ih_31 h72 mc_85 ms_85 v1_85 x115 cl_85 sl_85 H locs ls ⟨by omega, by omega⟩ hP hD hS (lv_sub hl [1, 2, 0] rfl) hm
                        · have hm := hm.2 c_89
                          refine lv_aload hx hb dX10_checksum_92 (lv_at hl 3 rfl) ?_
                          refine lv_iload hx hb dX10_checksum_94 (lv_at hl 5 rfl) ?_
                          obtain ⟨wq96, n96, f96, hq96, hi96, hm⟩ := hm
                          refine mr_iald hx hb hK (mRd hK hP hZ hS) 0 hq96 rfl hi96 dX10_checksum_96 (fun x96 ex96 => ?_)
                          have hm := hm x96 ex96
                          refine lv_istore (lv' := [(7, .int x96), (0, .ref a0), (1, .long v1_85), (3, .int v3_31), (4, .ref a72), (5, .int x79), (6, .int v6_85)]) hx hb dX10_checksum_97 hl (by decide) rfl (fun ls hl => ?_)
                          refine lv_ldc2 (v := 31) hx hb hown (hts (.constantLong RX10 138 (31)) ((List.mem_of_getElem? (i := 1) rfl))) dX10_checksum_99 ?_
                          refine lv_lload_n hx hb dX10_checksum_102 rfl (lv_at hl 2 rfl) ?_
                          refine lv_lmul hx hb dX10_checksum_103 ?_
                          refine lv_topl (fun x103 ex103 => ?_)
                          have hm := hm x103 ex103
                          refine lv_iload hx hb dX10_checksum_104 (lv_at hl 0 rfl) ?_
                          refine lv_i2l hx hb dX10_checksum_106 rfl ?_
                          refine lv_topl (fun x106 ex106 => ?_)
                          have hm := hm x106 ex106
                          refine lv_ladd hx hb dX10_checksum_107 ?_
                          refine lv_topl (fun x107 ex107 => ?_)
                          have hm := hm x107 ex107
                          refine lv_lstore_n (lv' := [(1, .long x107), (7, .int x96), (0, .ref a0), (3, .int v3_31), (4, .ref a72), (5, .int x79), (6, .int v6_85)]) hx hb dX10_checksum_108 rfl hl (by decide) rfl (fun ls hl => ?_)
                          obtain ⟨x109, ex109⟩ : ∃ z : Int32, z = (v6_85 + 1) := ⟨_, rfl⟩
                          have hm := hm x109 ex109
                          refine lv_iinc (k := 6) (v := x109) (lv' := [(6, .int x109), (1, .long x107), (7, .int x96), (0, .ref a0), (3, .int v3_31), (4, .ref a72), (5, .int x79)]) hx hb dX10_checksum_109 hl rfl ex109.symm (by decide) rfl (fun ls hl => ?_)
                          refine lv_goto (tgt := 85) hx hb dX10_checksum_112 (by decide) ?_
                          exact ih_85 mc_85 ms_85 x107 x109 cl_85 sl_85 H locs ls ⟨by omega, by omega⟩ hP hD hS (lv_sub hl [3, 1, 4, 5, 6, 0] rfl) hm
                    exact L_85 n_85 mB72 zB72 v1_43 (0 : Int32) (cl_43 + m72) (sl_43 + z72) H locs ls ⟨by omega, by omega⟩ hP hD hS (lv_sub hl [3, 4, 5, 2, 1, 0] rfl) hm
                  · have hm := hm.2 c_46
                    refine lv_ldc2 (v := 31) hx hb hown (hts (.constantLong RX10 138 (31)) ((List.mem_of_getElem? (i := 1) rfl))) dX10_checksum_49 ?_
                    refine lv_lload_n hx hb dX10_checksum_52 rfl (lv_at hl 1 rfl) ?_
                    refine lv_lmul hx hb dX10_checksum_53 ?_
                    refine lv_topl (fun x53 ex53 => ?_)
                    have hm := hm x53 ex53
                    refine lv_aload_n hx hb dX10_checksum_54 rfl (lv_at hl 0 rfl) ?_
                    refine lv_iload_n hx hb dX10_checksum_55 rfl (lv_at hl 2 rfl) ?_
                    refine lv_iload hx hb dX10_checksum_56 (lv_at hl 3 rfl) ?_
                    obtain ⟨⟨wr58, fr58, hrq58⟩, hm⟩ := hm
                    refine hcVi (As := [.int v3_31, .int v4_43]) (rest := [.long x53]) ⟨hx, hb, hml, hown, hts⟩ (h_X10_ofPlayer l G K c h_43 a0 v3_31 v4_43 _ hm) (cwV 2 hts gX10_checksum_X10_ofPlayer rfl rfl rfl (heV_X10_ofPlayer) ⟨Nat.le_of_ble_eq_true rfl, Nat.le_of_ble_eq_true rfl⟩) hK hN hZ hXX hP hD hS hA (mr_recv hK (mRd hK hP hZ hS) (ci := 10) rfl hrq58) rfl hl.1 rfl (Nat.le_of_ble_eq_true rfl) dX10_checksum_58 ⟨by show cl_43 + 0 ≤ mc; omega, by show sl_43 + 0 ≤ ms; omega⟩ (fun r58 h58 H locs hm hP hD hS => ?_)
                    refine lv_i2l hx hb dX10_checksum_61 rfl ?_
                    refine lv_topl (fun x61 ex61 => ?_)
                    have hm := hm x61 ex61
                    refine lv_ladd hx hb dX10_checksum_62 ?_
                    refine lv_topl (fun x62 ex62 => ?_)
                    have hm := hm x62 ex62
                    refine lv_lstore_n (lv' := [(1, .long x62), (0, .ref a0), (3, .int v3_31), (4, .int v4_43)]) hx hb dX10_checksum_63 rfl hl (by decide) rfl (fun ls hl => ?_)
                    obtain ⟨x64, ex64⟩ : ∃ z : Int32, z = (v4_43 + 1) := ⟨_, rfl⟩
                    have hm := hm x64 ex64
                    refine lv_iinc (k := 3) (v := x64) (lv' := [(4, .int x64), (1, .long x62), (0, .ref a0), (3, .int v3_31)]) hx hb dX10_checksum_64 hl rfl ex64.symm (by decide) rfl (fun ls hl => ?_)
                    refine lv_goto (tgt := 43) hx hb dX10_checksum_67 (by decide) ?_
                    exact ih_43 h58 mc_43 ms_43 x62 x64 cl_43 sl_43 H locs ls ⟨by omega, by omega⟩ hP hD hS (lv_sub hl [2, 1, 3, 0] rfl) hm
              exact L_43 n_43 h_31 mc_31 ms_31 v1_31 (0 : Int32) cl_31 sl_31 H locs ls ⟨by omega, by omega⟩ hP hD hS (lv_sub hl [1, 2, 3, 0] rfl) hm
        exact L_31 n_31 h_4 mc_4 ms_4 v1_4 (0 : Int32) cl_4 sl_4 H locs ls ⟨by omega, by omega⟩ hP hD hS (lv_sub hl [1, 2, 0] rfl) hm
      · have hm := hm.2 c_7
        refine lv_ldc2 (v := 31) hx hb hown (hts (.constantLong RX10 138 (31)) ((List.mem_of_getElem? (i := 1) rfl))) dX10_checksum_10 ?_
        refine lv_lload_n hx hb dX10_checksum_13 rfl (lv_at hl 1 rfl) ?_
        refine lv_lmul hx hb dX10_checksum_14 ?_
        refine lv_topl (fun x14 ex14 => ?_)
        have hm := hm x14 ex14
        refine lv_aload_n hx hb dX10_checksum_15 rfl (lv_at hl 0 rfl) ?_
        refine lv_iload_n hx hb dX10_checksum_16 rfl (lv_at hl 2 rfl) ?_
        obtain ⟨⟨wr17, fr17, hrq17⟩, hm⟩ := hm
        refine hcVi (As := [.int v3_4]) (rest := [.long x14]) ⟨hx, hb, hml, hown, hts⟩ (h_X10_told l G K c h_4 a0 v3_4 _ hm) (cwV 1 hts gX10_checksum_X10_told rfl rfl rfl (heV_X10_told) ⟨Nat.le_of_ble_eq_true rfl, Nat.le_of_ble_eq_true rfl⟩) hK hN hZ hXX hP hD hS hA (mr_recv hK (mRd hK hP hZ hS) (ci := 10) rfl hrq17) rfl hl.1 rfl (Nat.le_of_ble_eq_true rfl) dX10_checksum_17 ⟨by show cl_4 + 0 ≤ mc; omega, by show sl_4 + 0 ≤ ms; omega⟩ (fun r17 h17 H locs hm hP hD hS => ?_)
        refine lv_i2l hx hb dX10_checksum_20 rfl ?_
        refine lv_topl (fun x20 ex20 => ?_)
        have hm := hm x20 ex20
        refine lv_ladd hx hb dX10_checksum_21 ?_
        refine lv_topl (fun x21 ex21 => ?_)
        have hm := hm x21 ex21
        refine lv_lstore_n (lv' := [(1, .long x21), (0, .ref a0), (3, .int v3_4)]) hx hb dX10_checksum_22 rfl hl (by decide) rfl (fun ls hl => ?_)
        obtain ⟨x23, ex23⟩ : ∃ z : Int32, z = (v3_4 + 1) := ⟨_, rfl⟩
        have hm := hm x23 ex23
        refine lv_iinc (k := 2) (v := x23) (lv' := [(3, .int x23), (1, .long x21), (0, .ref a0)]) hx hb dX10_checksum_23 hl rfl ex23.symm (by decide) rfl (fun ls hl => ?_)
        refine lv_goto (tgt := 4) hx hb dX10_checksum_26 (by decide) ?_
        exact ih_4 h17 mc_4 ms_4 x21 x23 cl_4 sl_4 H locs ls ⟨by omega, by omega⟩ hP hD hS (lv_sub hl [2, 1, 0] rfl) hm
  exact L_4 n_4 h mc ms (0 : Int64) (0 : Int32) 0 0 H locs ls ⟨by omega, by omega⟩ hP hD hS (lv_sub hl [2, 1, 0] rfl) hm

