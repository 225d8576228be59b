set_option maxRecDepth 100000 in
set_option maxHeartbeats 4000000 in
theorem w_L_law_837 (o : zW) (x5 : Int32) (x6 : Int32) (x7 : Int32) (x8 : Int32) (x9 : Int32) (x16 : Int32) (x17 : Int32) (x18 : Int32) (x19 : Int32) (x21 : Int32) (S : zS) (Q : Option Value → zS → Prop) (h : zG o 970 mdL_law 711 [(0, .ref o.2.2.2.2.1), (1, .ref (z_adr o (0, 0, 0))), (2, .ref (z_adr o (23, 0, 0))), (3, .ref (z_adr o (24, 0, 0))), (4, .int 1), (5, .int x5), (6, .int x6), (7, .int x7), (8, .int x8), (9, .int x9), (16, .int x16), (17, .int x17), (18, .int x18), (19, .int x19), (21, .int (x21 + 1))] [] S Q) : zG o 970 mdL_law 837 [(0, .ref o.2.2.2.2.1), (1, .ref (z_adr o (0, 0, 0))), (2, .ref (z_adr o (23, 0, 0))), (3, .ref (z_adr o (24, 0, 0))), (4, .int 1), (5, .int x5), (6, .int x6), (7, .int x7), (8, .int x8), (9, .int x9), (16, .int x16), (17, .int x17), (18, .int x18), (19, .int x19), (21, .int x21)] [] S Q := by
  show zJ o mdL_law 837 _ [] (970, z_enc o S) 0 0 _
  refine zJ.iinc (pc := 837) (k := 14) (lv' := [(21, .int (x21 + 1)), (0, .ref o.2.2.2.2.1), (1, .ref (z_adr o (0, 0, 0))), (2, .ref (z_adr o (23, 0, 0))), (3, .ref (z_adr o (24, 0, 0))), (4, .int 1), (5, .int x5), (6, .int x6), (7, .int x7), (8, .int x8), (9, .int x9), (16, .int x16), (17, .int x17), (18, .int x18), (19, .int x19)]) dL_law_837 rfl rfl (Nat.le_of_ble_eq_true rfl) rfl ?_
  refine zJ.goto (pc := 840) (tgt := 711) dL_law_840 (by decide) ?_
  exact zJ.sub [1, 2, 3, 4, 5, 6, 7, 8, 9, 10, 11, 12, 13, 14, 0] rfl h
set_option maxRecDepth 100000 in
set_option maxHeartbeats 4000000 in
theorem w_L_law_852 (o : zW) (x5 : Int32) (x6 : Int32) (x7 : Int32) (x8 : Int32) (x9 : Int32) (x16 : Int32) (x17 : Int32) (x18 : Int32) (S : zS) (Q : Option Value → zS → Prop) (h : (4 ≤ x18 → (zG o 970 mdL_law 950 [(0, .ref o.2.2.2.2.1), (1, .ref (z_adr o (0, 0, 0))), (2, .ref (z_adr o (23, 0, 0))), (3, .ref (z_adr o (24, 0, 0))), (4, .int 1), (5, .int x5), (6, .int x6), (7, .int x7), (8, .int x8), (9, .int x9), (16, .int x16), (17, .int x17), (18, .int 0), (19, .int 0)] [] S Q)) ∧ (¬ 4 ≤ x18 → (zG o 970 mdL_law 861 [(0, .ref o.2.2.2.2.1), (1, .ref (z_adr o (0, 0, 0))), (2, .ref (z_adr o (23, 0, 0))), (3, .ref (z_adr o (24, 0, 0))), (4, .int 1), (5, .int x5), (6, .int x6), (7, .int x7), (8, .int x8), (9, .int x9), (16, .int x16), (17, .int x17), (18, .int x18), (19, .int 0)] [] S Q))) : zG o 970 mdL_law 852 [(0, .ref o.2.2.2.2.1), (1, .ref (z_adr o (0, 0, 0))), (2, .ref (z_adr o (23, 0, 0))), (3, .ref (z_adr o (24, 0, 0))), (4, .int 1), (5, .int x5), (6, .int x6), (7, .int x7), (8, .int x8), (9, .int x9), (16, .int x16), (17, .int x17), (18, .int x18)] [] S Q := by
  show zJ o mdL_law 852 _ [] (970, z_enc o S) 0 0 _
  refine zJ.iload (pc := 852) 12 dL_law_852 rfl ?_
  refine zJ.iconst (pc := 854) (v := 4) dL_law_854 (by decide) ?_
  refine zJ.icmp_ge (pc := 855) (tgt := 944) dL_law_855 (by decide) (fun c1 => ?_) (fun c1 => ?_)
  · replace h := h.1 c1
    refine zJ.iconst (pc := 944) (v := 0) dL_law_944 (by decide) ?_
    refine zJ.istore (pc := 945) (lv' := [(18, .int 0), (0, .ref o.2.2.2.2.1), (1, .ref (z_adr o (0, 0, 0))), (2, .ref (z_adr o (23, 0, 0))), (3, .ref (z_adr o (24, 0, 0))), (4, .int 1), (5, .int x5), (6, .int x6), (7, .int x7), (8, .int x8), (9, .int x9), (16, .int x16), (17, .int x17)]) dL_law_945 (Nat.le_of_ble_eq_true rfl) rfl ?_
    refine zJ.iconst (pc := 947) (v := 0) dL_law_947 (by decide) ?_
    refine zJ.istore (pc := 948) (lv' := [(19, .int 0), (18, .int 0), (0, .ref o.2.2.2.2.1), (1, .ref (z_adr o (0, 0, 0))), (2, .ref (z_adr o (23, 0, 0))), (3, .ref (z_adr o (24, 0, 0))), (4, .int 1), (5, .int x5), (6, .int x6), (7, .int x7), (8, .int x8), (9, .int x9), (16, .int x16), (17, .int x17)]) dL_law_948 (Nat.le_of_ble_eq_true rfl) rfl ?_
    exact zJ.sub [2, 3, 4, 5, 6, 7, 8, 9, 10, 11, 12, 13, 1, 0] rfl h
  · replace h := h.2 c1
    refine zJ.iconst (pc := 858) (v := 0) dL_law_858 (by decide) ?_
    refine zJ.istore (pc := 859) (lv' := [(19, .int 0), (0, .ref o.2.2.2.2.1), (1, .ref (z_adr o (0, 0, 0))), (2, .ref (z_adr o (23, 0, 0))), (3, .ref (z_adr o (24, 0, 0))), (4, .int 1), (5, .int x5), (6, .int x6), (7, .int x7), (8, .int x8), (9, .int x9), (16, .int x16), (17, .int x17), (18, .int x18)]) dL_law_859 (Nat.le_of_ble_eq_true rfl) rfl ?_
    exact zJ.sub [1, 2, 3, 4, 5, 6, 7, 8, 9, 10, 11, 12, 13, 0] rfl h
set_option maxRecDepth 100000 in
set_option maxHeartbeats 4000000 in
theorem w_L_law_861 (o : zW) (x5 : Int32) (x6 : Int32) (x7 : Int32) (x8 : Int32) (x9 : Int32) (x16 : Int32) (x17 : Int32) (x18 : Int32) (x19 : Int32) (S : zS) (Q : Option Value → zS → Prop) (h : (3 ≤ x19 → (zG o 970 mdL_law 852 [(0, .ref o.2.2.2.2.1), (1, .ref (z_adr o (0, 0, 0))), (2, .ref (z_adr o (23, 0, 0))), (3, .ref (z_adr o (24, 0, 0))), (4, .int 1), (5, .int x5), (6, .int x6), (7, .int x7), (8, .int x8), (9, .int x9), (16, .int x16), (17, .int x17), (18, .int (x18 + 1))] [] S Q)) ∧ (¬ 3 ≤ x19 → (zGi o 970 mdX4_told [.ref (z_adr o (0, 0, 0)), .int 4] S (fun r4 S5 => (x19 < r4 → (zGi o 970 mdX4_place [.ref (z_adr o (0, 0, 0)), .int x18, .int x19] S5 (fun r8 S9 => (0 ≤ r8 → (zG o 970 mdL_law 932 [(0, .ref o.2.2.2.2.1), (1, .ref (z_adr o (0, 0, 0))), (2, .ref (z_adr o (23, 0, 0))), (3, .ref (z_adr o (24, 0, 0))), (4, .int 1), (5, .int x5), (6, .int x6), (7, .int x7), (8, .int x8), (9, .int x9), (16, .int x16), (17, .int x17), (18, .int x18), (19, .int x19)] [] S9 Q)) ∧ (¬ 0 ≤ r8 → ((x19 = 2 → (zG o 970 mdL_law 932 [(0, .ref o.2.2.2.2.1), (1, .ref (z_adr o (0, 0, 0))), (2, .ref (z_adr o (23, 0, 0))), (3, .ref (z_adr o (24, 0, 0))), (4, .int 1), (5, .int x5), (6, .int x6), (7, .int x7), (8, .int x8), (9, .int x9), (16, .int x16), (17, .int x17), (18, .int x18), (19, .int x19)] [] S9 Q)) ∧ (¬ x19 = 2 → (zGi o 970 mdX4_place [.ref (z_adr o (0, 0, 0)), .int x18, .int (x19 + 1)] S9 (fun r13 S14 => (¬ (¬ r13 = (-1))) ∧ (zG o 970 mdL_law 932 [(0, .ref o.2.2.2.2.1), (1, .ref (z_adr o (0, 0, 0))), (2, .ref (z_adr o (23, 0, 0))), (3, .ref (z_adr o (24, 0, 0))), (4, .int 1), (5, .int x5), (6, .int x6), (7, .int x7), (8, .int x8), (9, .int x9), (16, .int x16), (17, .int x17), (18, .int x18), (19, .int x19)] [] S14 Q))))))))) ∧ (¬ x19 < r4 → (zGi o 970 mdX4_place [.ref (z_adr o (0, 0, 0)), .int x18, .int x19] S5 (fun r17 S18 => (¬ (¬ r17 = (-1))) ∧ (zGi o 970 mdX4_place [.ref (z_adr o (0, 0, 0)), .int x18, .int x19] S18 (fun r21 S22 => (0 ≤ r21 → (zG o 970 mdL_law 932 [(0, .ref o.2.2.2.2.1), (1, .ref (z_adr o (0, 0, 0))), (2, .ref (z_adr o (23, 0, 0))), (3, .ref (z_adr o (24, 0, 0))), (4, .int 1), (5, .int x5), (6, .int x6), (7, .int x7), (8, .int x8), (9, .int x9), (16, .int x16), (17, .int x17), (18, .int x18), (19, .int x19)] [] S22 Q)) ∧ (¬ 0 ≤ r21 → ((x19 = 2 → (zG o 970 mdL_law 932 [(0, .ref o.2.2.2.2.1), (1, .ref (z_adr o (0, 0, 0))), (2, .ref (z_adr o (23, 0, 0))), (3, .ref (z_adr o (24, 0, 0))), (4, .int 1), (5, .int x5), (6, .int x6), (7, .int x7), (8, .int x8), (9, .int x9), (16, .int x16), (17, .int x17), (18, .int x18), (19, .int x19)] [] S22 Q)) ∧ (¬ x19 = 2 → (zGi o 970 mdX4_place [.ref (z_adr o (0, 0, 0)), .int x18, .int (x19 + 1)] S22 (fun r26 S27 => (¬ (¬ r26 = (-1))) ∧ (zG o 970 mdL_law 932 [(0, .ref o.2.2.2.2.1), (1, .ref (z_adr o (0, 0, 0))), (2, .ref (z_adr o (23, 0, 0))), (3, .ref (z_adr o (24, 0, 0))), (4, .int 1), (5, .int x5), (6, .int x6), (7, .int x7), (8, .int x8), (9, .int x9), (16, .int x16), (17, .int x17), (18, .int x18), (19, .int x19)] [] S27 Q))))))))))))))) : zG o 970 mdL_law 861 [(0, .ref o.2.2.2.2.1), (1, .ref (z_adr o (0, 0, 0))), (2, .ref (z_adr o (23, 0, 0))), (3, .ref (z_adr o (24, 0, 0))), (4, .int 1), (5, .int x5), (6, .int x6), (7, .int x7), (8, .int x8), (9, .int x9), (16, .int x16), (17, .int x17), (18, .int x18), (19, .int x19)] [] S Q := by
  show zJ o mdL_law 861 _ [] (970, z_enc o S) 0 0 _
  refine zJ.iload (pc := 861) 13 dL_law_861 rfl ?_
  refine zJ.iconst (pc := 863) (v := 3) dL_law_863 (by decide) ?_
  refine zJ.icmp_ge (pc := 864) (tgt := 938) dL_law_864 (by decide) (fun c1 => ?_) (fun c1 => ?_)
  · replace h := h.1 c1
    refine zJ.iinc (pc := 938) (k := 12) (lv' := [(18, .int (x18 + 1)), (0, .ref o.2.2.2.2.1), (1, .ref (z_adr o (0, 0, 0))), (2, .ref (z_adr o (23, 0, 0))), (3, .ref (z_adr o (24, 0, 0))), (4, .int 1), (5, .int x5), (6, .int x6), (7, .int x7), (8, .int x8), (9, .int x9), (16, .int x16), (17, .int x17), (19, .int x19)]) dL_law_938 rfl rfl (Nat.le_of_ble_eq_true rfl) rfl ?_
    refine zJ.goto (pc := 941) (tgt := 852) dL_law_941 (by decide) ?_
    exact zJ.sub [1, 2, 3, 4, 5, 6, 7, 8, 9, 10, 11, 12, 0] rfl h
  · replace h := h.2 c1
    refine zJ.iload (pc := 867) 4 dL_law_867 rfl ?_
    refine zJ.if_eq (pc := 869) (tgt := 929) dL_law_869 (by decide) (fun c2 => absurd c2 (by decide)) (fun c2 => ?_)
    refine zJ.iload (pc := 872) 13 dL_law_872 rfl ?_
    refine zJ.aload_n (pc := 874) 1 dL_law_874 rfl rfl ?_
    refine zJ.iconst (pc := 875) (v := 4) dL_law_875 (by decide) ?_
    refine zG.callVi (d := mdL_law) (pc := 876) [.int 4] [.int x19] (ob_0 o) ok_0 rfl dL_law_876 ⟨(cb_X4_told).1, (cb_X4_told).2, (Nat.le_of_ble_eq_true rfl), (Nat.le_of_ble_eq_true rfl)⟩ ml_L_80 ci_X4_told cv_X4_told rfl (Nat.le_of_ble_eq_true rfl) (Nat.le_of_ble_eq_true rfl) rfl h (fun r4 S5 h2 => ?_)
    replace h := h2
    clear h2
    refine zJ.icmp_lt (pc := 879) (tgt := 894) dL_law_879 (by decide) (fun c6 => ?_) (fun c6 => ?_)
    · replace h := h.1 c6
      refine zJ.aload_n (pc := 894) 1 dL_law_894 rfl rfl ?_
      refine zJ.iload (pc := 895) 12 dL_law_895 rfl ?_
      refine zJ.iload (pc := 897) 13 dL_law_897 rfl ?_
      refine zG.callVi (d := mdL_law) (pc := 899) [.int x18, .int x19] [] (ob_0 o) ok_0 rfl dL_law_899 ⟨(cb_X4_place).1, (cb_X4_place).2, (Nat.le_of_ble_eq_true rfl), (Nat.le_of_ble_eq_true rfl)⟩ ml_L_93 ci_X4_place cv_X4_place rfl (Nat.le_of_ble_eq_true rfl) (Nat.le_of_ble_eq_true rfl) rfl h (fun r8 S9 h2 => ?_)
      replace h := h2
      clear h2
      refine zJ.if_ge (pc := 902) (tgt := 925) dL_law_902 (by decide) (fun c10 => ?_) (fun c10 => ?_)
      · replace h := h.1 c10
        refine zJ.iconst (pc := 925) (v := 1) dL_law_925 (by decide) ?_
        refine zJ.goto (pc := 926) (tgt := 930) dL_law_926 (by decide) ?_
        refine zJ.istore (pc := 930) (lv' := [(4, .int 1), (0, .ref o.2.2.2.2.1), (1, .ref (z_adr o (0, 0, 0))), (2, .ref (z_adr o (23, 0, 0))), (3, .ref (z_adr o (24, 0, 0))), (5, .int x5), (6, .int x6), (7, .int x7), (8, .int x8), (9, .int x9), (16, .int x16), (17, .int x17), (18, .int x18), (19, .int x19)]) dL_law_930 (Nat.le_of_ble_eq_true rfl) rfl ?_
        exact zJ.sub [1, 2, 3, 4, 0, 5, 6, 7, 8, 9, 10, 11, 12, 13] rfl h
      · replace h := h.2 c10
        refine zJ.iload (pc := 905) 13 dL_law_905 rfl ?_
        refine zJ.iconst (pc := 907) (v := 2) dL_law_907 (by decide) ?_
        refine zJ.icmp_eq (pc := 908) (tgt := 925) dL_law_908 (by decide) (fun c11 => ?_) (fun c11 => ?_)
        · replace h := h.1 c11
          refine zJ.iconst (pc := 925) (v := 1) dL_law_925 (by decide) ?_
          refine zJ.goto (pc := 926) (tgt := 930) dL_law_926 (by decide) ?_
          refine zJ.istore (pc := 930) (lv' := [(4, .int 1), (0, .ref o.2.2.2.2.1), (1, .ref (z_adr o (0, 0, 0))), (2, .ref (z_adr o (23, 0, 0))), (3, .ref (z_adr o (24, 0, 0))), (5, .int x5), (6, .int x6), (7, .int x7), (8, .int x8), (9, .int x9), (16, .int x16), (17, .int x17), (18, .int x18), (19, .int x19)]) dL_law_930 (Nat.le_of_ble_eq_true rfl) rfl ?_
          exact zJ.sub [1, 2, 3, 4, 0, 5, 6, 7, 8, 9, 10, 11, 12, 13] rfl h
        · replace h := h.2 c11
          refine zJ.aload_n (pc := 911) 1 dL_law_911 rfl rfl ?_
          refine zJ.iload (pc := 912) 12 dL_law_912 rfl ?_
          refine zJ.iload (pc := 914) 13 dL_law_914 rfl ?_
          refine zJ.iconst (pc := 916) (v := 1) dL_law_916 (by decide) ?_
          refine zJ.iadd (pc := 917) dL_law_917 ?_
          refine zG.callVi (d := mdL_law) (pc := 918) [.int x18, .int (x19 + 1)] [] (ob_0 o) ok_0 rfl dL_law_918 ⟨(cb_X4_place).1, (cb_X4_place).2, (Nat.le_of_ble_eq_true rfl), (Nat.le_of_ble_eq_true rfl)⟩ ml_L_93 ci_X4_place cv_X4_place rfl (Nat.le_of_ble_eq_true rfl) (Nat.le_of_ble_eq_true rfl) rfl h (fun r13 S14 h2 => ?_)
          replace h := h2
          clear h2
          refine zJ.iconst (pc := 921) (v := (-1)) dL_law_921 (by decide) ?_
          obtain ⟨cN, h⟩ := h
          refine zJ.icmp_ne (pc := 922) (tgt := 929) dL_law_922 (by decide) (fun c15 => absurd c15 cN) (fun _ => ?_)
          clear cN
          refine zJ.iconst (pc := 925) (v := 1) dL_law_925 (by decide) ?_
          refine zJ.goto (pc := 926) (tgt := 930) dL_law_926 (by decide) ?_
          refine zJ.istore (pc := 930) (lv' := [(4, .int 1), (0, .ref o.2.2.2.2.1), (1, .ref (z_adr o (0, 0, 0))), (2, .ref (z_adr o (23, 0, 0))), (3, .ref (z_adr o (24, 0, 0))), (5, .int x5), (6, .int x6), (7, .int x7), (8, .int x8), (9, .int x9), (16, .int x16), (17, .int x17), (18, .int x18), (19, .int x19)]) dL_law_930 (Nat.le_of_ble_eq_true rfl) rfl ?_
          exact zJ.sub [1, 2, 3, 4, 0, 5, 6, 7, 8, 9, 10, 11, 12, 13] rfl h
    · replace h := h.2 c6
      refine zJ.aload_n (pc := 882) 1 dL_law_882 rfl rfl ?_
      refine zJ.iload (pc := 883) 12 dL_law_883 rfl ?_
      refine zJ.iload (pc := 885) 13 dL_law_885 rfl ?_
      refine zG.callVi (d := mdL_law) (pc := 887) [.int x18, .int x19] [] (ob_0 o) ok_0 rfl dL_law_887 ⟨(cb_X4_place).1, (cb_X4_place).2, (Nat.le_of_ble_eq_true rfl), (Nat.le_of_ble_eq_true rfl)⟩ ml_L_93 ci_X4_place cv_X4_place rfl (Nat.le_of_ble_eq_true rfl) (Nat.le_of_ble_eq_true rfl) rfl h (fun r17 S18 h2 => ?_)
      replace h := h2
      clear h2
      refine zJ.iconst (pc := 890) (v := (-1)) dL_law_890 (by decide) ?_
      obtain ⟨cN, h⟩ := h
      refine zJ.icmp_ne (pc := 891) (tgt := 929) dL_law_891 (by decide) (fun c19 => absurd c19 cN) (fun _ => ?_)
      clear cN
      refine zJ.aload_n (pc := 894) 1 dL_law_894 rfl rfl ?_
      refine zJ.iload (pc := 895) 12 dL_law_895 rfl ?_
      refine zJ.iload (pc := 897) 13 dL_law_897 rfl ?_
      refine zG.callVi (d := mdL_law) (pc := 899) [.int x18, .int x19] [] (ob_0 o) ok_0 rfl dL_law_899 ⟨(cb_X4_place).1, (cb_X4_place).2, (Nat.le_of_ble_eq_true rfl), (Nat.le_of_ble_eq_true rfl)⟩ ml_L_93 ci_X4_place cv_X4_place rfl (Nat.le_of_ble_eq_true rfl) (Nat.le_of_ble_eq_true rfl) rfl h (fun r21 S22 h2 => ?_)
      replace h := h2
      clear h2
      refine zJ.if_ge (pc := 902) (tgt := 925) dL_law_902 (by decide) (fun c23 => ?_) (fun c23 => ?_)
      · replace h := h.1 c23
        refine zJ.iconst (pc := 925) (v := 1) dL_law_925 (by decide) ?_
        refine zJ.goto (pc := 926) (tgt := 930) dL_law_926 (by decide) ?_
        refine zJ.istore (pc := 930) (lv' := [(4, .int 1), (0, .ref o.2.2.2.2.1), (1, .ref (z_adr o (0, 0, 0))), (2, .ref (z_adr o (23, 0, 0))), (3, .ref (z_adr o (24, 0, 0))), (5, .int x5), (6, .int x6), (7, .int x7), (8, .int x8), (9, .int x9), (16, .int x16), (17, .int x17), (18, .int x18), (19, .int x19)]) dL_law_930 (Nat.le_of_ble_eq_true rfl) rfl ?_
        exact zJ.sub [1, 2, 3, 4, 0, 5, 6, 7, 8, 9, 10, 11, 12, 13] rfl h
      · replace h := h.2 c23
        refine zJ.iload (pc := 905) 13 dL_law_905 rfl ?_
        refine zJ.iconst (pc := 907) (v := 2) dL_law_907 (by decide) ?_
        refine zJ.icmp_eq (pc := 908) (tgt := 925) dL_law_908 (by decide) (fun c24 => ?_) (fun c24 => ?_)
        · replace h := h.1 c24
          refine zJ.iconst (pc := 925) (v := 1) dL_law_925 (by decide) ?_
          refine zJ.goto (pc := 926) (tgt := 930) dL_law_926 (by decide) ?_
          refine zJ.istore (pc := 930) (lv' := [(4, .int 1), (0, .ref o.2.2.2.2.1), (1, .ref (z_adr o (0, 0, 0))), (2, .ref (z_adr o (23, 0, 0))), (3, .ref (z_adr o (24, 0, 0))), (5, .int x5), (6, .int x6), (7, .int x7), (8, .int x8), (9, .int x9), (16, .int x16), (17, .int x17), (18, .int x18), (19, .int x19)]) dL_law_930 (Nat.le_of_ble_eq_true rfl) rfl ?_
          exact zJ.sub [1, 2, 3, 4, 0, 5, 6, 7, 8, 9, 10, 11, 12, 13] rfl h
        · replace h := h.2 c24
          refine zJ.aload_n (pc := 911) 1 dL_law_911 rfl rfl ?_
          refine zJ.iload (pc := 912) 12 dL_law_912 rfl ?_
          refine zJ.iload (pc := 914) 13 dL_law_914 rfl ?_
          refine zJ.iconst (pc := 916) (v := 1) dL_law_916 (by decide) ?_
          refine zJ.iadd (pc := 917) dL_law_917 ?_
          refine zG.callVi (d := mdL_law) (pc := 918) [.int x18, .int (x19 + 1)] [] (ob_0 o) ok_0 rfl dL_law_918 ⟨(cb_X4_place).1, (cb_X4_place).2, (Nat.le_of_ble_eq_true rfl), (Nat.le_of_ble_eq_true rfl)⟩ ml_L_93 ci_X4_place cv_X4_place rfl (Nat.le_of_ble_eq_true rfl) (Nat.le_of_ble_eq_true rfl) rfl h (fun r26 S27 h2 => ?_)
          replace h := h2
          clear h2
          refine zJ.iconst (pc := 921) (v := (-1)) dL_law_921 (by decide) ?_
          obtain ⟨cN, h⟩ := h
          refine zJ.icmp_ne (pc := 922) (tgt := 929) dL_law_922 (by decide) (fun c28 => absurd c28 cN) (fun _ => ?_)
          clear cN
          refine zJ.iconst (pc := 925) (v := 1) dL_law_925 (by decide) ?_
          refine zJ.goto (pc := 926) (tgt := 930) dL_law_926 (by decide) ?_
          refine zJ.istore (pc := 930) (lv' := [(4, .int 1), (0, .ref o.2.2.2.2.1), (1, .ref (z_adr o (0, 0, 0))), (2, .ref (z_adr o (23, 0, 0))), (3, .ref (z_adr o (24, 0, 0))), (5, .int x5), (6, .int x6), (7, .int x7), (8, .int x8), (9, .int x9), (16, .int x16), (17, .int x17), (18, .int x18), (19, .int x19)]) dL_law_930 (Nat.le_of_ble_eq_true rfl) rfl ?_
          exact zJ.sub [1, 2, 3, 4, 0, 5, 6, 7, 8, 9, 10, 11, 12, 13] rfl h
set_option maxRecDepth 100000 in
set_option maxHeartbeats 4000000 in
theorem w_L_law_932 (o : zW) (x5 : Int32) (x6 : Int32) (x7 : Int32) (x8 : Int32) (x9 : Int32) (x16 : Int32) (x17 : Int32) (x18 : Int32) (x19 : Int32) (S : zS) (Q : Option Value → zS → Prop) (h : zG o 970 mdL_law 861 [(0, .ref o.2.2.2.2.1), (1, .ref (z_adr o (0, 0, 0))), (2, .ref (z_adr o (23, 0, 0))), (3, .ref (z_adr o (24, 0, 0))), (4, .int 1), (5, .int x5), (6, .int x6), (7, .int x7), (8, .int x8), (9, .int x9), (16, .int x16), (17, .int x17), (18, .int x18), (19, .int (x19 + 1))] [] S Q) : zG o 970 mdL_law 932 [(0, .ref o.2.2.2.2.1), (1, .ref (z_adr o (0, 0, 0))), (2, .ref (z_adr o (23, 0, 0))), (3, .ref (z_adr o (24, 0, 0))), (4, .int 1), (5, .int x5), (6, .int x6), (7, .int x7), (8, .int x8), (9, .int x9), (16, .int x16), (17, .int x17), (18, .int x18), (19, .int x19)] [] S Q := by
  show zJ o mdL_law 932 _ [] (970, z_enc o S) 0 0 _
  refine zJ.iinc (pc := 932) (k := 13) (lv' := [(19, .int (x19 + 1)), (0, .ref o.2.2.2.2.1), (1, .ref (z_adr o (0, 0, 0))), (2, .ref (z_adr o (23, 0, 0))), (3, .ref (z_adr o (24, 0, 0))), (4, .int 1), (5, .int x5), (6, .int x6), (7, .int x7), (8, .int x8), (9, .int x9), (16, .int x16), (17, .int x17), (18, .int x18)]) dL_law_932 rfl rfl (Nat.le_of_ble_eq_true rfl) rfl ?_
  refine zJ.goto (pc := 935) (tgt := 861) dL_law_935 (by decide) ?_
  exact zJ.sub [1, 2, 3, 4, 5, 6, 7, 8, 9, 10, 11, 12, 13, 0] rfl h
set_option maxRecDepth 100000 in
set_option maxHeartbeats 4000000 in
theorem w_L_law_950 (o : zW) (x5 : Int32) (x6 : Int32) (x7 : Int32) (x8 : Int32) (x9 : Int32) (x16 : Int32) (x17 : Int32) (x18 : Int32) (x19 : Int32) (S : zS) (Q : Option Value → zS → Prop) (h : (x17 ≤ x19 → (zGi o 970 mdX4_told [.ref (z_adr o (0, 0, 0)), .int 5] S (fun r4 S5 => (¬ (r4 < x16)) ∧ (zGi o 970 mdX4_told [.ref (z_adr o (0, 0, 0)), .int 6] S5 (fun r8 S9 => (¬ (r8 < x17)) ∧ (zGi o 970 mdX4_fetch [.ref (z_adr o (0, 0, 0)), .int x17, .int 0] S9 (fun r12 S13 => (¬ (¬ r12 = (-1))) ∧ (zGi o 970 mdX4_often [.ref (z_adr o (0, 0, 0)), .int 0] S13 (fun r16 S17 => zGi o 970 mdX4_often [.ref (z_adr o (0, 0, 0)), .int 1] S17 (fun r19 S20 => zGi o 970 mdX4_often [.ref (z_adr o (0, 0, 0)), .int 2] S20 (fun r22 S23 => zGi o 970 mdX4_often [.ref (z_adr o (0, 0, 0)), .int 3] S23 (fun r25 S26 => (¬ (¬ (((r16 + r19) + r22) + r25) = x7)) ∧ (zGi o 970 mdX4_often [.ref (z_adr o (0, 0, 0)), .int 7] S26 (fun r29 S30 => (¬ (¬ r29 = x6)) ∧ (zGi o 970 mdX4_often [.ref (z_adr o (0, 0, 0)), .int 8] S30 (fun r33 S34 => (¬ (x6 < r33)) ∧ (zGi o 970 mdX4_often [.ref (z_adr o (0, 0, 0)), .int 8] S34 (fun r37 S38 => (¬ (x18 < (x6 - r37))) ∧ (zGi o 970 mdX4_often [.ref (z_adr o (0, 0, 0)), .int 5] S38 (fun r41 S42 => zGi o 970 mdX4_often [.ref (z_adr o (0, 0, 0)), .int 6] S42 (fun r44 S45 => (¬ (r44 < r41)) ∧ (zG o 970 mdL_law 1200 [(0, .ref o.2.2.2.2.1), (1, .ref (z_adr o (0, 0, 0))), (2, .ref (z_adr o (23, 0, 0))), (3, .ref (z_adr o (24, 0, 0))), (4, .int 1), (5, .int x5), (6, .int x6), (7, .int x7), (8, .int x8), (9, .int x9)] [] S45 Q)))))))))))))))))))))) ∧ (¬ x17 ≤ x19 → (zGi o 970 mdX4_fetch [.ref (z_adr o (0, 0, 0)), .int x19, .int 0] S (fun r49 S50 => zGi o 970 mdX4_where [.ref (z_adr o (0, 0, 0)), .int r49] S50 (fun r52 S53 => (¬ (¬ r52 = 3)) ∧ (zGi o 970 mdX4_fetch [.ref (z_adr o (0, 0, 0)), .int x19, .int 1] S53 (fun r56 S57 => (¬ (r56 ≤ 0)) ∧ (zGi o 970 mdX4_fetch [.ref (z_adr o (0, 0, 0)), .int x19, .int 1] S57 (fun r60 S61 => zGi o 970 mdX4_told [.ref (z_adr o (0, 0, 0)), .int 8] S61 (fun r63 S64 => (¬ (r63 < r60)) ∧ (zGi o 970 mdX4_fetch [.ref (z_adr o (0, 0, 0)), .int x19, .int 2] S64 (fun r67 S68 => (¬ (r67 ≤ 0)) ∧ (zGi o 970 mdX4_fetch [.ref (z_adr o (0, 0, 0)), .int x19, .int 2] S68 (fun r71 S72 => zGi o 970 mdX4_told [.ref (z_adr o (0, 0, 0)), .int 7] S72 (fun r74 S75 => (¬ (r74 < r71)) ∧ ((x19 = 0 → (zG o 970 mdL_law 1060 [(0, .ref o.2.2.2.2.1), (1, .ref (z_adr o (0, 0, 0))), (2, .ref (z_adr o (23, 0, 0))), (3, .ref (z_adr o (24, 0, 0))), (4, .int 1), (5, .int x5), (6, .int x6), (7, .int x7), (8, .int x8), (9, .int x9), (16, .int x16), (17, .int x17), (18, .int x18), (19, .int x19)] [] S75 Q)) ∧ (¬ x19 = 0 → (zGi o 970 mdX4_fetch [.ref (z_adr o (0, 0, 0)), .int x19, .int 1] S75 (fun r79 S80 => zGi o 970 mdX4_fetch [.ref (z_adr o (0, 0, 0)), .int (x19 - 1), .int 1] S80 (fun r82 S83 => (¬ (r79 ≤ r82)) ∧ (zG o 970 mdL_law 1060 [(0, .ref o.2.2.2.2.1), (1, .ref (z_adr o (0, 0, 0))), (2, .ref (z_adr o (23, 0, 0))), (3, .ref (z_adr o (24, 0, 0))), (4, .int 1), (5, .int x5), (6, .int x6), (7, .int x7), (8, .int x8), (9, .int x9), (16, .int x16), (17, .int x17), (18, .int x18), (19, .int x19)] [] S83 Q))))))))))))))))))))) : zG o 970 mdL_law 950 [(0, .ref o.2.2.2.2.1), (1, .ref (z_adr o (0, 0, 0))), (2, .ref (z_adr o (23, 0, 0))), (3, .ref (z_adr o (24, 0, 0))), (4, .int 1), (5, .int x5), (6, .int x6), (7, .int x7), (8, .int x8), (9, .int x9), (16, .int x16), (17, .int x17), (18, .int x18), (19, .int x19)] [] S Q := by
  show zJ o mdL_law 950 _ [] (970, z_enc o S) 0 0 _
  refine zJ.iload (pc := 950) 13 dL_law_950 rfl ?_
  refine zJ.iload (pc := 952) 11 dL_law_952 rfl ?_
  refine zJ.icmp_ge (pc := 954) (tgt := 1078) dL_law_954 (by decide) (fun c1 => ?_) (fun c1 => ?_)
  · replace h := h.1 c1
    refine zJ.iload (pc := 1078) 4 dL_law_1078 rfl ?_
    refine zJ.if_eq (pc := 1080) (tgt := 1197) dL_law_1080 (by decide) (fun c2 => absurd c2 (by decide)) (fun c2 => ?_)
    refine zJ.iload (pc := 1083) 10 dL_law_1083 rfl ?_
    refine zJ.aload_n (pc := 1085) 1 dL_law_1085 rfl rfl ?_
    refine zJ.iconst (pc := 1086) (v := 5) dL_law_1086 (by decide) ?_
    refine zG.callVi (d := mdL_law) (pc := 1087) [.int 5] [.int x16] (ob_0 o) ok_0 rfl dL_law_1087 ⟨(cb_X4_told).1, (cb_X4_told).2, (Nat.le_of_ble_eq_true rfl), (Nat.le_of_ble_eq_true rfl)⟩ ml_L_80 ci_X4_told cv_X4_told rfl (Nat.le_of_ble_eq_true rfl) (Nat.le_of_ble_eq_true rfl) rfl h (fun r4 S5 h2 => ?_)
    replace h := h2
    clear h2
    obtain ⟨cN, h⟩ := h
    refine zJ.icmp_gt (pc := 1090) (tgt := 1197) dL_law_1090 (by decide) (fun c6 => absurd c6 cN) (fun _ => ?_)
    clear cN
    refine zJ.iload (pc := 1093) 11 dL_law_1093 rfl ?_
    refine zJ.aload_n (pc := 1095) 1 dL_law_1095 rfl rfl ?_
    refine zJ.bipush (pc := 1096) (v := 6) dL_law_1096 (by decide) ?_
    refine zG.callVi (d := mdL_law) (pc := 1098) [.int 6] [.int x17] (ob_0 o) ok_0 rfl dL_law_1098 ⟨(cb_X4_told).1, (cb_X4_told).2, (Nat.le_of_ble_eq_true rfl), (Nat.le_of_ble_eq_true rfl)⟩ ml_L_80 ci_X4_told cv_X4_told rfl (Nat.le_of_ble_eq_true rfl) (Nat.le_of_ble_eq_true rfl) rfl h (fun r8 S9 h2 => ?_)
    replace h := h2
    clear h2
    obtain ⟨cN, h⟩ := h
    refine zJ.icmp_gt (pc := 1101) (tgt := 1197) dL_law_1101 (by decide) (fun c10 => absurd c10 cN) (fun _ => ?_)
    clear cN
    refine zJ.aload_n (pc := 1104) 1 dL_law_1104 rfl rfl ?_
    refine zJ.iload (pc := 1105) 11 dL_law_1105 rfl ?_
    refine zJ.iconst (pc := 1107) (v := 0) dL_law_1107 (by decide) ?_
    refine zG.callVi (d := mdL_law) (pc := 1108) [.int x17, .int 0] [] (ob_0 o) ok_0 rfl dL_law_1108 ⟨(cb_X4_fetch).1, (cb_X4_fetch).2, (Nat.le_of_ble_eq_true rfl), (Nat.le_of_ble_eq_true rfl)⟩ ml_L_83 ci_X4_fetch cv_X4_fetch rfl (Nat.le_of_ble_eq_true rfl) (Nat.le_of_ble_eq_true rfl) rfl h (fun r12 S13 h2 => ?_)
    replace h := h2
    clear h2
    refine zJ.iconst (pc := 1111) (v := (-1)) dL_law_1111 (by decide) ?_
    obtain ⟨cN, h⟩ := h
    refine zJ.icmp_ne (pc := 1112) (tgt := 1197) dL_law_1112 (by decide) (fun c14 => absurd c14 cN) (fun _ => ?_)
    clear cN
    refine zJ.aload_n (pc := 1115) 1 dL_law_1115 rfl rfl ?_
    refine zJ.iconst (pc := 1116) (v := 0) dL_law_1116 (by decide) ?_
    refine zG.callVi (d := mdL_law) (pc := 1117) [.int 0] [] (ob_0 o) ok_0 rfl dL_law_1117 ⟨(cb_X4_often).1, (cb_X4_often).2, (Nat.le_of_ble_eq_true rfl), (Nat.le_of_ble_eq_true rfl)⟩ ml_L_74 ci_X4_often cv_X4_often rfl (Nat.le_of_ble_eq_true rfl) (Nat.le_of_ble_eq_true rfl) rfl h (fun r16 S17 h2 => ?_)
    replace h := h2
    clear h2
    refine zJ.aload_n (pc := 1120) 1 dL_law_1120 rfl rfl ?_
    refine zJ.iconst (pc := 1121) (v := 1) dL_law_1121 (by decide) ?_
    refine zG.callVi (d := mdL_law) (pc := 1122) [.int 1] [.int r16] (ob_0 o) ok_0 rfl dL_law_1122 ⟨(cb_X4_often).1, (cb_X4_often).2, (Nat.le_of_ble_eq_true rfl), (Nat.le_of_ble_eq_true rfl)⟩ ml_L_74 ci_X4_often cv_X4_often rfl (Nat.le_of_ble_eq_true rfl) (Nat.le_of_ble_eq_true rfl) rfl h (fun r19 S20 h2 => ?_)
    replace h := h2
    clear h2
    refine zJ.iadd (pc := 1125) dL_law_1125 ?_
    refine zJ.aload_n (pc := 1126) 1 dL_law_1126 rfl rfl ?_
    refine zJ.iconst (pc := 1127) (v := 2) dL_law_1127 (by decide) ?_
    refine zG.callVi (d := mdL_law) (pc := 1128) [.int 2] [.int (r16 + r19)] (ob_0 o) ok_0 rfl dL_law_1128 ⟨(cb_X4_often).1, (cb_X4_often).2, (Nat.le_of_ble_eq_true rfl), (Nat.le_of_ble_eq_true rfl)⟩ ml_L_74 ci_X4_often cv_X4_often rfl (Nat.le_of_ble_eq_true rfl) (Nat.le_of_ble_eq_true rfl) rfl h (fun r22 S23 h2 => ?_)
    replace h := h2
    clear h2
    refine zJ.iadd (pc := 1131) dL_law_1131 ?_
    refine zJ.aload_n (pc := 1132) 1 dL_law_1132 rfl rfl ?_
    refine zJ.iconst (pc := 1133) (v := 3) dL_law_1133 (by decide) ?_
    refine zG.callVi (d := mdL_law) (pc := 1134) [.int 3] [.int ((r16 + r19) + r22)] (ob_0 o) ok_0 rfl dL_law_1134 ⟨(cb_X4_often).1, (cb_X4_often).2, (Nat.le_of_ble_eq_true rfl), (Nat.le_of_ble_eq_true rfl)⟩ ml_L_74 ci_X4_often cv_X4_often rfl (Nat.le_of_ble_eq_true rfl) (Nat.le_of_ble_eq_true rfl) rfl h (fun r25 S26 h2 => ?_)
    replace h := h2
    clear h2
    refine zJ.iadd (pc := 1137) dL_law_1137 ?_
    refine zJ.iload (pc := 1138) 7 dL_law_1138 rfl ?_
    obtain ⟨cN, h⟩ := h
    refine zJ.icmp_ne (pc := 1140) (tgt := 1197) dL_law_1140 (by decide) (fun c27 => absurd c27 cN) (fun _ => ?_)
    clear cN
    refine zJ.aload_n (pc := 1143) 1 dL_law_1143 rfl rfl ?_
    refine zJ.bipush (pc := 1144) (v := 7) dL_law_1144 (by decide) ?_
    refine zG.callVi (d := mdL_law) (pc := 1146) [.int 7] [] (ob_0 o) ok_0 rfl dL_law_1146 ⟨(cb_X4_often).1, (cb_X4_often).2, (Nat.le_of_ble_eq_true rfl), (Nat.le_of_ble_eq_true rfl)⟩ ml_L_74 ci_X4_often cv_X4_often rfl (Nat.le_of_ble_eq_true rfl) (Nat.le_of_ble_eq_true rfl) rfl h (fun r29 S30 h2 => ?_)
    replace h := h2
    clear h2
    refine zJ.iload (pc := 1149) 6 dL_law_1149 rfl ?_
    obtain ⟨cN, h⟩ := h
    refine zJ.icmp_ne (pc := 1151) (tgt := 1197) dL_law_1151 (by decide) (fun c31 => absurd c31 cN) (fun _ => ?_)
    clear cN
    refine zJ.aload_n (pc := 1154) 1 dL_law_1154 rfl rfl ?_
    refine zJ.bipush (pc := 1155) (v := 8) dL_law_1155 (by decide) ?_
    refine zG.callVi (d := mdL_law) (pc := 1157) [.int 8] [] (ob_0 o) ok_0 rfl dL_law_1157 ⟨(cb_X4_often).1, (cb_X4_often).2, (Nat.le_of_ble_eq_true rfl), (Nat.le_of_ble_eq_true rfl)⟩ ml_L_74 ci_X4_often cv_X4_often rfl (Nat.le_of_ble_eq_true rfl) (Nat.le_of_ble_eq_true rfl) rfl h (fun r33 S34 h2 => ?_)
    replace h := h2
    clear h2
    refine zJ.iload (pc := 1160) 6 dL_law_1160 rfl ?_
    obtain ⟨cN, h⟩ := h
    refine zJ.icmp_gt (pc := 1162) (tgt := 1197) dL_law_1162 (by decide) (fun c35 => absurd c35 cN) (fun _ => ?_)
    clear cN
    refine zJ.iload (pc := 1165) 6 dL_law_1165 rfl ?_
    refine zJ.aload_n (pc := 1167) 1 dL_law_1167 rfl rfl ?_
    refine zJ.bipush (pc := 1168) (v := 8) dL_law_1168 (by decide) ?_
    refine zG.callVi (d := mdL_law) (pc := 1170) [.int 8] [.int x6] (ob_0 o) ok_0 rfl dL_law_1170 ⟨(cb_X4_often).1, (cb_X4_often).2, (Nat.le_of_ble_eq_true rfl), (Nat.le_of_ble_eq_true rfl)⟩ ml_L_74 ci_X4_often cv_X4_often rfl (Nat.le_of_ble_eq_true rfl) (Nat.le_of_ble_eq_true rfl) rfl h (fun r37 S38 h2 => ?_)
    replace h := h2
    clear h2
    refine zJ.isub (pc := 1173) dL_law_1173 ?_
    refine zJ.iload (pc := 1174) 12 dL_law_1174 rfl ?_
    obtain ⟨cN, h⟩ := h
    refine zJ.icmp_gt (pc := 1176) (tgt := 1197) dL_law_1176 (by decide) (fun c39 => absurd c39 cN) (fun _ => ?_)
    clear cN
    refine zJ.aload_n (pc := 1179) 1 dL_law_1179 rfl rfl ?_
    refine zJ.iconst (pc := 1180) (v := 5) dL_law_1180 (by decide) ?_
    refine zG.callVi (d := mdL_law) (pc := 1181) [.int 5] [] (ob_0 o) ok_0 rfl dL_law_1181 ⟨(cb_X4_often).1, (cb_X4_often).2, (Nat.le_of_ble_eq_true rfl), (Nat.le_of_ble_eq_true rfl)⟩ ml_L_74 ci_X4_often cv_X4_often rfl (Nat.le_of_ble_eq_true rfl) (Nat.le_of_ble_eq_true rfl) rfl h (fun r41 S42 h2 => ?_)
    replace h := h2
    clear h2
    refine zJ.aload_n (pc := 1184) 1 dL_law_1184 rfl rfl ?_
    refine zJ.bipush (pc := 1185) (v := 6) dL_law_1185 (by decide) ?_
    refine zG.callVi (d := mdL_law) (pc := 1187) [.int 6] [.int r41] (ob_0 o) ok_0 rfl dL_law_1187 ⟨(cb_X4_often).1, (cb_X4_often).2, (Nat.le_of_ble_eq_true rfl), (Nat.le_of_ble_eq_true rfl)⟩ ml_L_74 ci_X4_often cv_X4_often rfl (Nat.le_of_ble_eq_true rfl) (Nat.le_of_ble_eq_true rfl) rfl h (fun r44 S45 h2 => ?_)
    replace h := h2
    clear h2
    obtain ⟨cN, h⟩ := h
    refine zJ.icmp_gt (pc := 1190) (tgt := 1197) dL_law_1190 (by decide) (fun c46 => absurd c46 cN) (fun _ => ?_)
    clear cN
    refine zJ.iconst (pc := 1193) (v := 1) dL_law_1193 (by decide) ?_
    refine zJ.goto (pc := 1194) (tgt := 1198) dL_law_1194 (by decide) ?_
    refine zJ.istore (pc := 1198) (lv' := [(4, .int 1), (0, .ref o.2.2.2.2.1), (1, .ref (z_adr o (0, 0, 0))), (2, .ref (z_adr o (23, 0, 0))), (3, .ref (z_adr o (24, 0, 0))), (5, .int x5), (6, .int x6), (7, .int x7), (8, .int x8), (9, .int x9), (16, .int x16), (17, .int x17), (18, .int x18), (19, .int x19)]) dL_law_1198 (Nat.le_of_ble_eq_true rfl) rfl ?_
    exact zJ.sub [1, 2, 3, 4, 0, 5, 6, 7, 8, 9] rfl h
  · replace h := h.2 c1
    refine zJ.iload (pc := 957) 4 dL_law_957 rfl ?_
    refine zJ.if_eq (pc := 959) (tgt := 1057) dL_law_959 (by decide) (fun c47 => absurd c47 (by decide)) (fun c47 => ?_)
    refine zJ.aload_n (pc := 962) 1 dL_law_962 rfl rfl ?_
    refine zJ.aload_n (pc := 963) 1 dL_law_963 rfl rfl ?_
    refine zJ.iload (pc := 964) 13 dL_law_964 rfl ?_
    refine zJ.iconst (pc := 966) (v := 0) dL_law_966 (by decide) ?_
    refine zG.callVi (d := mdL_law) (pc := 967) [.int x19, .int 0] [.ref (z_adr o (0, 0, 0))] (ob_0 o) ok_0 rfl dL_law_967 ⟨(cb_X4_fetch).1, (cb_X4_fetch).2, (Nat.le_of_ble_eq_true rfl), (Nat.le_of_ble_eq_true rfl)⟩ ml_L_83 ci_X4_fetch cv_X4_fetch rfl (Nat.le_of_ble_eq_true rfl) (Nat.le_of_ble_eq_true rfl) rfl h (fun r49 S50 h2 => ?_)
    replace h := h2
    clear h2
    refine zG.callVi (d := mdL_law) (pc := 970) [.int r49] [] (ob_0 o) ok_0 rfl dL_law_970 ⟨(cb_X4_where).1, (cb_X4_where).2, (Nat.le_of_ble_eq_true rfl), (Nat.le_of_ble_eq_true rfl)⟩ ml_L_86 ci_X4_where cv_X4_where rfl (Nat.le_of_ble_eq_true rfl) (Nat.le_of_ble_eq_true rfl) rfl h (fun r52 S53 h2 => ?_)
    replace h := h2
    clear h2
    refine zJ.iconst (pc := 973) (v := 3) dL_law_973 (by decide) ?_
    obtain ⟨cN, h⟩ := h
    refine zJ.icmp_ne (pc := 974) (tgt := 1057) dL_law_974 (by decide) (fun c54 => absurd c54 cN) (fun _ => ?_)
    clear cN
    refine zJ.aload_n (pc := 977) 1 dL_law_977 rfl rfl ?_
    refine zJ.iload (pc := 978) 13 dL_law_978 rfl ?_
    refine zJ.iconst (pc := 980) (v := 1) dL_law_980 (by decide) ?_
    refine zG.callVi (d := mdL_law) (pc := 981) [.int x19, .int 1] [] (ob_0 o) ok_0 rfl dL_law_981 ⟨(cb_X4_fetch).1, (cb_X4_fetch).2, (Nat.le_of_ble_eq_true rfl), (Nat.le_of_ble_eq_true rfl)⟩ ml_L_83 ci_X4_fetch cv_X4_fetch rfl (Nat.le_of_ble_eq_true rfl) (Nat.le_of_ble_eq_true rfl) rfl h (fun r56 S57 h2 => ?_)
    replace h := h2
    clear h2
    obtain ⟨cN, h⟩ := h
    refine zJ.if_le (pc := 984) (tgt := 1057) dL_law_984 (by decide) (fun c58 => absurd c58 cN) (fun _ => ?_)
    clear cN
    refine zJ.aload_n (pc := 987) 1 dL_law_987 rfl rfl ?_
    refine zJ.iload (pc := 988) 13 dL_law_988 rfl ?_
    refine zJ.iconst (pc := 990) (v := 1) dL_law_990 (by decide) ?_
    refine zG.callVi (d := mdL_law) (pc := 991) [.int x19, .int 1] [] (ob_0 o) ok_0 rfl dL_law_991 ⟨(cb_X4_fetch).1, (cb_X4_fetch).2, (Nat.le_of_ble_eq_true rfl), (Nat.le_of_ble_eq_true rfl)⟩ ml_L_83 ci_X4_fetch cv_X4_fetch rfl (Nat.le_of_ble_eq_true rfl) (Nat.le_of_ble_eq_true rfl) rfl h (fun r60 S61 h2 => ?_)
    replace h := h2
    clear h2
    refine zJ.aload_n (pc := 994) 1 dL_law_994 rfl rfl ?_
    refine zJ.bipush (pc := 995) (v := 8) dL_law_995 (by decide) ?_
    refine zG.callVi (d := mdL_law) (pc := 997) [.int 8] [.int r60] (ob_0 o) ok_0 rfl dL_law_997 ⟨(cb_X4_told).1, (cb_X4_told).2, (Nat.le_of_ble_eq_true rfl), (Nat.le_of_ble_eq_true rfl)⟩ ml_L_80 ci_X4_told cv_X4_told rfl (Nat.le_of_ble_eq_true rfl) (Nat.le_of_ble_eq_true rfl) rfl h (fun r63 S64 h2 => ?_)
    replace h := h2
    clear h2
    obtain ⟨cN, h⟩ := h
    refine zJ.icmp_gt (pc := 1000) (tgt := 1057) dL_law_1000 (by decide) (fun c65 => absurd c65 cN) (fun _ => ?_)
    clear cN
    refine zJ.aload_n (pc := 1003) 1 dL_law_1003 rfl rfl ?_
    refine zJ.iload (pc := 1004) 13 dL_law_1004 rfl ?_
    refine zJ.iconst (pc := 1006) (v := 2) dL_law_1006 (by decide) ?_
    refine zG.callVi (d := mdL_law) (pc := 1007) [.int x19, .int 2] [] (ob_0 o) ok_0 rfl dL_law_1007 ⟨(cb_X4_fetch).1, (cb_X4_fetch).2, (Nat.le_of_ble_eq_true rfl), (Nat.le_of_ble_eq_true rfl)⟩ ml_L_83 ci_X4_fetch cv_X4_fetch rfl (Nat.le_of_ble_eq_true rfl) (Nat.le_of_ble_eq_true rfl) rfl h (fun r67 S68 h2 => ?_)
    replace h := h2
    clear h2
    obtain ⟨cN, h⟩ := h
    refine zJ.if_le (pc := 1010) (tgt := 1057) dL_law_1010 (by decide) (fun c69 => absurd c69 cN) (fun _ => ?_)
    clear cN
    refine zJ.aload_n (pc := 1013) 1 dL_law_1013 rfl rfl ?_
    refine zJ.iload (pc := 1014) 13 dL_law_1014 rfl ?_
    refine zJ.iconst (pc := 1016) (v := 2) dL_law_1016 (by decide) ?_
    refine zG.callVi (d := mdL_law) (pc := 1017) [.int x19, .int 2] [] (ob_0 o) ok_0 rfl dL_law_1017 ⟨(cb_X4_fetch).1, (cb_X4_fetch).2, (Nat.le_of_ble_eq_true rfl), (Nat.le_of_ble_eq_true rfl)⟩ ml_L_83 ci_X4_fetch cv_X4_fetch rfl (Nat.le_of_ble_eq_true rfl) (Nat.le_of_ble_eq_true rfl) rfl h (fun r71 S72 h2 => ?_)
    replace h := h2
    clear h2
    refine zJ.aload_n (pc := 1020) 1 dL_law_1020 rfl rfl ?_
    refine zJ.bipush (pc := 1021) (v := 7) dL_law_1021 (by decide) ?_
    refine zG.callVi (d := mdL_law) (pc := 1023) [.int 7] [.int r71] (ob_0 o) ok_0 rfl dL_law_1023 ⟨(cb_X4_told).1, (cb_X4_told).2, (Nat.le_of_ble_eq_true rfl), (Nat.le_of_ble_eq_true rfl)⟩ ml_L_80 ci_X4_told cv_X4_told rfl (Nat.le_of_ble_eq_true rfl) (Nat.le_of_ble_eq_true rfl) rfl h (fun r74 S75 h2 => ?_)
    replace h := h2
    clear h2
    obtain ⟨cN, h⟩ := h
    refine zJ.icmp_gt (pc := 1026) (tgt := 1057) dL_law_1026 (by decide) (fun c76 => absurd c76 cN) (fun _ => ?_)
    clear cN
    refine zJ.iload (pc := 1029) 13 dL_law_1029 rfl ?_
    refine zJ.if_eq (pc := 1031) (tgt := 1053) dL_law_1031 (by decide) (fun c77 => ?_) (fun c77 => ?_)
    · replace h := h.1 c77
      refine zJ.iconst (pc := 1053) (v := 1) dL_law_1053 (by decide) ?_
      refine zJ.goto (pc := 1054) (tgt := 1058) dL_law_1054 (by decide) ?_
      refine zJ.istore (pc := 1058) (lv' := [(4, .int 1), (0, .ref o.2.2.2.2.1), (1, .ref (z_adr o (0, 0, 0))), (2, .ref (z_adr o (23, 0, 0))), (3, .ref (z_adr o (24, 0, 0))), (5, .int x5), (6, .int x6), (7, .int x7), (8, .int x8), (9, .int x9), (16, .int x16), (17, .int x17), (18, .int x18), (19, .int x19)]) dL_law_1058 (Nat.le_of_ble_eq_true rfl) rfl ?_
      exact zJ.sub [1, 2, 3, 4, 0, 5, 6, 7, 8, 9, 10, 11, 12, 13] rfl h
    · replace h := h.2 c77
      refine zJ.aload_n (pc := 1034) 1 dL_law_1034 rfl rfl ?_
      refine zJ.iload (pc := 1035) 13 dL_law_1035 rfl ?_
      refine zJ.iconst (pc := 1037) (v := 1) dL_law_1037 (by decide) ?_
      refine zG.callVi (d := mdL_law) (pc := 1038) [.int x19, .int 1] [] (ob_0 o) ok_0 rfl dL_law_1038 ⟨(cb_X4_fetch).1, (cb_X4_fetch).2, (Nat.le_of_ble_eq_true rfl), (Nat.le_of_ble_eq_true rfl)⟩ ml_L_83 ci_X4_fetch cv_X4_fetch rfl (Nat.le_of_ble_eq_true rfl) (Nat.le_of_ble_eq_true rfl) rfl h (fun r79 S80 h2 => ?_)
      replace h := h2
      clear h2
      refine zJ.aload_n (pc := 1041) 1 dL_law_1041 rfl rfl ?_
      refine zJ.iload (pc := 1042) 13 dL_law_1042 rfl ?_
      refine zJ.iconst (pc := 1044) (v := 1) dL_law_1044 (by decide) ?_
      refine zJ.isub (pc := 1045) dL_law_1045 ?_
      refine zJ.iconst (pc := 1046) (v := 1) dL_law_1046 (by decide) ?_
      refine zG.callVi (d := mdL_law) (pc := 1047) [.int (x19 - 1), .int 1] [.int r79] (ob_0 o) ok_0 rfl dL_law_1047 ⟨(cb_X4_fetch).1, (cb_X4_fetch).2, (Nat.le_of_ble_eq_true rfl), (Nat.le_of_ble_eq_true rfl)⟩ ml_L_83 ci_X4_fetch cv_X4_fetch rfl (Nat.le_of_ble_eq_true rfl) (Nat.le_of_ble_eq_true rfl) rfl h (fun r82 S83 h2 => ?_)
      replace h := h2
      clear h2
      obtain ⟨cN, h⟩ := h
      refine zJ.icmp_le (pc := 1050) (tgt := 1057) dL_law_1050 (by decide) (fun c84 => absurd c84 cN) (fun _ => ?_)
      clear cN
      refine zJ.iconst (pc := 1053) (v := 1) dL_law_1053 (by decide) ?_
      refine zJ.goto (pc := 1054) (tgt := 1058) dL_law_1054 (by decide) ?_
      refine zJ.istore (pc := 1058) (lv' := [(4, .int 1), (0, .ref o.2.2.2.2.1), (1, .ref (z_adr o (0, 0, 0))), (2, .ref (z_adr o (23, 0, 0))), (3, .ref (z_adr o (24, 0, 0))), (5, .int x5), (6, .int x6), (7, .int x7), (8, .int x8), (9, .int x9), (16, .int x16), (17, .int x17), (18, .int x18), (19, .int x19)]) dL_law_1058 (Nat.le_of_ble_eq_true rfl) rfl ?_
      exact zJ.sub [1, 2, 3, 4, 0, 5, 6, 7, 8, 9, 10, 11, 12, 13] rfl h
